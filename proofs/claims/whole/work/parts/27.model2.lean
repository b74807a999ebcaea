def f_X9_roomOf  (za0 : Int32) (S : oS) : Option (Int32 × oS) :=
  if za0 = 0 then (
  some ((2 : Int32), S)) else (
  if za0 = (1 : Int32) then (
  some ((3 : Int32), S)) else (
  some ((4 : Int32), S)))
set_option maxHeartbeats 4000000 in
theorem s_X9_roomOf {G : oG} {r : oR} (d : Nat) (hd : 1 ≤ d) {za0 : Int32}  {S : oS} {P : Int32 × oS → Prop} (h : oH (f_X9_roomOf za0 S) P) : oCt G r d yX9_roomOf mX9_roomOf [oi za0] S (oQi P) := by
  unfold f_X9_roomOf at h
  refine oCt_of (by decide) rfl (Nat.le_of_ble_eq_true rfl) ?_
  intro X hG hr hE0 hR
  subst hG; subst hr
  obtain ⟨e, rfl⟩ : ∃ e, d = e + 1 := ⟨d - 1, by omega⟩
  have he : 0 ≤ e := by omega
  have hE := oEI_of hE0 rfl
  clear hE0 hd
  show oVv X mX9_roomOf 0 [(0, oi za0)] [] S
  refine o_iload_n (pc := 0) dX9_roomOf_0 rfl 0 rfl ?_
  refine o_if_ne 8 (pc := 1) dX9_roomOf_1 (by decide) (fun hc => ?_) (fun hc => ?_)
  · have h := oH_F hc h
    refine o_iload_n (pc := 8) dX9_roomOf_8 rfl 0 rfl ?_
    refine o_iconst (v := 1) (pc := 9) dX9_roomOf_9 (by decide) ?_
    refine o_icmp_ne 17 (pc := 10) dX9_roomOf_10 (by decide) (fun hc => ?_) (fun hc => ?_)
    · have h := oH_F hc h
      refine o_iconst (v := 4) (pc := 17) dX9_roomOf_17 (by decide) ?_
      exact hE _ _ _ _ dX9_roomOf_18 (oH_some h)
    · have h := oH_T hc h
      refine o_iconst (v := 3) (pc := 13) dX9_roomOf_13 (by decide) ?_
      refine o_goto 18 (pc := 14) dX9_roomOf_14 (by decide) ?_
      exact hE _ _ _ _ dX9_roomOf_18 (oH_some h)
  · have h := oH_T hc h
    refine o_iconst (v := 2) (pc := 4) dX9_roomOf_4 (by decide) ?_
    refine o_goto 18 (pc := 5) dX9_roomOf_5 (by decide) ?_
    exact hE _ _ _ _ dX9_roomOf_18 (oH_some h)
def f_X9_canGo  (za1 : Int32) (S : oS) : Option (Int32 × oS) :=
  if oIn za1 200 then (
  oLet (S.1 1027 0 (Int32.toNatClampNeg za1)) fun zx1 =>
  (f_X9_countRing zx1 za1 S).bind fun zz2 =>
  (f_X9_used zz2).bind fun zz3 =>
  (f_X9_roomOf zx1 zz3.2).bind fun zz4 =>
  if zz4.1 < zz3.1 then (
  some ((0 : Int32), zz4.2)) else (
  some ((1 : Int32), zz4.2))) else none
set_option maxHeartbeats 4000000 in
theorem s_X9_canGo {G : oG} {r : oR} (d : Nat) (hd : 3 ≤ d) {za1 : Int32}  {S : oS} {P : Int32 × oS → Prop} (h : oH (f_X9_canGo za1 S) P) : oCt G r d yX9_canGo mX9_canGo [orf 1000 0, oi za1] S (oQi P) := by
  unfold f_X9_canGo at h
  refine oCt_of (by decide) rfl (Nat.le_of_ble_eq_true rfl) ?_
  intro X hG hr hE0 hR
  subst hG; subst hr
  obtain ⟨e, rfl⟩ : ∃ e, d = e + 1 := ⟨d - 1, by omega⟩
  have he : 2 ≤ e := by omega
  have hE := oEZ_of hE0 rfl
  clear hE0 hd
  show oVv X mX9_canGo 0 [(0, orf 1000 0), (1, oi za1)] [] S
  refine o_aload_n (pc := 0) dX9_canGo_0 rfl 0 rfl ?_
  refine o_getA (pc := 1) fd_RX9_64 ft_1000_26 j_1000 dX9_canGo_1 ?_
  refine o_iload_n (pc := 4) dX9_canGo_4 rfl 1 rfl ?_
  obtain ⟨hg, h⟩ := oH_G h
  refine o_iald (pc := 5) kd_1027 j_1027 hg dX9_canGo_5 ?_
  refine o_nmI (fun zx1 hx => ?_)
  have h := oH_let h zx1 hx
  clear hx
  refine o_istore_n (lv1 := [(0, orf 1000 0), (1, oi za1), (2, oi zx1)]) (pc := 6) dX9_canGo_6 rfl (by decide) rfl ?_
  refine o_aload_n (pc := 7) dX9_canGo_7 rfl 0 rfl ?_
  refine o_iload_n (pc := 8) dX9_canGo_8 rfl 2 rfl ?_
  refine o_iload_n (pc := 9) dX9_canGo_9 rfl 1 rfl ?_
  have h := oH_bind h
  refine o_callVv (pc := 10) (st := []) [oi zx1, oi za1] hR md_X9_countRing wd_1174 wd_1176 ws_34 tc_1000 j_1000 rfl (Nat.le_of_ble_eq_true rfl) rfl dX9_canGo_10 (s_X9_countRing e (by omega)  h) (fun zz2 h => ?_)
  refine o_aload_n (pc := 13) dX9_canGo_13 rfl 0 rfl ?_
  have h := oH_bind h
  refine o_callVi (pc := 14) (st := []) [] hR md_X9_used wd_1186 wd_1188 ws_37 tc_1000 j_1000 rfl (Nat.le_of_ble_eq_true rfl) rfl dX9_canGo_14 (s_X9_used e (by omega)  h) (fun zz3 h => ?_)
  refine o_iload_n (pc := 17) dX9_canGo_17 rfl 2 rfl ?_
  have h := oH_bind h
  refine o_callSi (pc := 18) (st := [oi zz3.1]) [oi zx1] hR md_X9_roomOf wd_1190 wd_1191 rfl (Nat.le_of_ble_eq_true rfl) rfl dX9_canGo_18 (s_X9_roomOf e (by omega)  h) (fun zz4 h => ?_)
  refine o_icmp_gt 28 (pc := 21) dX9_canGo_21 (by decide) (fun hc => ?_) (fun hc => ?_)
  · have h := oH_T hc h
    refine o_iconst (v := 0) (pc := 28) dX9_canGo_28 (by decide) ?_
    exact hE _ _ _ _ dX9_canGo_29 (by decide) (oH_some h)
  · have h := oH_F hc h
    refine o_iconst (v := 1) (pc := 24) dX9_canGo_24 (by decide) ?_
    refine o_goto 29 (pc := 25) dX9_canGo_25 (by decide) ?_
    exact hE _ _ _ _ dX9_canGo_29 (by decide) (oH_some h)
def f_X9_clear   (S : oS) : Option (Int32 × oS) :=
  oLet (S.1 1000 0 32) fun zx1 =>
  oLet (oStI S 1000 0 32 (0 : Int32)) fun zS2 =>
  oLet (oStI zS2 1000 0 34 (0 : Int32)) fun zS3 =>
  some (zx1, zS3)
set_option maxHeartbeats 4000000 in
theorem s_X9_clear {G : oG} {r : oR} (d : Nat) (hd : 1 ≤ d)   {S : oS} {P : Int32 × oS → Prop} (h : oH (f_X9_clear  S) P) : oCt G r d yX9_clear mX9_clear [orf 1000 0] S (oQi P) := by
  unfold f_X9_clear at h
  refine oCt_of (by decide) rfl (Nat.le_of_ble_eq_true rfl) ?_
  intro X hG hr hE0 hR
  subst hG; subst hr
  obtain ⟨e, rfl⟩ : ∃ e, d = e + 1 := ⟨d - 1, by omega⟩
  have he : 0 ≤ e := by omega
  have hE := oEI_of hE0 rfl
  clear hE0 hd
  show oVv X mX9_clear 0 [(0, orf 1000 0)] [] S
  refine o_aload_n (pc := 0) dX9_clear_0 rfl 0 rfl ?_
  refine o_getI (pc := 1) fd_RX9_300 ft_1000_32 j_1000 dX9_clear_1 ?_
  refine o_nmI (fun zx1 hx => ?_)
  have h := oH_let h zx1 hx
  clear hx
  refine o_istore_n (lv1 := [(0, orf 1000 0), (1, oi zx1)]) (pc := 4) dX9_clear_4 rfl (by decide) rfl ?_
  refine o_aload_n (pc := 5) dX9_clear_5 rfl 0 rfl ?_
  refine o_iconst (v := 0) (pc := 6) dX9_clear_6 (by decide) ?_
  refine o_putI (pc := 7) fd_RX9_300 fp_1000_32 ft_1000_32 rfl rfl j_1000 dX9_clear_7 ?_
  refine o_nmS (fun zS2 hx => ?_)
  have h := oH_let h zS2 hx
  clear hx
  refine o_aload_n (pc := 10) dX9_clear_10 rfl 0 rfl ?_
  refine o_iconst (v := 0) (pc := 11) dX9_clear_11 (by decide) ?_
  refine o_putI (pc := 12) fd_RX9_303 fp_1000_34 ft_1000_34 rfl rfl j_1000 dX9_clear_12 ?_
  refine o_nmS (fun zS3 hx => ?_)
  have h := oH_let h zS3 hx
  clear hx
  refine o_iload_n (pc := 15) dX9_clear_15 rfl 1 rfl ?_
  exact hE _ _ _ _ dX9_clear_16 (oH_some h)
def f_X9_inside_K26 (zv2 : Int32) (zs0 : Int32) (zs1 : Int32) (S : oS) : Option ((Int32 × Int32 × oS) ⊕ (Int32 × oS)) :=
  oLet ((zs0 + zs1)) fun zx2 =>
  oLet (zv2 + (1 : Int32)) fun zx3 =>
  some (Sum.inl (zx2, zx3, S))
set_option maxHeartbeats 4000000 in
theorem s_X9_inside_K26 {X : oX} {e : Nat} (he : 1 ≤ e) (hR : oRoom X (e + 1)) {zv2 : Int32} {zs0 : Int32} {zs1 : Int32} {VH : Int32 × Int32 × oS → Prop} {VE : Int32 × oS → Prop} (hVH : ∀ z, VH z → oVv X mX9_inside 4 [(0, orf 1000 0), (1, oi z.1), (2, oi z.2.1)] [] z.2.2) (hVE : ∀ z, VE z → oVv X mX9_inside 34 [(1, oi z.1)] [] z.2) {S : oS} (h : oH (f_X9_inside_K26 zv2 zs0 zs1 S) (fun z => Sum.elim VH VE z)) : oVv X mX9_inside 26 [(0, orf 1000 0), (2, oi zv2)] [oi zs1, oi zs0] S := by
  unfold f_X9_inside_K26 at h
  refine o_iadd (pc := 26) dX9_inside_26 ?_
  refine o_nmI (fun zx2 hx => ?_)
  have h := oH_let h zx2 hx
  clear hx
  refine o_istore_n (lv1 := [(0, orf 1000 0), (1, oi zx2), (2, oi zv2)]) (pc := 27) dX9_inside_27 rfl (by decide) rfl ?_
  obtain ⟨zx3, hx⟩ : ∃ y : Int32, y = zv2 + (1 : Int32) := ⟨_, rfl⟩
  have h := oH_let h zx3 hx
  refine o_iinc (lv1 := [(0, orf 1000 0), (1, oi zx2), (2, oi zx3)]) (pc := 28) dX9_inside_28 2 rfl hx.symm (by decide) rfl ?_
  clear hx
  refine o_goto 4 (pc := 31) dX9_inside_31 (by decide) ?_
  exact hVH _ (oH_some (P := fun z => Sum.elim VH VE z) h)
def f_X9_inside_L4  : Int32 × Int32 × oS → Option ((Int32 × Int32 × oS) ⊕ (Int32 × oS)) := fun w =>
  match w with
  | (zv1, zv2, S) =>
    if (S.1 1000 0 24) ≤ zv2 then (
    some (Sum.inr (zv1, S))) else (
    (f_X9_isInside zv2 S).bind fun zz1 =>
    if zz1.1 = 0 then (
    f_X9_inside_K26 zv2 zv1 (0 : Int32) zz1.2) else (
    f_X9_inside_K26 zv2 zv1 (1 : Int32) zz1.2))
set_option maxHeartbeats 4000000 in
theorem s_X9_inside_L4b {X : oX} {e : Nat} (he : 1 ≤ e) (hR : oRoom X (e + 1))  {VH : Int32 × Int32 × oS → Prop} {VE : Int32 × oS → Prop} (hVH : ∀ z, VH z → oVv X mX9_inside 4 [(0, orf 1000 0), (1, oi z.1), (2, oi z.2.1)] [] z.2.2) (hVE : ∀ z, VE z → oVv X mX9_inside 34 [(1, oi z.1)] [] z.2) {zv1 : Int32} {zv2 : Int32} {S : oS} (h : oH (f_X9_inside_L4 (zv1, zv2, S)) (fun z => Sum.elim VH VE z)) : oVv X mX9_inside 4 [(0, orf 1000 0), (1, oi zv1), (2, oi zv2)] [] S := by
  dsimp only [f_X9_inside_L4] at h
  refine o_iload_n (pc := 4) dX9_inside_4 rfl 2 rfl ?_
  refine o_aload_n (pc := 5) dX9_inside_5 rfl 0 rfl ?_
  refine o_getI (pc := 6) fd_RX9_193 ft_1000_24 j_1000 dX9_inside_6 ?_
  refine o_icmp_ge 34 (pc := 9) dX9_inside_9 (by decide) (fun hc => ?_) (fun hc => ?_)
  · have h := oH_T hc h
    refine o_weak [1] rfl ?_
    exact hVE _ (oH_some (P := fun z => Sum.elim VH VE z) h)
  · have h := oH_F hc h
    refine o_iload_n (pc := 12) dX9_inside_12 rfl 1 rfl ?_
    refine o_aload_n (pc := 13) dX9_inside_13 rfl 0 rfl ?_
    refine o_iload_n (pc := 14) dX9_inside_14 rfl 2 rfl ?_
    have h := oH_bind h
    refine o_callVi (pc := 15) (st := [oi zv1]) [oi zv2] hR md_X9_isInside wd_1128 wd_1130 ws_29 tc_1000 j_1000 rfl (Nat.le_of_ble_eq_true rfl) rfl dX9_inside_15 (s_X9_isInside e (by omega)  h) (fun zz1 h => ?_)
    refine o_if_eq 25 (pc := 18) dX9_inside_18 (by decide) (fun hc => ?_) (fun hc => ?_)
    · have h := oH_T hc h
      refine o_iconst (v := 0) (pc := 25) dX9_inside_25 (by decide) ?_
      refine o_weak [0, 2] rfl ?_
      exact s_X9_inside_K26 he hR  hVH hVE h
    · have h := oH_F hc h
      refine o_iconst (v := 1) (pc := 21) dX9_inside_21 (by decide) ?_
      refine o_goto 26 (pc := 22) dX9_inside_22 (by decide) ?_
      refine o_weak [0, 2] rfl ?_
      exact s_X9_inside_K26 he hR  hVH hVE h
theorem s_X9_inside_L4 {X : oX} {e : Nat} (he : 1 ≤ e) (hR : oRoom X (e + 1))   {VE : Int32 × oS → Prop} (hVE : ∀ z, VE z → oVv X mX9_inside 34 [(1, oi z.1)] [] z.2) (n : Nat) (w : Int32 × Int32 × oS) (h : oH (oLp (f_X9_inside_L4) n w) VE) : oVv X mX9_inside 4 [(0, orf 1000 0), (1, oi w.1), (2, oi w.2.1)] [] w.2.2 :=
  oLp_s (VH := fun w => oVv X mX9_inside 4 [(0, orf 1000 0), (1, oi w.1), (2, oi w.2.1)] [] w.2.2) (fun w h => s_X9_inside_L4b he hR  (fun _ h => h) hVE h) n w h
def f_X9_inside   (S : oS) : Option (Int32 × oS) :=
  (oLp (f_X9_inside_L4) oFu ((0 : Int32), (0 : Int32), S)).bind fun zz4 =>
  some (zz4.1, zz4.2)
set_option maxHeartbeats 4000000 in
theorem s_X9_inside {G : oG} {r : oR} (d : Nat) (hd : 2 ≤ d)   {S : oS} {P : Int32 × oS → Prop} (h : oH (f_X9_inside  S) P) : oCt G r d yX9_inside mX9_inside [orf 1000 0] S (oQi P) := by
  unfold f_X9_inside at h
  refine oCt_of (by decide) rfl (Nat.le_of_ble_eq_true rfl) ?_
  intro X hG hr hE0 hR
  subst hG; subst hr
  obtain ⟨e, rfl⟩ : ∃ e, d = e + 1 := ⟨d - 1, by omega⟩
  have he : 1 ≤ e := by omega
  have hE := oEI_of hE0 rfl
  clear hE0 hd
  show oVv X mX9_inside 0 [(0, orf 1000 0)] [] S
  refine o_iconst (v := 0) (pc := 0) dX9_inside_0 (by decide) ?_
  refine o_istore_n (lv1 := [(0, orf 1000 0), (1, oi (0 : Int32))]) (pc := 1) dX9_inside_1 rfl (by decide) rfl ?_
  refine o_iconst (v := 0) (pc := 2) dX9_inside_2 (by decide) ?_
  refine o_istore_n (lv1 := [(0, orf 1000 0), (1, oi (0 : Int32)), (2, oi (0 : Int32))]) (pc := 3) dX9_inside_3 rfl (by decide) rfl ?_
  have h := oH_bind h
  refine s_X9_inside_L4 he hR  (fun zz4 h => ?_) _ ((0 : Int32), (0 : Int32), S) h
  refine o_iload_n (pc := 34) dX9_inside_34 rfl 0 rfl ?_
  exact hE _ _ _ _ dX9_inside_35 (oH_some h)
def f_X9_notesOf_K28 (zv1 : Int32) (zv3 : Int32) (zs0 : Int32) (zs1 : Int32) (S : oS) : Option ((Int32 × Int32 × oS) ⊕ (Int32 × oS)) :=
  oLet ((zs0 + zs1)) fun zx1 =>
  oLet (zv3 + (1 : Int32)) fun zx2 =>
  some (Sum.inl (zx1, zx2, S))
set_option maxHeartbeats 4000000 in
theorem s_X9_notesOf_K28 {X : oX} {e : Nat} (he : 0 ≤ e) (hR : oRoom X (e + 1)) {zv1 : Int32} {zv3 : Int32} {zs0 : Int32} {zs1 : Int32} {VH : Int32 × Int32 × oS → Prop} {VE : Int32 × oS → Prop} (hVH : ∀ z, VH z → oVv X mX9_notesOf 4 [(0, orf 1000 0), (1, oi zv1), (2, oi z.1), (3, oi z.2.1)] [] z.2.2) (hVE : ∀ z, VE z → oVv X mX9_notesOf 36 [(2, oi z.1)] [] z.2) {S : oS} (h : oH (f_X9_notesOf_K28 zv1 zv3 zs0 zs1 S) (fun z => Sum.elim VH VE z)) : oVv X mX9_notesOf 28 [(0, orf 1000 0), (1, oi zv1), (3, oi zv3)] [oi zs1, oi zs0] S := by
  unfold f_X9_notesOf_K28 at h
  refine o_iadd (pc := 28) dX9_notesOf_28 ?_
  refine o_nmI (fun zx1 hx => ?_)
  have h := oH_let h zx1 hx
  clear hx
  refine o_istore_n (lv1 := [(0, orf 1000 0), (1, oi zv1), (2, oi zx1), (3, oi zv3)]) (pc := 29) dX9_notesOf_29 rfl (by decide) rfl ?_
  obtain ⟨zx2, hx⟩ : ∃ y : Int32, y = zv3 + (1 : Int32) := ⟨_, rfl⟩
  have h := oH_let h zx2 hx
  refine o_iinc (lv1 := [(0, orf 1000 0), (1, oi zv1), (2, oi zx1), (3, oi zx2)]) (pc := 30) dX9_notesOf_30 3 rfl hx.symm (by decide) rfl ?_
  clear hx
  refine o_goto 4 (pc := 33) dX9_notesOf_33 (by decide) ?_
  exact hVH _ (oH_some (P := fun z => Sum.elim VH VE z) h)
def f_X9_notesOf_L4 (zv1 : Int32) : Int32 × Int32 × oS → Option ((Int32 × Int32 × oS) ⊕ (Int32 × oS)) := fun w =>
  match w with
  | (zv2, zv3, S) =>
    if (4 : Int32) ≤ zv3 then (
    some (Sum.inr (zv2, S))) else (
    if oIn (((4 : Int32) * zv1) + zv3) 244 then (
    if (S.1 1046 0 (Int32.toNatClampNeg (((4 : Int32) * zv1) + zv3))) ≤ 0 then (
    f_X9_notesOf_K28 zv1 zv3 zv2 (0 : Int32) S) else (
    f_X9_notesOf_K28 zv1 zv3 zv2 (1 : Int32) S)) else none)
set_option maxHeartbeats 4000000 in
theorem s_X9_notesOf_L4b {X : oX} {e : Nat} (he : 0 ≤ e) (hR : oRoom X (e + 1)) {zv1 : Int32} {VH : Int32 × Int32 × oS → Prop} {VE : Int32 × oS → Prop} (hVH : ∀ z, VH z → oVv X mX9_notesOf 4 [(0, orf 1000 0), (1, oi zv1), (2, oi z.1), (3, oi z.2.1)] [] z.2.2) (hVE : ∀ z, VE z → oVv X mX9_notesOf 36 [(2, oi z.1)] [] z.2) {zv2 : Int32} {zv3 : Int32} {S : oS} (h : oH (f_X9_notesOf_L4 zv1 (zv2, zv3, S)) (fun z => Sum.elim VH VE z)) : oVv X mX9_notesOf 4 [(0, orf 1000 0), (1, oi zv1), (2, oi zv2), (3, oi zv3)] [] S := by
  dsimp only [f_X9_notesOf_L4] at h
  refine o_iload_n (pc := 4) dX9_notesOf_4 rfl 3 rfl ?_
  refine o_iconst (v := 4) (pc := 5) dX9_notesOf_5 (by decide) ?_
  refine o_icmp_ge 36 (pc := 6) dX9_notesOf_6 (by decide) (fun hc => ?_) (fun hc => ?_)
  · have h := oH_T hc h
    refine o_weak [2] rfl ?_
    exact hVE _ (oH_some (P := fun z => Sum.elim VH VE z) h)
  · have h := oH_F hc h
    refine o_iload_n (pc := 9) dX9_notesOf_9 rfl 2 rfl ?_
    refine o_aload_n (pc := 10) dX9_notesOf_10 rfl 0 rfl ?_
    refine o_getA (pc := 11) fd_RX9_103 ft_1000_45 j_1000 dX9_notesOf_11 ?_
    refine o_iconst (v := 4) (pc := 14) dX9_notesOf_14 (by decide) ?_
    refine o_iload_n (pc := 15) dX9_notesOf_15 rfl 1 rfl ?_
    refine o_imul (pc := 16) dX9_notesOf_16 ?_
    refine o_iload_n (pc := 17) dX9_notesOf_17 rfl 3 rfl ?_
    refine o_iadd (pc := 18) dX9_notesOf_18 ?_
    obtain ⟨hg, h⟩ := oH_G h
    refine o_iald (pc := 19) kd_1046 j_1046 hg dX9_notesOf_19 ?_
    refine o_if_le 27 (pc := 20) dX9_notesOf_20 (by decide) (fun hc => ?_) (fun hc => ?_)
    · have h := oH_T hc h
      refine o_iconst (v := 0) (pc := 27) dX9_notesOf_27 (by decide) ?_
      refine o_weak [0, 1, 3] rfl ?_
      exact s_X9_notesOf_K28 he hR  hVH hVE h
    · have h := oH_F hc h
      refine o_iconst (v := 1) (pc := 23) dX9_notesOf_23 (by decide) ?_
      refine o_goto 28 (pc := 24) dX9_notesOf_24 (by decide) ?_
      refine o_weak [0, 1, 3] rfl ?_
      exact s_X9_notesOf_K28 he hR  hVH hVE h
theorem s_X9_notesOf_L4 {X : oX} {e : Nat} (he : 0 ≤ e) (hR : oRoom X (e + 1)) {zv1 : Int32}  {VE : Int32 × oS → Prop} (hVE : ∀ z, VE z → oVv X mX9_notesOf 36 [(2, oi z.1)] [] z.2) (n : Nat) (w : Int32 × Int32 × oS) (h : oH (oLp (f_X9_notesOf_L4 zv1) n w) VE) : oVv X mX9_notesOf 4 [(0, orf 1000 0), (1, oi zv1), (2, oi w.1), (3, oi w.2.1)] [] w.2.2 :=
  oLp_s (VH := fun w => oVv X mX9_notesOf 4 [(0, orf 1000 0), (1, oi zv1), (2, oi w.1), (3, oi w.2.1)] [] w.2.2) (fun w h => s_X9_notesOf_L4b he hR  (fun _ h => h) hVE h) n w h
def f_X9_notesOf  (za1 : Int32) (S : oS) : Option (Int32 × oS) :=
  (oLp (f_X9_notesOf_L4 za1) oFu ((0 : Int32), (0 : Int32), S)).bind fun zz3 =>
  some (zz3.1, zz3.2)
set_option maxHeartbeats 4000000 in
theorem s_X9_notesOf {G : oG} {r : oR} (d : Nat) (hd : 1 ≤ d) {za1 : Int32}  {S : oS} {P : Int32 × oS → Prop} (h : oH (f_X9_notesOf za1 S) P) : oCt G r d yX9_notesOf mX9_notesOf [orf 1000 0, oi za1] S (oQi P) := by
  unfold f_X9_notesOf at h
  refine oCt_of (by decide) rfl (Nat.le_of_ble_eq_true rfl) ?_
  intro X hG hr hE0 hR
  subst hG; subst hr
  obtain ⟨e, rfl⟩ : ∃ e, d = e + 1 := ⟨d - 1, by omega⟩
  have he : 0 ≤ e := by omega
  have hE := oEI_of hE0 rfl
  clear hE0 hd
  show oVv X mX9_notesOf 0 [(0, orf 1000 0), (1, oi za1)] [] S
  refine o_iconst (v := 0) (pc := 0) dX9_notesOf_0 (by decide) ?_
  refine o_istore_n (lv1 := [(0, orf 1000 0), (1, oi za1), (2, oi (0 : Int32))]) (pc := 1) dX9_notesOf_1 rfl (by decide) rfl ?_
  refine o_iconst (v := 0) (pc := 2) dX9_notesOf_2 (by decide) ?_
  refine o_istore_n (lv1 := [(0, orf 1000 0), (1, oi za1), (2, oi (0 : Int32)), (3, oi (0 : Int32))]) (pc := 3) dX9_notesOf_3 rfl (by decide) rfl ?_
  have h := oH_bind h
  refine s_X9_notesOf_L4 he hR  (fun zz3 h => ?_) _ ((0 : Int32), (0 : Int32), S) h
  refine o_iload_n (pc := 36) dX9_notesOf_36 rfl 0 rfl ?_
  exact hE _ _ _ _ dX9_notesOf_37 (oH_some h)
def f_X9_count_L89  : Int32 × Int32 × oS → Option ((Int32 × Int32 × oS) ⊕ (Int32 × oS)) := fun w =>
  match w with
  | (zv2, zv3, S) =>
    if (61 : Int32) ≤ zv3 then (
    some (Sum.inr (zv2, S))) else (
    (f_X9_notesOf zv3 S).bind fun zz2 =>
    oLet ((zv2 + zz2.1)) fun zx3 =>
    oLet (zv3 + (1 : Int32)) fun zx4 =>
    some (Sum.inl (zx3, zx4, zz2.2)))
set_option maxHeartbeats 4000000 in
theorem s_X9_count_L89b {X : oX} {e : Nat} (he : 2 ≤ e) (hR : oRoom X (e + 1))  {VH : Int32 × Int32 × oS → Prop} {VE : Int32 × oS → Prop} (hVH : ∀ z, VH z → oVv X mX9_count 89 [(0, orf 1000 0), (2, oi z.1), (3, oi z.2.1)] [] z.2.2) (hVE : ∀ z, VE z → oVv X mX9_count 109 [(2, oi z.1)] [] z.2) {zv2 : Int32} {zv3 : Int32} {S : oS} (h : oH (f_X9_count_L89 (zv2, zv3, S)) (fun z => Sum.elim VH VE z)) : oVv X mX9_count 89 [(0, orf 1000 0), (2, oi zv2), (3, oi zv3)] [] S := by
  dsimp only [f_X9_count_L89] at h
  refine o_iload_n (pc := 89) dX9_count_89 rfl 2 rfl ?_
  refine o_bipush (v := 61) (pc := 90) dX9_count_90 (by decide) ?_
  refine o_icmp_ge 109 (pc := 92) dX9_count_92 (by decide) (fun hc => ?_) (fun hc => ?_)
  · have h := oH_T hc h
    refine o_weak [1] rfl ?_
    exact hVE _ (oH_some (P := fun z => Sum.elim VH VE z) h)
  · have h := oH_F hc h
    refine o_iload_n (pc := 95) dX9_count_95 rfl 1 rfl ?_
    refine o_aload_n (pc := 96) dX9_count_96 rfl 0 rfl ?_
    refine o_iload_n (pc := 97) dX9_count_97 rfl 2 rfl ?_
    have h := oH_bind h
    refine o_callVi (pc := 98) (st := [oi zv2]) [oi zv3] hR md_X9_notesOf wd_1344 wd_1346 ws_55 tc_1000 j_1000 rfl (Nat.le_of_ble_eq_true rfl) rfl dX9_count_98 (s_X9_notesOf e (by omega)  h) (fun zz2 h => ?_)
    refine o_iadd (pc := 101) dX9_count_101 ?_
    refine o_nmI (fun zx3 hx => ?_)
    have h := oH_let h zx3 hx
    clear hx
    refine o_istore_n (lv1 := [(0, orf 1000 0), (2, oi zx3), (3, oi zv3)]) (pc := 102) dX9_count_102 rfl (by decide) rfl ?_
    obtain ⟨zx4, hx⟩ : ∃ y : Int32, y = zv3 + (1 : Int32) := ⟨_, rfl⟩
    have h := oH_let h zx4 hx
    refine o_iinc (lv1 := [(0, orf 1000 0), (2, oi zx3), (3, oi zx4)]) (pc := 103) dX9_count_103 2 rfl hx.symm (by decide) rfl ?_
    clear hx
    refine o_goto 89 (pc := 106) dX9_count_106 (by decide) ?_
    exact hVH _ (oH_some (P := fun z => Sum.elim VH VE z) h)
theorem s_X9_count_L89 {X : oX} {e : Nat} (he : 2 ≤ e) (hR : oRoom X (e + 1))   {VE : Int32 × oS → Prop} (hVE : ∀ z, VE z → oVv X mX9_count 109 [(2, oi z.1)] [] z.2) (n : Nat) (w : Int32 × Int32 × oS) (h : oH (oLp (f_X9_count_L89) n w) VE) : oVv X mX9_count 89 [(0, orf 1000 0), (2, oi w.1), (3, oi w.2.1)] [] w.2.2 :=
  oLp_s (VH := fun w => oVv X mX9_count 89 [(0, orf 1000 0), (2, oi w.1), (3, oi w.2.1)] [] w.2.2) (fun w h => s_X9_count_L89b he hR  (fun _ h => h) hVE h) n w h
def f_X9_count  (za1 : Int32) (S : oS) : Option (Int32 × oS) :=
  if za1 = 0 then (
  some (S.1 1000 0 5, S)) else if za1 = 1 then (
  (f_X9_inside S).bind fun zz1 =>
  some (zz1.1, zz1.2)) else if za1 = 2 then (
  some (S.1 1000 0 13, S)) else if za1 = 3 then (
  some (S.1 1000 0 32, S)) else if za1 = 4 then (
  some (S.1 1000 0 34, S)) else if za1 = 5 then (
  some (S.1 1000 0 11, S)) else if za1 = 6 then (
  some (S.1 1000 0 31, S)) else if za1 = 7 then (
  (oLp (f_X9_count_L89) oFu ((0 : Int32), (0 : Int32), S)).bind fun zz5 =>
  some (zz5.1, zz5.2)) else if za1 = 8 then (
  some (S.1 1000 0 40, S)) else (
  some ((-2 : Int32), S))
set_option maxHeartbeats 4000000 in
theorem s_X9_count {G : oG} {r : oR} (d : Nat) (hd : 3 ≤ d) {za1 : Int32}  {S : oS} {P : Int32 × oS → Prop} (h : oH (f_X9_count za1 S) P) : oCt G r d yX9_count mX9_count [orf 1000 0, oi za1] S (oQi P) := by
  unfold f_X9_count at h
  refine oCt_of (by decide) rfl (Nat.le_of_ble_eq_true rfl) ?_
  intro X hG hr hE0 hR
  subst hG; subst hr
  obtain ⟨e, rfl⟩ : ∃ e, d = e + 1 := ⟨d - 1, by omega⟩
  have he : 2 ≤ e := by omega
  have hE := oEI_of hE0 rfl
  clear hE0 hd
  show oVv X mX9_count 0 [(0, orf 1000 0), (1, oi za1)] [] S
  refine o_iconst (v := 0) (pc := 0) dX9_count_0 (by decide) ?_
  refine o_istore_n (lv1 := [(0, orf 1000 0), (1, oi za1), (2, oi (0 : Int32))]) (pc := 1) dX9_count_1 rfl (by decide) rfl ?_
  refine o_iload_n (pc := 2) dX9_count_2 rfl 1 rfl ?_
  by_cases hc0 : za1 = 0
  · have h := oH_T hc0 h
    refine o_tabIn 52 (pc := 3) (off := 49) dX9_count_3 (by rw [hc0]; decide) (by rw [hc0]; decide) (by rw [hc0]; rfl) (by decide) ?_
    refine o_aload_n (pc := 52) dX9_count_52 rfl 0 rfl ?_
    refine o_getI (pc := 53) fd_RX9_163 ft_1000_5 j_1000 dX9_count_53 ?_
    exact hE _ _ _ _ dX9_count_56 (oH_some h)
  have h := oH_F hc0 h
  by_cases hc1 : za1 = 1
  · have h := oH_T hc1 h
    refine o_tabIn 57 (pc := 3) (off := 54) dX9_count_3 (by rw [hc1]; decide) (by rw [hc1]; decide) (by rw [hc1]; rfl) (by decide) ?_
    refine o_aload_n (pc := 57) dX9_count_57 rfl 0 rfl ?_
    have h := oH_bind h
    refine o_callVi (pc := 58) (st := []) [] hR md_X9_inside wd_1193 wd_1195 ws_38 tc_1000 j_1000 rfl (Nat.le_of_ble_eq_true rfl) rfl dX9_count_58 (s_X9_inside e (by omega)  h) (fun zz1 h => ?_)
    exact hE _ _ _ _ dX9_count_61 (oH_some h)
  have h := oH_F hc1 h
  by_cases hc2 : za1 = 2
  · have h := oH_T hc2 h
    refine o_tabIn 62 (pc := 3) (off := 59) dX9_count_3 (by rw [hc2]; decide) (by rw [hc2]; decide) (by rw [hc2]; rfl) (by decide) ?_
    refine o_aload_n (pc := 62) dX9_count_62 rfl 0 rfl ?_
    refine o_getI (pc := 63) fd_RX9_245 ft_1000_13 j_1000 dX9_count_63 ?_
    exact hE _ _ _ _ dX9_count_66 (oH_some h)
  have h := oH_F hc2 h
  by_cases hc3 : za1 = 3
  · have h := oH_T hc3 h
    refine o_tabIn 67 (pc := 3) (off := 64) dX9_count_3 (by rw [hc3]; decide) (by rw [hc3]; decide) (by rw [hc3]; rfl) (by decide) ?_
    refine o_aload_n (pc := 67) dX9_count_67 rfl 0 rfl ?_
    refine o_getI (pc := 68) fd_RX9_300 ft_1000_32 j_1000 dX9_count_68 ?_
    exact hE _ _ _ _ dX9_count_71 (oH_some h)
  have h := oH_F hc3 h
  by_cases hc4 : za1 = 4
  · have h := oH_T hc4 h
    refine o_tabIn 72 (pc := 3) (off := 69) dX9_count_3 (by rw [hc4]; decide) (by rw [hc4]; decide) (by rw [hc4]; rfl) (by decide) ?_
    refine o_aload_n (pc := 72) dX9_count_72 rfl 0 rfl ?_
    refine o_getI (pc := 73) fd_RX9_303 ft_1000_34 j_1000 dX9_count_73 ?_
    exact hE _ _ _ _ dX9_count_76 (oH_some h)
  have h := oH_F hc4 h
  by_cases hc5 : za1 = 5
  · have h := oH_T hc5 h
    refine o_tabIn 77 (pc := 3) (off := 74) dX9_count_3 (by rw [hc5]; decide) (by rw [hc5]; decide) (by rw [hc5]; rfl) (by decide) ?_
    refine o_aload_n (pc := 77) dX9_count_77 rfl 0 rfl ?_
    refine o_getI (pc := 78) fd_RX9_238 ft_1000_11 j_1000 dX9_count_78 ?_
    exact hE _ _ _ _ dX9_count_81 (oH_some h)
  have h := oH_F hc5 h
  by_cases hc6 : za1 = 6
  · have h := oH_T hc6 h
    refine o_tabIn 82 (pc := 3) (off := 79) dX9_count_3 (by rw [hc6]; decide) (by rw [hc6]; decide) (by rw [hc6]; rfl) (by decide) ?_
    refine o_aload_n (pc := 82) dX9_count_82 rfl 0 rfl ?_
    refine o_getI (pc := 83) fd_RX9_297 ft_1000_31 j_1000 dX9_count_83 ?_
    exact hE _ _ _ _ dX9_count_86 (oH_some h)
  have h := oH_F hc6 h
  by_cases hc7 : za1 = 7
  · have h := oH_T hc7 h
    refine o_tabIn 87 (pc := 3) (off := 84) dX9_count_3 (by rw [hc7]; decide) (by rw [hc7]; decide) (by rw [hc7]; rfl) (by decide) ?_
    refine o_iconst (v := 0) (pc := 87) dX9_count_87 (by decide) ?_
    refine o_istore_n (lv1 := [(0, orf 1000 0), (1, oi za1), (2, oi (0 : Int32)), (3, oi (0 : Int32))]) (pc := 88) dX9_count_88 rfl (by decide) rfl ?_
    refine o_weak [0, 2, 3] rfl ?_
    have h := oH_bind h
    refine s_X9_count_L89 he hR  (fun zz5 h => ?_) _ ((0 : Int32), (0 : Int32), S) h
    refine o_iload_n (pc := 109) dX9_count_109 rfl 0 rfl ?_
    exact hE _ _ _ _ dX9_count_110 (oH_some h)
  have h := oH_F hc7 h
  by_cases hc8 : za1 = 8
  · have h := oH_T hc8 h
    refine o_tabIn 111 (pc := 3) (off := 108) dX9_count_3 (by rw [hc8]; decide) (by rw [hc8]; decide) (by rw [hc8]; rfl) (by decide) ?_
    refine o_aload_n (pc := 111) dX9_count_111 rfl 0 rfl ?_
    refine o_getI (pc := 112) fd_RX9_337 ft_1000_40 j_1000 dX9_count_112 ?_
    exact hE _ _ _ _ dX9_count_115 (oH_some h)
  have h := oH_F hc8 h
  refine o_tabOut 116 (pc := 3) dX9_count_3 (by
      have g0 : ¬ Int32.toInt za1 = 0 := fun z => hc0 (Int32.toInt_inj.mp z)
      have g1 : ¬ Int32.toInt za1 = 1 := fun z => hc1 (Int32.toInt_inj.mp z)
      have g2 : ¬ Int32.toInt za1 = 2 := fun z => hc2 (Int32.toInt_inj.mp z)
      have g3 : ¬ Int32.toInt za1 = 3 := fun z => hc3 (Int32.toInt_inj.mp z)
      have g4 : ¬ Int32.toInt za1 = 4 := fun z => hc4 (Int32.toInt_inj.mp z)
      have g5 : ¬ Int32.toInt za1 = 5 := fun z => hc5 (Int32.toInt_inj.mp z)
      have g6 : ¬ Int32.toInt za1 = 6 := fun z => hc6 (Int32.toInt_inj.mp z)
      have g7 : ¬ Int32.toInt za1 = 7 := fun z => hc7 (Int32.toInt_inj.mp z)
      have g8 : ¬ Int32.toInt za1 = 8 := fun z => hc8 (Int32.toInt_inj.mp z)
      omega) (by decide) ?_
  refine o_bipush (v := -2) (pc := 116) dX9_count_116 (by decide) ?_
  exact hE _ _ _ _ dX9_count_118 (oH_some h)
def f_X9_crack  (za1 : Int32) (za2 : Int32) (S : oS) : Option (Int32 × oS) :=
  (f_X9_isRing za1 S).bind fun zz1 =>
  if zz1.1 = 0 then (
  some ((-2 : Int32), zz1.2)) else (
  (f_X9_in za2 (0 : Int32) (4 : Int32) zz1.2).bind fun zz2 =>
  if zz2.1 = 0 then (
  some ((-2 : Int32), zz2.2)) else (
  if oIn za1 4 then (
  oLet (zz2.2.1 1004 0 (Int32.toNatClampNeg za1)) fun zx3 =>
  if oIn za1 4 then (
  oLet (oStI zz2.2 1004 0 (Int32.toNatClampNeg za1) za2) fun zS4 =>
  some (zx3, zS4)) else none) else none))
set_option maxHeartbeats 4000000 in
theorem s_X9_crack {G : oG} {r : oR} (d : Nat) (hd : 3 ≤ d) {za1 : Int32} {za2 : Int32}  {S : oS} {P : Int32 × oS → Prop} (h : oH (f_X9_crack za1 za2 S) P) : oCt G r d yX9_crack mX9_crack [orf 1000 0, oi za1, oi za2] S (oQi P) := by
  unfold f_X9_crack at h
  refine oCt_of (by decide) rfl (Nat.le_of_ble_eq_true rfl) ?_
  intro X hG hr hE0 hR
  subst hG; subst hr
  obtain ⟨e, rfl⟩ : ∃ e, d = e + 1 := ⟨d - 1, by omega⟩
  have he : 2 ≤ e := by omega
  have hE := oEI_of hE0 rfl
  clear hE0 hd
  show oVv X mX9_crack 0 [(0, orf 1000 0), (1, oi za1), (2, oi za2)] [] S
  refine o_iload_n (pc := 0) dX9_crack_0 rfl 1 rfl ?_
  have h := oH_bind h
  refine o_callSi (pc := 1) (st := []) [oi za1] hR md_X9_isRing wd_1068 wd_1069 rfl (Nat.le_of_ble_eq_true rfl) rfl dX9_crack_1 (s_X9_isRing e (by omega)  h) (fun zz1 h => ?_)
  refine o_if_eq 16 (pc := 4) dX9_crack_4 (by decide) (fun hc => ?_) (fun hc => ?_)
  · have h := oH_T hc h
    refine o_bipush (v := -2) (pc := 16) dX9_crack_16 (by decide) ?_
    exact hE _ _ _ _ dX9_crack_18 (oH_some h)
  · have h := oH_F hc h
    refine o_iload_n (pc := 7) dX9_crack_7 rfl 2 rfl ?_
    refine o_iconst (v := 0) (pc := 8) dX9_crack_8 (by decide) ?_
    refine o_iconst (v := 4) (pc := 9) dX9_crack_9 (by decide) ?_
    have h := oH_bind h
    refine o_callSi (pc := 10) (st := []) [oi za2, oi (0 : Int32), oi (4 : Int32)] hR md_X9_in wd_1061 wd_1062 rfl (Nat.le_of_ble_eq_true rfl) rfl dX9_crack_10 (s_X9_in e (by omega)  h) (fun zz2 h => ?_)
    refine o_if_ne 19 (pc := 13) dX9_crack_13 (by decide) (fun hc => ?_) (fun hc => ?_)
    · have h := oH_F hc h
      refine o_aload_n (pc := 19) dX9_crack_19 rfl 0 rfl ?_
      refine o_getA (pc := 20) fd_RX9_21 ft_1000_3 j_1000 dX9_crack_20 ?_
      refine o_iload_n (pc := 23) dX9_crack_23 rfl 1 rfl ?_
      obtain ⟨hg, h⟩ := oH_G h
      refine o_iald (pc := 24) kd_1004 j_1004 hg dX9_crack_24 ?_
      refine o_nmI (fun zx3 hx => ?_)
      have h := oH_let h zx3 hx
      clear hx
      refine o_istore_n (lv1 := [(0, orf 1000 0), (1, oi za1), (2, oi za2), (3, oi zx3)]) (pc := 25) dX9_crack_25 rfl (by decide) rfl ?_
      refine o_aload_n (pc := 26) dX9_crack_26 rfl 0 rfl ?_
      refine o_getA (pc := 27) fd_RX9_21 ft_1000_3 j_1000 dX9_crack_27 ?_
      refine o_iload_n (pc := 30) dX9_crack_30 rfl 1 rfl ?_
      refine o_iload_n (pc := 31) dX9_crack_31 rfl 2 rfl ?_
      obtain ⟨hg, h⟩ := oH_G h
      have hgi := hg
      refine o_iast (pc := 32) kd_1004 j_1004 hgi dX9_crack_32 ?_
      refine o_nmS (fun zS4 hx => ?_)
      have h := oH_let h zS4 hx
      clear hx
      refine o_iload_n (pc := 33) dX9_crack_33 rfl 3 rfl ?_
      exact hE _ _ _ _ dX9_crack_34 (oH_some h)
    · have h := oH_T hc h
      refine o_bipush (v := -2) (pc := 16) dX9_crack_16 (by decide) ?_
      exact hE _ _ _ _ dX9_crack_18 (oH_some h)
def f_X9_custom  (za1 : Int32) (za2 : Int32) (S : oS) : Option (Int32 × oS) :=
  (f_X9_in za1 (0 : Int32) (1 : Int32) S).bind fun zz1 =>
  if zz1.1 = 0 then (
  some ((-2 : Int32), zz1.2)) else (
  if 0 ≤ za2 then (
  oLet (oStI zz1.2 1000 0 37 za1) fun zS2 =>
  oLet (oStI zS2 1000 0 38 za2) fun zS3 =>
  some ((1 : Int32), zS3)) else (
  some ((-2 : Int32), zz1.2)))
set_option maxHeartbeats 4000000 in
theorem s_X9_custom {G : oG} {r : oR} (d : Nat) (hd : 2 ≤ d) {za1 : Int32} {za2 : Int32}  {S : oS} {P : Int32 × oS → Prop} (h : oH (f_X9_custom za1 za2 S) P) : oCt G r d yX9_custom mX9_custom [orf 1000 0, oi za1, oi za2] S (oQi P) := by
  unfold f_X9_custom at h
  refine oCt_of (by decide) rfl (Nat.le_of_ble_eq_true rfl) ?_
  intro X hG hr hE0 hR
  subst hG; subst hr
  obtain ⟨e, rfl⟩ : ∃ e, d = e + 1 := ⟨d - 1, by omega⟩
  have he : 1 ≤ e := by omega
  have hE := oEI_of hE0 rfl
  clear hE0 hd
  show oVv X mX9_custom 0 [(0, orf 1000 0), (1, oi za1), (2, oi za2)] [] S
  refine o_iload_n (pc := 0) dX9_custom_0 rfl 1 rfl ?_
  refine o_iconst (v := 0) (pc := 1) dX9_custom_1 (by decide) ?_
  refine o_iconst (v := 1) (pc := 2) dX9_custom_2 (by decide) ?_
  have h := oH_bind h
  refine o_callSi (pc := 3) (st := []) [oi za1, oi (0 : Int32), oi (1 : Int32)] hR md_X9_in wd_1061 wd_1062 rfl (Nat.le_of_ble_eq_true rfl) rfl dX9_custom_3 (s_X9_in e (by omega)  h) (fun zz1 h => ?_)
  refine o_if_eq 13 (pc := 6) dX9_custom_6 (by decide) (fun hc => ?_) (fun hc => ?_)
  · have h := oH_T hc h
    refine o_bipush (v := -2) (pc := 13) dX9_custom_13 (by decide) ?_
    exact hE _ _ _ _ dX9_custom_15 (oH_some h)
  · have h := oH_F hc h
    refine o_iload_n (pc := 9) dX9_custom_9 rfl 2 rfl ?_
    refine o_if_ge 16 (pc := 10) dX9_custom_10 (by decide) (fun hc => ?_) (fun hc => ?_)
    · have h := oH_T hc h
      refine o_aload_n (pc := 16) dX9_custom_16 rfl 0 rfl ?_
      refine o_iload_n (pc := 17) dX9_custom_17 rfl 1 rfl ?_
      refine o_putI (pc := 18) fd_RX9_340 fp_1000_37 ft_1000_37 rfl rfl j_1000 dX9_custom_18 ?_
      refine o_nmS (fun zS2 hx => ?_)
      have h := oH_let h zS2 hx
      clear hx
      refine o_aload_n (pc := 21) dX9_custom_21 rfl 0 rfl ?_
      refine o_iload_n (pc := 22) dX9_custom_22 rfl 2 rfl ?_
      refine o_putI (pc := 23) fd_RX9_343 fp_1000_38 ft_1000_38 rfl rfl j_1000 dX9_custom_23 ?_
      refine o_nmS (fun zS3 hx => ?_)
      have h := oH_let h zS3 hx
      clear hx
      refine o_iconst (v := 1) (pc := 26) dX9_custom_26 (by decide) ?_
      exact hE _ _ _ _ dX9_custom_27 (oH_some h)
    · have h := oH_F hc h
      refine o_bipush (v := -2) (pc := 13) dX9_custom_13 (by decide) ?_
      exact hE _ _ _ _ dX9_custom_15 (oH_some h)
def f_X9_damp  (za1 : Int32) (za2 : Int32) (S : oS) : Option (Int32 × oS) :=
  (f_X9_isRing za1 S).bind fun zz1 =>
  if zz1.1 = 0 then (
  some ((-2 : Int32), zz1.2)) else (
  (f_X9_in za2 (0 : Int32) (1000 : Int32) zz1.2).bind fun zz2 =>
  if zz2.1 = 0 then (
  some ((-2 : Int32), zz2.2)) else (
  if oIn za1 4 then (
  oLet (zz2.2.1 1003 0 (Int32.toNatClampNeg za1)) fun zx3 =>
  if oIn za1 4 then (
  oLet (oStI zz2.2 1003 0 (Int32.toNatClampNeg za1) za2) fun zS4 =>
  some (zx3, zS4)) else none) else none))
set_option maxHeartbeats 4000000 in
theorem s_X9_damp {G : oG} {r : oR} (d : Nat) (hd : 3 ≤ d) {za1 : Int32} {za2 : Int32}  {S : oS} {P : Int32 × oS → Prop} (h : oH (f_X9_damp za1 za2 S) P) : oCt G r d yX9_damp mX9_damp [orf 1000 0, oi za1, oi za2] S (oQi P) := by
  unfold f_X9_damp at h
  refine oCt_of (by decide) rfl (Nat.le_of_ble_eq_true rfl) ?_
  intro X hG hr hE0 hR
  subst hG; subst hr
  obtain ⟨e, rfl⟩ : ∃ e, d = e + 1 := ⟨d - 1, by omega⟩
  have he : 2 ≤ e := by omega
  have hE := oEI_of hE0 rfl
  clear hE0 hd
  show oVv X mX9_damp 0 [(0, orf 1000 0), (1, oi za1), (2, oi za2)] [] S
  refine o_iload_n (pc := 0) dX9_damp_0 rfl 1 rfl ?_
  have h := oH_bind h
  refine o_callSi (pc := 1) (st := []) [oi za1] hR md_X9_isRing wd_1068 wd_1069 rfl (Nat.le_of_ble_eq_true rfl) rfl dX9_damp_1 (s_X9_isRing e (by omega)  h) (fun zz1 h => ?_)
  refine o_if_eq 18 (pc := 4) dX9_damp_4 (by decide) (fun hc => ?_) (fun hc => ?_)
  · have h := oH_T hc h
    refine o_bipush (v := -2) (pc := 18) dX9_damp_18 (by decide) ?_
    exact hE _ _ _ _ dX9_damp_20 (oH_some h)
  · have h := oH_F hc h
    refine o_iload_n (pc := 7) dX9_damp_7 rfl 2 rfl ?_
    refine o_iconst (v := 0) (pc := 8) dX9_damp_8 (by decide) ?_
    refine o_sipush (v := 1000) (pc := 9) dX9_damp_9 (by decide) ?_
    have h := oH_bind h
    refine o_callSi (pc := 12) (st := []) [oi za2, oi (0 : Int32), oi (1000 : Int32)] hR md_X9_in wd_1061 wd_1062 rfl (Nat.le_of_ble_eq_true rfl) rfl dX9_damp_12 (s_X9_in e (by omega)  h) (fun zz2 h => ?_)
    refine o_if_ne 21 (pc := 15) dX9_damp_15 (by decide) (fun hc => ?_) (fun hc => ?_)
    · have h := oH_F hc h
      refine o_aload_n (pc := 21) dX9_damp_21 rfl 0 rfl ?_
      refine o_getA (pc := 22) fd_RX9_17 ft_1000_2 j_1000 dX9_damp_22 ?_
      refine o_iload_n (pc := 25) dX9_damp_25 rfl 1 rfl ?_
      obtain ⟨hg, h⟩ := oH_G h
      refine o_iald (pc := 26) kd_1003 j_1003 hg dX9_damp_26 ?_
      refine o_nmI (fun zx3 hx => ?_)
      have h := oH_let h zx3 hx
      clear hx
      refine o_istore_n (lv1 := [(0, orf 1000 0), (1, oi za1), (2, oi za2), (3, oi zx3)]) (pc := 27) dX9_damp_27 rfl (by decide) rfl ?_
      refine o_aload_n (pc := 28) dX9_damp_28 rfl 0 rfl ?_
      refine o_getA (pc := 29) fd_RX9_17 ft_1000_2 j_1000 dX9_damp_29 ?_
      refine o_iload_n (pc := 32) dX9_damp_32 rfl 1 rfl ?_
      refine o_iload_n (pc := 33) dX9_damp_33 rfl 2 rfl ?_
      obtain ⟨hg, h⟩ := oH_G h
      have hgi := hg
      refine o_iast (pc := 34) kd_1003 j_1003 hgi dX9_damp_34 ?_
      refine o_nmS (fun zS4 hx => ?_)
      have h := oH_let h zS4 hx
      clear hx
      refine o_iload_n (pc := 35) dX9_damp_35 rfl 3 rfl ?_
      exact hE _ _ _ _ dX9_damp_36 (oH_some h)
    · have h := oH_T hc h
      refine o_bipush (v := -2) (pc := 18) dX9_damp_18 (by decide) ?_
      exact hE _ _ _ _ dX9_damp_20 (oH_some h)
def f_X9_dropLog_L12  : Int32 × oS → Option ((Int32 × oS) ⊕ (oS)) := fun w =>
  match w with
  | (zv1, S) =>
    if (S.1 1000 0 5) ≤ zv1 then (
    some (Sum.inr S)) else (
    if oIn (zv1 + (1 : Int32)) 30 then (
    if oIn zv1 30 then (
    oLet (oStI S 1007 0 (Int32.toNatClampNeg zv1) (S.1 1007 0 (Int32.toNatClampNeg (zv1 + (1 : Int32))))) fun zS2 =>
    if oIn (zv1 + (1 : Int32)) 30 then (
    if oIn zv1 30 then (
    oLet (oStI zS2 1008 0 (Int32.toNatClampNeg zv1) (zS2.1 1008 0 (Int32.toNatClampNeg (zv1 + (1 : Int32))))) fun zS3 =>
    oLet (zv1 + (1 : Int32)) fun zx4 =>
    some (Sum.inl (zx4, zS3))) else none) else none) else none) else none)
set_option maxHeartbeats 4000000 in
theorem s_X9_dropLog_L12b {X : oX} {e : Nat} (he : 0 ≤ e) (hR : oRoom X (e + 1))  {VH : Int32 × oS → Prop} {VE : oS → Prop} (hVH : ∀ z, VH z → oVv X mX9_dropLog 12 [(0, orf 1000 0), (1, oi z.1)] [] z.2) (hVE : ∀ z, VE z → oVv X mX9_dropLog 54 [] [] z) {zv1 : Int32} {S : oS} (h : oH (f_X9_dropLog_L12 (zv1, S)) (fun z => Sum.elim VH VE z)) : oVv X mX9_dropLog 12 [(0, orf 1000 0), (1, oi zv1)] [] S := by
  dsimp only [f_X9_dropLog_L12] at h
  refine o_iload_n (pc := 12) dX9_dropLog_12 rfl 1 rfl ?_
  refine o_aload_n (pc := 13) dX9_dropLog_13 rfl 0 rfl ?_
  refine o_getI (pc := 14) fd_RX9_163 ft_1000_5 j_1000 dX9_dropLog_14 ?_
  refine o_icmp_ge 54 (pc := 17) dX9_dropLog_17 (by decide) (fun hc => ?_) (fun hc => ?_)
  · have h := oH_T hc h
    refine o_weak [] rfl ?_
    exact hVE _ (oH_some (P := fun z => Sum.elim VH VE z) h)
  · have h := oH_F hc h
    refine o_aload_n (pc := 20) dX9_dropLog_20 rfl 0 rfl ?_
    refine o_getA (pc := 21) fd_RX9_24 ft_1000_6 j_1000 dX9_dropLog_21 ?_
    refine o_iload_n (pc := 24) dX9_dropLog_24 rfl 1 rfl ?_
    refine o_aload_n (pc := 25) dX9_dropLog_25 rfl 0 rfl ?_
    refine o_getA (pc := 26) fd_RX9_24 ft_1000_6 j_1000 dX9_dropLog_26 ?_
    refine o_iload_n (pc := 29) dX9_dropLog_29 rfl 1 rfl ?_
    refine o_iconst (v := 1) (pc := 30) dX9_dropLog_30 (by decide) ?_
    refine o_iadd (pc := 31) dX9_dropLog_31 ?_
    obtain ⟨hg, h⟩ := oH_G h
    refine o_iald (pc := 32) kd_1007 j_1007 hg dX9_dropLog_32 ?_
    obtain ⟨hg, h⟩ := oH_G h
    have hgi := hg
    refine o_iast (pc := 33) kd_1007 j_1007 hgi dX9_dropLog_33 ?_
    refine o_nmS (fun zS2 hx => ?_)
    have h := oH_let h zS2 hx
    clear hx
    refine o_aload_n (pc := 34) dX9_dropLog_34 rfl 0 rfl ?_
    refine o_getA (pc := 35) fd_RX9_27 ft_1000_7 j_1000 dX9_dropLog_35 ?_
    refine o_iload_n (pc := 38) dX9_dropLog_38 rfl 1 rfl ?_
    refine o_aload_n (pc := 39) dX9_dropLog_39 rfl 0 rfl ?_
    refine o_getA (pc := 40) fd_RX9_27 ft_1000_7 j_1000 dX9_dropLog_40 ?_
    refine o_iload_n (pc := 43) dX9_dropLog_43 rfl 1 rfl ?_
    refine o_iconst (v := 1) (pc := 44) dX9_dropLog_44 (by decide) ?_
    refine o_iadd (pc := 45) dX9_dropLog_45 ?_
    obtain ⟨hg, h⟩ := oH_G h
    refine o_iald (pc := 46) kd_1008 j_1008 hg dX9_dropLog_46 ?_
    obtain ⟨hg, h⟩ := oH_G h
    have hgi := hg
    refine o_iast (pc := 47) kd_1008 j_1008 hgi dX9_dropLog_47 ?_
    refine o_nmS (fun zS3 hx => ?_)
    have h := oH_let h zS3 hx
    clear hx
    obtain ⟨zx4, hx⟩ : ∃ y : Int32, y = zv1 + (1 : Int32) := ⟨_, rfl⟩
    have h := oH_let h zx4 hx
    refine o_iinc (lv1 := [(0, orf 1000 0), (1, oi zx4)]) (pc := 48) dX9_dropLog_48 1 rfl hx.symm (by decide) rfl ?_
    clear hx
    refine o_goto 12 (pc := 51) dX9_dropLog_51 (by decide) ?_
    exact hVH _ (oH_some (P := fun z => Sum.elim VH VE z) h)
theorem s_X9_dropLog_L12 {X : oX} {e : Nat} (he : 0 ≤ e) (hR : oRoom X (e + 1))   {VE : oS → Prop} (hVE : ∀ z, VE z → oVv X mX9_dropLog 54 [] [] z) (n : Nat) (w : Int32 × oS) (h : oH (oLp (f_X9_dropLog_L12) n w) VE) : oVv X mX9_dropLog 12 [(0, orf 1000 0), (1, oi w.1)] [] w.2 :=
  oLp_s (VH := fun w => oVv X mX9_dropLog 12 [(0, orf 1000 0), (1, oi w.1)] [] w.2) (fun w h => s_X9_dropLog_L12b he hR  (fun _ h => h) hVE h) n w h
def f_X9_dropLog   (S : oS) : Option (oS) :=
  oLet (oStI S 1000 0 5 ((S.1 1000 0 5) - (1 : Int32))) fun zS1 =>
  (oLp (f_X9_dropLog_L12) oFu ((0 : Int32), zS1)).bind fun zz5 =>
  some zz5
set_option maxHeartbeats 4000000 in
theorem s_X9_dropLog {G : oG} {r : oR} (d : Nat) (hd : 1 ≤ d)   {S : oS} {P : oS → Prop} (h : oH (f_X9_dropLog  S) P) : oCt G r d yX9_dropLog mX9_dropLog [orf 1000 0] S (oQv P) := by
  unfold f_X9_dropLog at h
  refine oCt_of (by decide) rfl (Nat.le_of_ble_eq_true rfl) ?_
  intro X hG hr hE0 hR
  subst hG; subst hr
  obtain ⟨e, rfl⟩ : ∃ e, d = e + 1 := ⟨d - 1, by omega⟩
  have he : 0 ≤ e := by omega
  have hE := oEV_of hE0 rfl
  clear hE0 hd
  show oVv X mX9_dropLog 0 [(0, orf 1000 0)] [] S
  refine o_aload_n (pc := 0) dX9_dropLog_0 rfl 0 rfl ?_
  refine o_dup (pc := 1) dX9_dropLog_1 rfl ?_
  refine o_getI (pc := 2) fd_RX9_163 ft_1000_5 j_1000 dX9_dropLog_2 ?_
  refine o_iconst (v := 1) (pc := 5) dX9_dropLog_5 (by decide) ?_
  refine o_isub (pc := 6) dX9_dropLog_6 ?_
  refine o_putI (pc := 7) fd_RX9_163 fp_1000_5 ft_1000_5 rfl rfl j_1000 dX9_dropLog_7 ?_
  refine o_nmS (fun zS1 hx => ?_)
  have h := oH_let h zS1 hx
  clear hx
  refine o_iconst (v := 0) (pc := 10) dX9_dropLog_10 (by decide) ?_
  refine o_istore_n (lv1 := [(0, orf 1000 0), (1, oi (0 : Int32))]) (pc := 11) dX9_dropLog_11 rfl (by decide) rfl ?_
  have h := oH_bind h
  refine s_X9_dropLog_L12 he hR  (fun zz5 h => ?_) _ ((0 : Int32), zS1) h
  exact hE _ _ _ dX9_dropLog_54 (oH_some h)
def f_X9_explains_K38 (zv1 : Int32) (zv2 : Int32) (zv3 : Int32) (S : oS) : Option (Int32 × oS) :=
  (f_X9_explained zv1 zv2 zv3 S).bind fun zz4 =>
  some (zz4.1, zz4.2)
set_option maxHeartbeats 4000000 in
theorem s_X9_explains_K38 {X : oX} {e : Nat} (he : 2 ≤ e) (hR : oRoom X (e + 1)) {zv1 : Int32} {zv2 : Int32} {zv3 : Int32} {P : Int32 × oS → Prop} (hE : oEI X mX9_explains P) {S : oS} (h : oH (f_X9_explains_K38 zv1 zv2 zv3 S) P) : oVv X mX9_explains 38 [(0, orf 1000 0), (1, oi zv1), (2, oi zv2), (3, oi zv3)] [] S := by
  unfold f_X9_explains_K38 at h
  refine o_aload_n (pc := 38) dX9_explains_38 rfl 0 rfl ?_
  refine o_iload_n (pc := 39) dX9_explains_39 rfl 1 rfl ?_
  refine o_iload_n (pc := 40) dX9_explains_40 rfl 2 rfl ?_
  refine o_iload_n (pc := 41) dX9_explains_41 rfl 3 rfl ?_
  have h := oH_bind h
  refine o_callVi (pc := 42) (st := []) [oi zv1, oi zv2, oi zv3] hR md_X9_explained wd_1356 wd_1358 ws_56 tc_1000 j_1000 rfl (Nat.le_of_ble_eq_true rfl) rfl dX9_explains_42 (s_X9_explained e (by omega)  h) (fun zz4 h => ?_)
  exact hE _ _ _ _ dX9_explains_45 (oH_some h)
def f_X9_explains  (za1 : Int32) (za2 : Int32) (za3 : Int32) (S : oS) : Option (Int32 × oS) :=
  (f_X9_in za1 (0 : Int32) (2 : Int32) S).bind fun zz1 =>
  if zz1.1 = 0 then (
  some ((-2 : Int32), zz1.2)) else (
  (f_X9_isRing za2 zz1.2).bind fun zz2 =>
  if zz2.1 = 0 then (
  some ((-2 : Int32), zz2.2)) else (
  (f_X9_isWeek za3 zz2.2).bind fun zz3 =>
  if zz3.1 = 0 then (
  some ((-2 : Int32), zz3.2)) else (
  if za1 = 0 then (
  if za2 = 0 then (
  if za3 = 0 then (
  f_X9_explains_K38 za1 za2 za3 zz3.2) else (
  some ((-2 : Int32), zz3.2))) else (
  some ((-2 : Int32), zz3.2))) else (
  f_X9_explains_K38 za1 za2 za3 zz3.2))))
set_option maxHeartbeats 4000000 in
theorem s_X9_explains {G : oG} {r : oR} (d : Nat) (hd : 3 ≤ d) {za1 : Int32} {za2 : Int32} {za3 : Int32}  {S : oS} {P : Int32 × oS → Prop} (h : oH (f_X9_explains za1 za2 za3 S) P) : oCt G r d yX9_explains mX9_explains [orf 1000 0, oi za1, oi za2, oi za3] S (oQi P) := by
  unfold f_X9_explains at h
  refine oCt_of (by decide) rfl (Nat.le_of_ble_eq_true rfl) ?_
  intro X hG hr hE0 hR
  subst hG; subst hr
  obtain ⟨e, rfl⟩ : ∃ e, d = e + 1 := ⟨d - 1, by omega⟩
  have he : 2 ≤ e := by omega
  have hE := oEI_of hE0 rfl
  clear hE0 hd
  show oVv X mX9_explains 0 [(0, orf 1000 0), (1, oi za1), (2, oi za2), (3, oi za3)] [] S
  refine o_iload_n (pc := 0) dX9_explains_0 rfl 1 rfl ?_
  refine o_iconst (v := 0) (pc := 1) dX9_explains_1 (by decide) ?_
  refine o_iconst (v := 2) (pc := 2) dX9_explains_2 (by decide) ?_
  have h := oH_bind h
  refine o_callSi (pc := 3) (st := []) [oi za1, oi (0 : Int32), oi (2 : Int32)] hR md_X9_in wd_1061 wd_1062 rfl (Nat.le_of_ble_eq_true rfl) rfl dX9_explains_3 (s_X9_in e (by omega)  h) (fun zz1 h => ?_)
  refine o_if_eq 35 (pc := 6) dX9_explains_6 (by decide) (fun hc => ?_) (fun hc => ?_)
  · have h := oH_T hc h
    refine o_bipush (v := -2) (pc := 35) dX9_explains_35 (by decide) ?_
    exact hE _ _ _ _ dX9_explains_37 (oH_some h)
  · have h := oH_F hc h
    refine o_iload_n (pc := 9) dX9_explains_9 rfl 2 rfl ?_
    have h := oH_bind h
    refine o_callSi (pc := 10) (st := []) [oi za2] hR md_X9_isRing wd_1068 wd_1069 rfl (Nat.le_of_ble_eq_true rfl) rfl dX9_explains_10 (s_X9_isRing e (by omega)  h) (fun zz2 h => ?_)
    refine o_if_eq 35 (pc := 13) dX9_explains_13 (by decide) (fun hc => ?_) (fun hc => ?_)
    · have h := oH_T hc h
      refine o_bipush (v := -2) (pc := 35) dX9_explains_35 (by decide) ?_
      exact hE _ _ _ _ dX9_explains_37 (oH_some h)
    · have h := oH_F hc h
      refine o_iload_n (pc := 16) dX9_explains_16 rfl 3 rfl ?_
      have h := oH_bind h
      refine o_callSi (pc := 17) (st := []) [oi za3] hR md_X9_isWeek wd_1297 wd_1298 rfl (Nat.le_of_ble_eq_true rfl) rfl dX9_explains_17 (s_X9_isWeek e (by omega)  h) (fun zz3 h => ?_)
      refine o_if_eq 35 (pc := 20) dX9_explains_20 (by decide) (fun hc => ?_) (fun hc => ?_)
      · have h := oH_T hc h
        refine o_bipush (v := -2) (pc := 35) dX9_explains_35 (by decide) ?_
        exact hE _ _ _ _ dX9_explains_37 (oH_some h)
      · have h := oH_F hc h
        refine o_iload_n (pc := 23) dX9_explains_23 rfl 1 rfl ?_
        refine o_if_ne 38 (pc := 24) dX9_explains_24 (by decide) (fun hc => ?_) (fun hc => ?_)
        · have h := oH_F hc h
          exact s_X9_explains_K38 he hR  hE h
        · have h := oH_T hc h
          refine o_iload_n (pc := 27) dX9_explains_27 rfl 2 rfl ?_
          refine o_if_ne 35 (pc := 28) dX9_explains_28 (by decide) (fun hc => ?_) (fun hc => ?_)
          · have h := oH_F hc h
            refine o_bipush (v := -2) (pc := 35) dX9_explains_35 (by decide) ?_
            exact hE _ _ _ _ dX9_explains_37 (oH_some h)
          · have h := oH_T hc h
            refine o_iload_n (pc := 31) dX9_explains_31 rfl 3 rfl ?_
            refine o_if_eq 38 (pc := 32) dX9_explains_32 (by decide) (fun hc => ?_) (fun hc => ?_)
            · have h := oH_T hc h
              exact s_X9_explains_K38 he hR  hE h
            · have h := oH_F hc h
              refine o_bipush (v := -2) (pc := 35) dX9_explains_35 (by decide) ?_
              exact hE _ _ _ _ dX9_explains_37 (oH_some h)
def f_X9_takeNow_L2  : Int32 × oS → Option ((Int32 × oS) ⊕ (oS)) := fun w =>
  match w with
  | (zv1, S) =>
    if (12 : Int32) ≤ zv1 then (
    some (Sum.inr S)) else (
    if oIn zv1 12 then (
    if oIn zv1 12 then (
    oLet (oStL S 1050 0 (Int32.toNatClampNeg zv1) (S.2 1002 0 (Int32.toNatClampNeg zv1))) fun zS1 =>
    oLet (zv1 + (1 : Int32)) fun zx2 =>
    some (Sum.inl (zx2, zS1))) else none) else none)
set_option maxHeartbeats 4000000 in
theorem s_X9_takeNow_L2b {X : oX} {e : Nat} (he : 0 ≤ e) (hR : oRoom X (e + 1))  {VH : Int32 × oS → Prop} {VE : oS → Prop} (hVH : ∀ z, VH z → oVv X mX9_takeNow 2 [(0, orf 1000 0), (1, oi z.1)] [] z.2) (hVE : ∀ z, VE z → oVv X mX9_takeNow 26 [(0, orf 1000 0)] [] z) {zv1 : Int32} {S : oS} (h : oH (f_X9_takeNow_L2 (zv1, S)) (fun z => Sum.elim VH VE z)) : oVv X mX9_takeNow 2 [(0, orf 1000 0), (1, oi zv1)] [] S := by
  dsimp only [f_X9_takeNow_L2] at h
  refine o_iload_n (pc := 2) dX9_takeNow_2 rfl 1 rfl ?_
  refine o_bipush (v := 12) (pc := 3) dX9_takeNow_3 (by decide) ?_
  refine o_icmp_ge 26 (pc := 5) dX9_takeNow_5 (by decide) (fun hc => ?_) (fun hc => ?_)
  · have h := oH_T hc h
    refine o_weak [0] rfl ?_
    exact hVE _ (oH_some (P := fun z => Sum.elim VH VE z) h)
  · have h := oH_F hc h
    refine o_aload_n (pc := 8) dX9_takeNow_8 rfl 0 rfl ?_
    refine o_getA (pc := 9) fd_RX9_112 ft_1000_49 j_1000 dX9_takeNow_9 ?_
    refine o_iload_n (pc := 12) dX9_takeNow_12 rfl 1 rfl ?_
    refine o_aload_n (pc := 13) dX9_takeNow_13 rfl 0 rfl ?_
    refine o_getA (pc := 14) fd_RX9_13 ft_1000_1 j_1000 dX9_takeNow_14 ?_
    refine o_iload_n (pc := 17) dX9_takeNow_17 rfl 1 rfl ?_
    obtain ⟨hg, h⟩ := oH_G h
    refine o_lald (pc := 18) kd_1002 j_1002 hg dX9_takeNow_18 ?_
    obtain ⟨hg, h⟩ := oH_G h
    have hgi := hg
    refine o_last (pc := 19) kd_1050 j_1050 hgi dX9_takeNow_19 ?_
    refine o_nmS (fun zS1 hx => ?_)
    have h := oH_let h zS1 hx
    clear hx
    obtain ⟨zx2, hx⟩ : ∃ y : Int32, y = zv1 + (1 : Int32) := ⟨_, rfl⟩
    have h := oH_let h zx2 hx
    refine o_iinc (lv1 := [(0, orf 1000 0), (1, oi zx2)]) (pc := 20) dX9_takeNow_20 1 rfl hx.symm (by decide) rfl ?_
    clear hx
    refine o_goto 2 (pc := 23) dX9_takeNow_23 (by decide) ?_
    exact hVH _ (oH_some (P := fun z => Sum.elim VH VE z) h)
theorem s_X9_takeNow_L2 {X : oX} {e : Nat} (he : 0 ≤ e) (hR : oRoom X (e + 1))   {VE : oS → Prop} (hVE : ∀ z, VE z → oVv X mX9_takeNow 26 [(0, orf 1000 0)] [] z) (n : Nat) (w : Int32 × oS) (h : oH (oLp (f_X9_takeNow_L2) n w) VE) : oVv X mX9_takeNow 2 [(0, orf 1000 0), (1, oi w.1)] [] w.2 :=
  oLp_s (VH := fun w => oVv X mX9_takeNow 2 [(0, orf 1000 0), (1, oi w.1)] [] w.2) (fun w h => s_X9_takeNow_L2b he hR  (fun _ h => h) hVE h) n w h
def f_X9_takeNow_L28  : Int32 × oS → Option ((Int32 × oS) ⊕ (oS)) := fun w =>
  match w with
  | (zv1, S) =>
    if (4 : Int32) ≤ zv1 then (
    some (Sum.inr S)) else (
    if oIn zv1 4 then (
    if oIn zv1 4 then (
    oLet (oStI S 1052 0 (Int32.toNatClampNeg zv1) (S.1 1003 0 (Int32.toNatClampNeg zv1))) fun zS4 =>
    oLet (zv1 + (1 : Int32)) fun zx5 =>
    some (Sum.inl (zx5, zS4))) else none) else none)
set_option maxHeartbeats 4000000 in
theorem s_X9_takeNow_L28b {X : oX} {e : Nat} (he : 0 ≤ e) (hR : oRoom X (e + 1))  {VH : Int32 × oS → Prop} {VE : oS → Prop} (hVH : ∀ z, VH z → oVv X mX9_takeNow 28 [(0, orf 1000 0), (1, oi z.1)] [] z.2) (hVE : ∀ z, VE z → oVv X mX9_takeNow 51 [] [] z) {zv1 : Int32} {S : oS} (h : oH (f_X9_takeNow_L28 (zv1, S)) (fun z => Sum.elim VH VE z)) : oVv X mX9_takeNow 28 [(0, orf 1000 0), (1, oi zv1)] [] S := by
  dsimp only [f_X9_takeNow_L28] at h
  refine o_iload_n (pc := 28) dX9_takeNow_28 rfl 1 rfl ?_
  refine o_iconst (v := 4) (pc := 29) dX9_takeNow_29 (by decide) ?_
  refine o_icmp_ge 51 (pc := 30) dX9_takeNow_30 (by decide) (fun hc => ?_) (fun hc => ?_)
  · have h := oH_T hc h
    refine o_weak [] rfl ?_
    exact hVE _ (oH_some (P := fun z => Sum.elim VH VE z) h)
  · have h := oH_F hc h
    refine o_aload_n (pc := 33) dX9_takeNow_33 rfl 0 rfl ?_
    refine o_getA (pc := 34) fd_RX9_118 ft_1000_51 j_1000 dX9_takeNow_34 ?_
    refine o_iload_n (pc := 37) dX9_takeNow_37 rfl 1 rfl ?_
    refine o_aload_n (pc := 38) dX9_takeNow_38 rfl 0 rfl ?_
    refine o_getA (pc := 39) fd_RX9_17 ft_1000_2 j_1000 dX9_takeNow_39 ?_
    refine o_iload_n (pc := 42) dX9_takeNow_42 rfl 1 rfl ?_
    obtain ⟨hg, h⟩ := oH_G h
    refine o_iald (pc := 43) kd_1003 j_1003 hg dX9_takeNow_43 ?_
    obtain ⟨hg, h⟩ := oH_G h
    have hgi := hg
    refine o_iast (pc := 44) kd_1052 j_1052 hgi dX9_takeNow_44 ?_
    refine o_nmS (fun zS4 hx => ?_)
    have h := oH_let h zS4 hx
    clear hx
    obtain ⟨zx5, hx⟩ : ∃ y : Int32, y = zv1 + (1 : Int32) := ⟨_, rfl⟩
    have h := oH_let h zx5 hx
    refine o_iinc (lv1 := [(0, orf 1000 0), (1, oi zx5)]) (pc := 45) dX9_takeNow_45 1 rfl hx.symm (by decide) rfl ?_
    clear hx
    refine o_goto 28 (pc := 48) dX9_takeNow_48 (by decide) ?_
    exact hVH _ (oH_some (P := fun z => Sum.elim VH VE z) h)
theorem s_X9_takeNow_L28 {X : oX} {e : Nat} (he : 0 ≤ e) (hR : oRoom X (e + 1))   {VE : oS → Prop} (hVE : ∀ z, VE z → oVv X mX9_takeNow 51 [] [] z) (n : Nat) (w : Int32 × oS) (h : oH (oLp (f_X9_takeNow_L28) n w) VE) : oVv X mX9_takeNow 28 [(0, orf 1000 0), (1, oi w.1)] [] w.2 :=
  oLp_s (VH := fun w => oVv X mX9_takeNow 28 [(0, orf 1000 0), (1, oi w.1)] [] w.2) (fun w h => s_X9_takeNow_L28b he hR  (fun _ h => h) hVE h) n w h
def f_X9_takeNow   (S : oS) : Option (oS) :=
  (oLp (f_X9_takeNow_L2) oFu ((0 : Int32), S)).bind fun zz3 =>
  (oLp (f_X9_takeNow_L28) oFu ((0 : Int32), zz3)).bind fun zz6 =>
  some zz6
set_option maxHeartbeats 4000000 in
theorem s_X9_takeNow {G : oG} {r : oR} (d : Nat) (hd : 1 ≤ d)   {S : oS} {P : oS → Prop} (h : oH (f_X9_takeNow  S) P) : oCt G r d yX9_takeNow mX9_takeNow [orf 1000 0] S (oQv P) := by
  unfold f_X9_takeNow at h
  refine oCt_of (by decide) rfl (Nat.le_of_ble_eq_true rfl) ?_
  intro X hG hr hE0 hR
  subst hG; subst hr
  obtain ⟨e, rfl⟩ : ∃ e, d = e + 1 := ⟨d - 1, by omega⟩
  have he : 0 ≤ e := by omega
  have hE := oEV_of hE0 rfl
  clear hE0 hd
  show oVv X mX9_takeNow 0 [(0, orf 1000 0)] [] S
  refine o_iconst (v := 0) (pc := 0) dX9_takeNow_0 (by decide) ?_
  refine o_istore_n (lv1 := [(0, orf 1000 0), (1, oi (0 : Int32))]) (pc := 1) dX9_takeNow_1 rfl (by decide) rfl ?_
  have h := oH_bind h
  refine s_X9_takeNow_L2 he hR  (fun zz3 h => ?_) _ ((0 : Int32), S) h
  refine o_iconst (v := 0) (pc := 26) dX9_takeNow_26 (by decide) ?_
  refine o_istore_n (lv1 := [(0, orf 1000 0), (1, oi (0 : Int32))]) (pc := 27) dX9_takeNow_27 rfl (by decide) rfl ?_
  have h := oH_bind h
  refine s_X9_takeNow_L28 he hR  (fun zz6 h => ?_) _ ((0 : Int32), zz3) h
  exact hE _ _ _ dX9_takeNow_51 (oH_some h)
def f_X9_isOpening_K31 (zv1 : Int32) (zv3 : Int32) (zs0 : Int32) (S : oS) : Option ((Int32 × Int32 × oS) ⊕ (Int32 × oS)) :=
  oLet (zv3 + (1 : Int32)) fun zx1 =>
  some (Sum.inl (zs0, zx1, S))
set_option maxHeartbeats 4000000 in
theorem s_X9_isOpening_K31 {X : oX} {e : Nat} (he : 0 ≤ e) (hR : oRoom X (e + 1)) {zv1 : Int32} {zv3 : Int32} {zs0 : Int32} {VH : Int32 × Int32 × oS → Prop} {VE : Int32 × oS → Prop} (hVH : ∀ z, VH z → oVv X mX9_isOpening 4 [(0, orf 1000 0), (1, oi zv1), (2, oi z.1), (3, oi z.2.1)] [] z.2.2) (hVE : ∀ z, VE z → oVv X mX9_isOpening 38 [(2, oi z.1)] [] z.2) {S : oS} (h : oH (f_X9_isOpening_K31 zv1 zv3 zs0 S) (fun z => Sum.elim VH VE z)) : oVv X mX9_isOpening 31 [(0, orf 1000 0), (1, oi zv1), (3, oi zv3)] [oi zs0] S := by
  unfold f_X9_isOpening_K31 at h
  refine o_istore_n (lv1 := [(0, orf 1000 0), (1, oi zv1), (2, oi zs0), (3, oi zv3)]) (pc := 31) dX9_isOpening_31 rfl (by decide) rfl ?_
  obtain ⟨zx1, hx⟩ : ∃ y : Int32, y = zv3 + (1 : Int32) := ⟨_, rfl⟩
  have h := oH_let h zx1 hx
  refine o_iinc (lv1 := [(0, orf 1000 0), (1, oi zv1), (2, oi zs0), (3, oi zx1)]) (pc := 32) dX9_isOpening_32 3 rfl hx.symm (by decide) rfl ?_
  clear hx
  refine o_goto 4 (pc := 35) dX9_isOpening_35 (by decide) ?_
  exact hVH _ (oH_some (P := fun z => Sum.elim VH VE z) h)
def f_X9_isOpening_K26 (zv1 : Int32) (zv3 : Int32) (S : oS) : Option ((Int32 × Int32 × oS) ⊕ (Int32 × oS)) :=
  f_X9_isOpening_K31 zv1 zv3 (1 : Int32) S
set_option maxHeartbeats 4000000 in
theorem s_X9_isOpening_K26 {X : oX} {e : Nat} (he : 0 ≤ e) (hR : oRoom X (e + 1)) {zv1 : Int32} {zv3 : Int32} {VH : Int32 × Int32 × oS → Prop} {VE : Int32 × oS → Prop} (hVH : ∀ z, VH z → oVv X mX9_isOpening 4 [(0, orf 1000 0), (1, oi zv1), (2, oi z.1), (3, oi z.2.1)] [] z.2.2) (hVE : ∀ z, VE z → oVv X mX9_isOpening 38 [(2, oi z.1)] [] z.2) {S : oS} (h : oH (f_X9_isOpening_K26 zv1 zv3 S) (fun z => Sum.elim VH VE z)) : oVv X mX9_isOpening 26 [(0, orf 1000 0), (1, oi zv1), (3, oi zv3)] [] S := by
  unfold f_X9_isOpening_K26 at h
  refine o_iconst (v := 1) (pc := 26) dX9_isOpening_26 (by decide) ?_
  refine o_goto 31 (pc := 27) dX9_isOpening_27 (by decide) ?_
  exact s_X9_isOpening_K31 he hR  hVH hVE h
def f_X9_isOpening_L4 (zv1 : Int32) : Int32 × Int32 × oS → Option ((Int32 × Int32 × oS) ⊕ (Int32 × oS)) := fun w =>
  match w with
  | (zv2, zv3, S) =>
    if (S.1 1000 0 34) ≤ zv3 then (
    some (Sum.inr (zv2, S))) else (
    if zv2 = 0 then (
    if oIn zv3 4 then (
    if (S.1 1036 0 (Int32.toNatClampNeg zv3)) = zv1 then (
    f_X9_isOpening_K26 zv1 zv3 S) else (
    f_X9_isOpening_K31 zv1 zv3 (0 : Int32) S)) else none) else (
    f_X9_isOpening_K26 zv1 zv3 S))
set_option maxHeartbeats 4000000 in
theorem s_X9_isOpening_L4b {X : oX} {e : Nat} (he : 0 ≤ e) (hR : oRoom X (e + 1)) {zv1 : Int32} {VH : Int32 × Int32 × oS → Prop} {VE : Int32 × oS → Prop} (hVH : ∀ z, VH z → oVv X mX9_isOpening 4 [(0, orf 1000 0), (1, oi zv1), (2, oi z.1), (3, oi z.2.1)] [] z.2.2) (hVE : ∀ z, VE z → oVv X mX9_isOpening 38 [(2, oi z.1)] [] z.2) {zv2 : Int32} {zv3 : Int32} {S : oS} (h : oH (f_X9_isOpening_L4 zv1 (zv2, zv3, S)) (fun z => Sum.elim VH VE z)) : oVv X mX9_isOpening 4 [(0, orf 1000 0), (1, oi zv1), (2, oi zv2), (3, oi zv3)] [] S := by
  dsimp only [f_X9_isOpening_L4] at h
  refine o_iload_n (pc := 4) dX9_isOpening_4 rfl 3 rfl ?_
  refine o_aload_n (pc := 5) dX9_isOpening_5 rfl 0 rfl ?_
  refine o_getI (pc := 6) fd_RX9_303 ft_1000_34 j_1000 dX9_isOpening_6 ?_
  refine o_icmp_ge 38 (pc := 9) dX9_isOpening_9 (by decide) (fun hc => ?_) (fun hc => ?_)
  · have h := oH_T hc h
    refine o_weak [2] rfl ?_
    exact hVE _ (oH_some (P := fun z => Sum.elim VH VE z) h)
  · have h := oH_F hc h
    refine o_iload_n (pc := 12) dX9_isOpening_12 rfl 2 rfl ?_
    refine o_if_ne 26 (pc := 13) dX9_isOpening_13 (by decide) (fun hc => ?_) (fun hc => ?_)
    · have h := oH_F hc h
      refine o_weak [0, 1, 3] rfl ?_
      exact s_X9_isOpening_K26 he hR  hVH hVE h
    · have h := oH_T hc h
      refine o_aload_n (pc := 16) dX9_isOpening_16 rfl 0 rfl ?_
      refine o_getA (pc := 17) fd_RX9_82 ft_1000_35 j_1000 dX9_isOpening_17 ?_
      refine o_iload_n (pc := 20) dX9_isOpening_20 rfl 3 rfl ?_
      obtain ⟨hg, h⟩ := oH_G h
      refine o_iald (pc := 21) kd_1036 j_1036 hg dX9_isOpening_21 ?_
      refine o_iload_n (pc := 22) dX9_isOpening_22 rfl 1 rfl ?_
      refine o_icmp_ne 30 (pc := 23) dX9_isOpening_23 (by decide) (fun hc => ?_) (fun hc => ?_)
      · have h := oH_F hc h
        refine o_iconst (v := 0) (pc := 30) dX9_isOpening_30 (by decide) ?_
        refine o_weak [0, 1, 3] rfl ?_
        exact s_X9_isOpening_K31 he hR  hVH hVE h
      · have h := oH_T hc h
        refine o_weak [0, 1, 3] rfl ?_
        exact s_X9_isOpening_K26 he hR  hVH hVE h
theorem s_X9_isOpening_L4 {X : oX} {e : Nat} (he : 0 ≤ e) (hR : oRoom X (e + 1)) {zv1 : Int32}  {VE : Int32 × oS → Prop} (hVE : ∀ z, VE z → oVv X mX9_isOpening 38 [(2, oi z.1)] [] z.2) (n : Nat) (w : Int32 × Int32 × oS) (h : oH (oLp (f_X9_isOpening_L4 zv1) n w) VE) : oVv X mX9_isOpening 4 [(0, orf 1000 0), (1, oi zv1), (2, oi w.1), (3, oi w.2.1)] [] w.2.2 :=
  oLp_s (VH := fun w => oVv X mX9_isOpening 4 [(0, orf 1000 0), (1, oi zv1), (2, oi w.1), (3, oi w.2.1)] [] w.2.2) (fun w h => s_X9_isOpening_L4b he hR  (fun _ h => h) hVE h) n w h
def f_X9_isOpening  (za1 : Int32) (S : oS) : Option (Int32 × oS) :=
  (oLp (f_X9_isOpening_L4 za1) oFu ((0 : Int32), (0 : Int32), S)).bind fun zz2 =>
  if oBl zz2.1 then (
  some (zz2.1, zz2.2)) else none
set_option maxHeartbeats 4000000 in
theorem s_X9_isOpening {G : oG} {r : oR} (d : Nat) (hd : 1 ≤ d) {za1 : Int32}  {S : oS} {P : Int32 × oS → Prop} (h : oH (f_X9_isOpening za1 S) P) : oCt G r d yX9_isOpening mX9_isOpening [orf 1000 0, oi za1] S (oQi P) := by
  unfold f_X9_isOpening at h
  refine oCt_of (by decide) rfl (Nat.le_of_ble_eq_true rfl) ?_
  intro X hG hr hE0 hR
  subst hG; subst hr
  obtain ⟨e, rfl⟩ : ∃ e, d = e + 1 := ⟨d - 1, by omega⟩
  have he : 0 ≤ e := by omega
  have hE := oEZ_of hE0 rfl
  clear hE0 hd
  show oVv X mX9_isOpening 0 [(0, orf 1000 0), (1, oi za1)] [] S
  refine o_iconst (v := 0) (pc := 0) dX9_isOpening_0 (by decide) ?_
  refine o_istore_n (lv1 := [(0, orf 1000 0), (1, oi za1), (2, oi (0 : Int32))]) (pc := 1) dX9_isOpening_1 rfl (by decide) rfl ?_
  refine o_iconst (v := 0) (pc := 2) dX9_isOpening_2 (by decide) ?_
  refine o_istore_n (lv1 := [(0, orf 1000 0), (1, oi za1), (2, oi (0 : Int32)), (3, oi (0 : Int32))]) (pc := 3) dX9_isOpening_3 rfl (by decide) rfl ?_
  have h := oH_bind h
  refine s_X9_isOpening_L4 he hR  (fun zz2 h => ?_) _ ((0 : Int32), (0 : Int32), S) h
  refine o_iload_n (pc := 38) dX9_isOpening_38 rfl 0 rfl ?_
  obtain ⟨hg, h⟩ := oH_G h
  exact hE _ _ _ _ dX9_isOpening_39 hg (oH_some h)
def f_X9_massOf  (za0 : Int32) (S : oS) : Option (Int32 × oS) :=
  if za0 = 0 then (
  some ((10 : Int32), S)) else (
  if za0 = (1 : Int32) then (
  some ((30 : Int32), S)) else (
  some ((60 : Int32), S)))
set_option maxHeartbeats 4000000 in
theorem s_X9_massOf {G : oG} {r : oR} (d : Nat) (hd : 1 ≤ d) {za0 : Int32}  {S : oS} {P : Int32 × oS → Prop} (h : oH (f_X9_massOf za0 S) P) : oCt G r d yX9_massOf mX9_massOf [oi za0] S (oQi P) := by
  unfold f_X9_massOf at h
  refine oCt_of (by decide) rfl (Nat.le_of_ble_eq_true rfl) ?_
  intro X hG hr hE0 hR
  subst hG; subst hr
  obtain ⟨e, rfl⟩ : ∃ e, d = e + 1 := ⟨d - 1, by omega⟩
  have he : 0 ≤ e := by omega
  have hE := oEI_of hE0 rfl
  clear hE0 hd
  show oVv X mX9_massOf 0 [(0, oi za0)] [] S
  refine o_iload_n (pc := 0) dX9_massOf_0 rfl 0 rfl ?_
  refine o_if_ne 9 (pc := 1) dX9_massOf_1 (by decide) (fun hc => ?_) (fun hc => ?_)
  · have h := oH_F hc h
    refine o_iload_n (pc := 9) dX9_massOf_9 rfl 0 rfl ?_
    refine o_iconst (v := 1) (pc := 10) dX9_massOf_10 (by decide) ?_
    refine o_icmp_ne 19 (pc := 11) dX9_massOf_11 (by decide) (fun hc => ?_) (fun hc => ?_)
    · have h := oH_F hc h
      refine o_bipush (v := 60) (pc := 19) dX9_massOf_19 (by decide) ?_
      exact hE _ _ _ _ dX9_massOf_21 (oH_some h)
    · have h := oH_T hc h
      refine o_bipush (v := 30) (pc := 14) dX9_massOf_14 (by decide) ?_
      refine o_goto 21 (pc := 16) dX9_massOf_16 (by decide) ?_
      exact hE _ _ _ _ dX9_massOf_21 (oH_some h)
  · have h := oH_T hc h
    refine o_bipush (v := 10) (pc := 4) dX9_massOf_4 (by decide) ?_
    refine o_goto 21 (pc := 6) dX9_massOf_6 (by decide) ?_
    exact hE _ _ _ _ dX9_massOf_21 (oH_some h)
def f_X9_layWarm_L2  : Int32 × oS → Option ((Int32 × oS) ⊕ (oS)) := fun w =>
  match w with
  | (zv1, S) =>
    if (12 : Int32) ≤ zv1 then (
    some (Sum.inr S)) else (
    if oIn zv1 12 then (
    (f_X9_massOf (zv1 - zv1 / (3 : Int32) * (3 : Int32)) S).bind fun zz1 =>
    if ¬ (Int32.toInt64 zz1.1) = 0 then (
    if oIn zv1 12 then (
    oLet (oStL zz1.2 1051 0 (Int32.toNatClampNeg zv1) ((S.2 1050 0 (Int32.toNatClampNeg zv1)) / (Int32.toInt64 zz1.1))) fun zS2 =>
    oLet (zv1 + (1 : Int32)) fun zx3 =>
    some (Sum.inl (zx3, zS2))) else none) else none) else none)
set_option maxHeartbeats 4000000 in
theorem s_X9_layWarm_L2b {X : oX} {e : Nat} (he : 1 ≤ e) (hR : oRoom X (e + 1))  {VH : Int32 × oS → Prop} {VE : oS → Prop} (hVH : ∀ z, VH z → oVv X mX9_layWarm 2 [(0, orf 1000 0), (1, oi z.1)] [] z.2) (hVE : ∀ z, VE z → oVv X mX9_layWarm 34 [] [] z) {zv1 : Int32} {S : oS} (h : oH (f_X9_layWarm_L2 (zv1, S)) (fun z => Sum.elim VH VE z)) : oVv X mX9_layWarm 2 [(0, orf 1000 0), (1, oi zv1)] [] S := by
  dsimp only [f_X9_layWarm_L2] at h
  refine o_iload_n (pc := 2) dX9_layWarm_2 rfl 1 rfl ?_
  refine o_bipush (v := 12) (pc := 3) dX9_layWarm_3 (by decide) ?_
  refine o_icmp_ge 34 (pc := 5) dX9_layWarm_5 (by decide) (fun hc => ?_) (fun hc => ?_)
  · have h := oH_T hc h
    refine o_weak [] rfl ?_
    exact hVE _ (oH_some (P := fun z => Sum.elim VH VE z) h)
  · have h := oH_F hc h
    refine o_aload_n (pc := 8) dX9_layWarm_8 rfl 0 rfl ?_
    refine o_getA (pc := 9) fd_RX9_115 ft_1000_50 j_1000 dX9_layWarm_9 ?_
    refine o_iload_n (pc := 12) dX9_layWarm_12 rfl 1 rfl ?_
    refine o_aload_n (pc := 13) dX9_layWarm_13 rfl 0 rfl ?_
    refine o_getA (pc := 14) fd_RX9_112 ft_1000_49 j_1000 dX9_layWarm_14 ?_
    refine o_iload_n (pc := 17) dX9_layWarm_17 rfl 1 rfl ?_
    obtain ⟨hg, h⟩ := oH_G h
    refine o_lald (pc := 18) kd_1050 j_1050 hg dX9_layWarm_18 ?_
    refine o_iload_n (pc := 19) dX9_layWarm_19 rfl 1 rfl ?_
    refine o_iconst (v := 3) (pc := 20) dX9_layWarm_20 (by decide) ?_
    refine o_irem (pc := 21) dX9_layWarm_21 (by decide) ?_
    have h := oH_bind h
    refine o_callSi (pc := 22) (st := [ol (S.2 1050 0 (Int32.toNatClampNeg zv1)), oi zv1, orf 1051 0]) [oi (zv1 - zv1 / (3 : Int32) * (3 : Int32))] hR md_X9_massOf wd_858 wd_859 rfl (Nat.le_of_ble_eq_true rfl) rfl dX9_layWarm_22 (s_X9_massOf e (by omega)  h) (fun zz1 h => ?_)
    refine o_i2l (pc := 25) dX9_layWarm_25 ?_
    obtain ⟨hg, h⟩ := oH_G h
    refine o_ldiv (pc := 26) dX9_layWarm_26 hg ?_
    obtain ⟨hg, h⟩ := oH_G h
    have hgi := hg
    refine o_last (pc := 27) kd_1051 j_1051 hgi dX9_layWarm_27 ?_
    refine o_nmS (fun zS2 hx => ?_)
    have h := oH_let h zS2 hx
    clear hx
    obtain ⟨zx3, hx⟩ : ∃ y : Int32, y = zv1 + (1 : Int32) := ⟨_, rfl⟩
    have h := oH_let h zx3 hx
    refine o_iinc (lv1 := [(0, orf 1000 0), (1, oi zx3)]) (pc := 28) dX9_layWarm_28 1 rfl hx.symm (by decide) rfl ?_
    clear hx
    refine o_goto 2 (pc := 31) dX9_layWarm_31 (by decide) ?_
    exact hVH _ (oH_some (P := fun z => Sum.elim VH VE z) h)
theorem s_X9_layWarm_L2 {X : oX} {e : Nat} (he : 1 ≤ e) (hR : oRoom X (e + 1))   {VE : oS → Prop} (hVE : ∀ z, VE z → oVv X mX9_layWarm 34 [] [] z) (n : Nat) (w : Int32 × oS) (h : oH (oLp (f_X9_layWarm_L2) n w) VE) : oVv X mX9_layWarm 2 [(0, orf 1000 0), (1, oi w.1)] [] w.2 :=
  oLp_s (VH := fun w => oVv X mX9_layWarm 2 [(0, orf 1000 0), (1, oi w.1)] [] w.2) (fun w h => s_X9_layWarm_L2b he hR  (fun _ h => h) hVE h) n w h
def f_X9_layWarm   (S : oS) : Option (oS) :=
  (oLp (f_X9_layWarm_L2) oFu ((0 : Int32), S)).bind fun zz4 =>
  some zz4
set_option maxHeartbeats 4000000 in
theorem s_X9_layWarm {G : oG} {r : oR} (d : Nat) (hd : 2 ≤ d)   {S : oS} {P : oS → Prop} (h : oH (f_X9_layWarm  S) P) : oCt G r d yX9_layWarm mX9_layWarm [orf 1000 0] S (oQv P) := by
  unfold f_X9_layWarm at h
  refine oCt_of (by decide) rfl (Nat.le_of_ble_eq_true rfl) ?_
  intro X hG hr hE0 hR
  subst hG; subst hr
  obtain ⟨e, rfl⟩ : ∃ e, d = e + 1 := ⟨d - 1, by omega⟩
  have he : 1 ≤ e := by omega
  have hE := oEV_of hE0 rfl
  clear hE0 hd
  show oVv X mX9_layWarm 0 [(0, orf 1000 0)] [] S
  refine o_iconst (v := 0) (pc := 0) dX9_layWarm_0 (by decide) ?_
  refine o_istore_n (lv1 := [(0, orf 1000 0), (1, oi (0 : Int32))]) (pc := 1) dX9_layWarm_1 rfl (by decide) rfl ?_
  have h := oH_bind h
  refine s_X9_layWarm_L2 he hR  (fun zz4 h => ?_) _ ((0 : Int32), S) h
  exact hE _ _ _ dX9_layWarm_34 (oH_some h)
def f_X9_letOut_K11 (zv1 : Int32) (zs0 : Int64) (S : oS) : Option (oS) :=
  if oIn zv1 12 then (
  if oIn zv1 12 then (
  oLet (oStL S 1050 0 (Int32.toNatClampNeg zv1) ((S.2 1050 0 (Int32.toNatClampNeg zv1)) - zs0)) fun zS1 =>
  oLet (oStL zS1 1000 0 52 ((zS1.2 1000 0 52) + zs0)) fun zS2 =>
  some zS2) else none) else none
set_option maxHeartbeats 4000000 in
theorem s_X9_letOut_K11 {X : oX} {e : Nat} (he : 0 ≤ e) (hR : oRoom X (e + 1)) {zv1 : Int32} {zs0 : Int64} {P : oS → Prop} (hE : oEV X mX9_letOut P) {S : oS} (h : oH (f_X9_letOut_K11 zv1 zs0 S) P) : oVv X mX9_letOut 11 [(0, orf 1000 0), (1, oi zv1)] [ol zs0] S := by
  unfold f_X9_letOut_K11 at h
  refine o_lstore (lv1 := [(0, orf 1000 0), (1, oi zv1), (4, ol zs0)]) (pc := 11) dX9_letOut_11 (by decide) rfl ?_
  refine o_aload_n (pc := 13) dX9_letOut_13 rfl 0 rfl ?_
  refine o_getA (pc := 14) fd_RX9_112 ft_1000_49 j_1000 dX9_letOut_14 ?_
  refine o_iload_n (pc := 17) dX9_letOut_17 rfl 1 rfl ?_
  refine o_dup2 (pc := 18) dX9_letOut_18 rfl rfl ?_
  obtain ⟨hg, h⟩ := oH_G h
  refine o_lald (pc := 19) kd_1050 j_1050 hg dX9_letOut_19 ?_
  refine o_lload (pc := 20) dX9_letOut_20 2 rfl ?_
  refine o_lsub (pc := 22) dX9_letOut_22 ?_
  obtain ⟨hg, h⟩ := oH_G h
  have hgi := hg
  refine o_last (pc := 23) kd_1050 j_1050 hgi dX9_letOut_23 ?_
  refine o_nmS (fun zS1 hx => ?_)
  have h := oH_let h zS1 hx
  clear hx
  refine o_aload_n (pc := 24) dX9_letOut_24 rfl 0 rfl ?_
  refine o_dup (pc := 25) dX9_letOut_25 rfl ?_
  refine o_getL (pc := 26) fd_RX9_166 ft_1000_52 j_1000 dX9_letOut_26 ?_
  refine o_lload (pc := 29) dX9_letOut_29 2 rfl ?_
  refine o_ladd (pc := 31) dX9_letOut_31 ?_
  refine o_putL (pc := 32) fd_RX9_166 fp_1000_52 ft_1000_52 j_1000 dX9_letOut_32 ?_
  refine o_nmS (fun zS2 hx => ?_)
  have h := oH_let h zS2 hx
  clear hx
  exact hE _ _ _ dX9_letOut_35 (oH_some h)
def f_X9_letOut  (za1 : Int32) (za2 : Int64) (S : oS) : Option (oS) :=
  if za2 ≤ (0 : Int64) then (
  f_X9_letOut_K11 za1 (0 : Int64) S) else (
  f_X9_letOut_K11 za1 za2 S)
set_option maxHeartbeats 4000000 in
theorem s_X9_letOut {G : oG} {r : oR} (d : Nat) (hd : 1 ≤ d) {za1 : Int32} {za2 : Int64}  {S : oS} {P : oS → Prop} (h : oH (f_X9_letOut za1 za2 S) P) : oCt G r d yX9_letOut mX9_letOut [orf 1000 0, oi za1, ol za2] S (oQv P) := by
  unfold f_X9_letOut at h
  refine oCt_of (by decide) rfl (Nat.le_of_ble_eq_true rfl) ?_
  intro X hG hr hE0 hR
  subst hG; subst hr
  obtain ⟨e, rfl⟩ : ∃ e, d = e + 1 := ⟨d - 1, by omega⟩
  have he : 0 ≤ e := by omega
  have hE := oEV_of hE0 rfl
  clear hE0 hd
  show oVv X mX9_letOut 0 [(0, orf 1000 0), (1, oi za1), (2, ol za2)] [] S
  refine o_lload_n (pc := 0) dX9_letOut_0 rfl 2 rfl ?_
  refine o_lconst (v := 0) (pc := 1) dX9_letOut_1 (by decide) ?_
  refine o_lcmp_le 10 (pc := 2) dX9_letOut_2 dX9_letOut_3 (by decide) (fun hc => ?_) (fun hc => ?_)
  · have h := oH_T hc h
    refine o_lconst (v := 0) (pc := 10) dX9_letOut_10 (by decide) ?_
    refine o_weak [0, 1] rfl ?_
    exact s_X9_letOut_K11 he hR  hE h
  · have h := oH_F hc h
    refine o_lload_n (pc := 6) dX9_letOut_6 rfl 2 rfl ?_
    refine o_goto 11 (pc := 7) dX9_letOut_7 (by decide) ?_
    refine o_weak [0, 1] rfl ?_
    exact s_X9_letOut_K11 he hR  hE h
def f_X9_shift  (za1 : Int32) (za2 : Int32) (za3 : Int64) (S : oS) : Option (oS) :=
  if oIn za1 12 then (
  if oIn za1 12 then (
  oLet (oStL S 1050 0 (Int32.toNatClampNeg za1) ((S.2 1050 0 (Int32.toNatClampNeg za1)) - za3)) fun zS1 =>
  if oIn za2 12 then (
  if oIn za2 12 then (
  oLet (oStL zS1 1050 0 (Int32.toNatClampNeg za2) ((zS1.2 1050 0 (Int32.toNatClampNeg za2)) + za3)) fun zS2 =>
  some zS2) else none) else none) else none) else none
set_option maxHeartbeats 4000000 in
theorem s_X9_shift {G : oG} {r : oR} (d : Nat) (hd : 1 ≤ d) {za1 : Int32} {za2 : Int32} {za3 : Int64}  {S : oS} {P : oS → Prop} (h : oH (f_X9_shift za1 za2 za3 S) P) : oCt G r d yX9_shift mX9_shift [orf 1000 0, oi za1, oi za2, ol za3] S (oQv P) := by
  unfold f_X9_shift at h
  refine oCt_of (by decide) rfl (Nat.le_of_ble_eq_true rfl) ?_
  intro X hG hr hE0 hR
  subst hG; subst hr
  obtain ⟨e, rfl⟩ : ∃ e, d = e + 1 := ⟨d - 1, by omega⟩
  have he : 0 ≤ e := by omega
  have hE := oEV_of hE0 rfl
  clear hE0 hd
  show oVv X mX9_shift 0 [(0, orf 1000 0), (1, oi za1), (2, oi za2), (3, ol za3)] [] S
  refine o_aload_n (pc := 0) dX9_shift_0 rfl 0 rfl ?_
  refine o_getA (pc := 1) fd_RX9_112 ft_1000_49 j_1000 dX9_shift_1 ?_
  refine o_iload_n (pc := 4) dX9_shift_4 rfl 1 rfl ?_
  refine o_dup2 (pc := 5) dX9_shift_5 rfl rfl ?_
  obtain ⟨hg, h⟩ := oH_G h
  refine o_lald (pc := 6) kd_1050 j_1050 hg dX9_shift_6 ?_
  refine o_lload_n (pc := 7) dX9_shift_7 rfl 3 rfl ?_
  refine o_lsub (pc := 8) dX9_shift_8 ?_
  obtain ⟨hg, h⟩ := oH_G h
  have hgi := hg
  refine o_last (pc := 9) kd_1050 j_1050 hgi dX9_shift_9 ?_
  refine o_nmS (fun zS1 hx => ?_)
  have h := oH_let h zS1 hx
  clear hx
  refine o_aload_n (pc := 10) dX9_shift_10 rfl 0 rfl ?_
  refine o_getA (pc := 11) fd_RX9_112 ft_1000_49 j_1000 dX9_shift_11 ?_
  refine o_iload_n (pc := 14) dX9_shift_14 rfl 2 rfl ?_
  refine o_dup2 (pc := 15) dX9_shift_15 rfl rfl ?_
  obtain ⟨hg, h⟩ := oH_G h
  refine o_lald (pc := 16) kd_1050 j_1050 hg dX9_shift_16 ?_
  refine o_lload_n (pc := 17) dX9_shift_17 rfl 3 rfl ?_
  refine o_ladd (pc := 18) dX9_shift_18 ?_
  obtain ⟨hg, h⟩ := oH_G h
  have hgi := hg
  refine o_last (pc := 19) kd_1050 j_1050 hgi dX9_shift_19 ?_
  refine o_nmS (fun zS2 hx => ?_)
  have h := oH_let h zS2 hx
  clear hx
  exact hE _ _ _ dX9_shift_20 (oH_some h)
def f_X9_step_K182 (zv3 : Int32) (zv8 : Int32) (zs0 : Int64) (S : oS) : Option ((Int32 × oS) ⊕ (oS)) :=
  if oIn zv8 4 then (
  if oIn zv8 4 then (
  oLet (oStI S 1052 0 (Int32.toNatClampNeg zv8) ((S.1 1052 0 (Int32.toNatClampNeg zv8)) - (Int64.toInt32 zs0))) fun zS16 =>
  (f_X9_cellOf zv8 (0 : Int32) zS16).bind fun zz17 =>
  (f_X9_letOut zz17.1 ((25 : Int64) * zs0) zz17.2).bind fun zz18 =>
  oLet (zv8 + (1 : Int32)) fun zx19 =>
  some (Sum.inl (zx19, zz18))) else none) else none
set_option maxHeartbeats 4000000 in
theorem s_X9_step_K182 {X : oX} {e : Nat} (he : 2 ≤ e) (hR : oRoom X (e + 1)) {zv3 : Int32} {zv8 : Int32} {zs0 : Int64} {VH : Int32 × oS → Prop} {VE : oS → Prop} (hVH : ∀ z, VH z → oVv X mX9_step 103 [(0, orf 1000 0), (3, oi zv3), (8, oi z.1)] [] z.2) (hVE : ∀ z, VE z → oVv X mX9_step 219 [(0, orf 1000 0), (3, oi zv3)] [] z) {S : oS} (h : oH (f_X9_step_K182 zv3 zv8 zs0 S) (fun z => Sum.elim VH VE z)) : oVv X mX9_step 182 [(0, orf 1000 0), (3, oi zv3), (8, oi zv8)] [ol zs0] S := by
  unfold f_X9_step_K182 at h
  refine o_lstore (lv1 := [(0, orf 1000 0), (3, oi zv3), (8, oi zv8), (11, ol zs0)]) (pc := 182) dX9_step_182 (by decide) rfl ?_
  refine o_aload_n (pc := 184) dX9_step_184 rfl 0 rfl ?_
  refine o_getA (pc := 185) fd_RX9_118 ft_1000_51 j_1000 dX9_step_185 ?_
  refine o_iload (pc := 188) dX9_step_188 2 rfl ?_
  refine o_dup2 (pc := 190) dX9_step_190 rfl rfl ?_
  obtain ⟨hg, h⟩ := oH_G h
  refine o_iald (pc := 191) kd_1052 j_1052 hg dX9_step_191 ?_
  refine o_lload (pc := 192) dX9_step_192 3 rfl ?_
  refine o_l2i (pc := 194) dX9_step_194 ?_
  refine o_isub (pc := 195) dX9_step_195 ?_
  obtain ⟨hg, h⟩ := oH_G h
  have hgi := hg
  refine o_iast (pc := 196) kd_1052 j_1052 hgi dX9_step_196 ?_
  refine o_nmS (fun zS16 hx => ?_)
  have h := oH_let h zS16 hx
  clear hx
  refine o_aload_n (pc := 197) dX9_step_197 rfl 0 rfl ?_
  refine o_iload (pc := 198) dX9_step_198 2 rfl ?_
  refine o_iconst (v := 0) (pc := 200) dX9_step_200 (by decide) ?_
  have h := oH_bind h
  refine o_callSi (pc := 201) (st := [orf 1000 0]) [oi zv8, oi (0 : Int32)] hR md_X9_cellOf wd_1106 wd_1107 rfl (Nat.le_of_ble_eq_true rfl) rfl dX9_step_201 (s_X9_cellOf e (by omega)  h) (fun zz17 h => ?_)
  refine o_ldc2 (v := 25) (pc := 204) dX9_step_204 wd_1115 ?_
  refine o_lload (pc := 207) dX9_step_207 3 rfl ?_
  refine o_lmul (pc := 209) dX9_step_209 ?_
  have h := oH_bind h
  refine o_callVv (pc := 210) (st := []) [oi zz17.1, ol ((25 : Int64) * zs0)] hR md_X9_letOut wd_1116 wd_1118 ws_26 tc_1000 j_1000 rfl (Nat.le_of_ble_eq_true rfl) rfl dX9_step_210 (s_X9_letOut e (by omega)  h) (fun zz18 h => ?_)
  obtain ⟨zx19, hx⟩ : ∃ y : Int32, y = zv8 + (1 : Int32) := ⟨_, rfl⟩
  have h := oH_let h zx19 hx
  refine o_iinc (lv1 := [(0, orf 1000 0), (3, oi zv3), (8, oi zx19), (11, ol zs0)]) (pc := 213) dX9_step_213 2 rfl hx.symm (by decide) rfl ?_
  clear hx
  refine o_goto 103 (pc := 216) dX9_step_216 (by decide) ?_
  refine o_weak [0, 1, 2] rfl ?_
  exact hVH _ (oH_some (P := fun z => Sum.elim VH VE z) h)
def f_X9_step_L103 (zv3 : Int32) : Int32 × oS → Option ((Int32 × oS) ⊕ (oS)) := fun w =>
  match w with
  | (zv8, S) =>
    if (4 : Int32) ≤ zv8 then (
    some (Sum.inr S)) else (
    (f_X9_cellOf zv8 (0 : Int32) S).bind fun zz11 =>
    if oIn zz11.1 12 then (
    oLet (zz11.2.2 1051 0 (Int32.toNatClampNeg zz11.1)) fun zx12 =>
    if oIn zv8 4 then (
    if (zz11.2.1 1052 0 (Int32.toNatClampNeg zv8)) ≤ 0 then (
    oLet (zv8 + (1 : Int32)) fun zx13 =>
    some (Sum.inl (zx13, zz11.2))) else (
    if zx12 < (90 : Int64) then (
    oLet (zv8 + (1 : Int32)) fun zx14 =>
    some (Sum.inl (zx14, zz11.2))) else (
    oLet ((((zx12 - (90 : Int64)) / (4 : Int64)) + (1 : Int64))) fun zx15 =>
    if oIn zv8 4 then (
    if (Int32.toInt64 (zz11.2.1 1052 0 (Int32.toNatClampNeg zv8))) ≤ zx15 then (
    if oIn zv8 4 then (
    f_X9_step_K182 zv3 zv8 (Int32.toInt64 (zz11.2.1 1052 0 (Int32.toNatClampNeg zv8))) zz11.2) else none) else (
    f_X9_step_K182 zv3 zv8 zx15 zz11.2)) else none))) else none) else none)
set_option maxHeartbeats 4000000 in
theorem s_X9_step_L103b {X : oX} {e : Nat} (he : 2 ≤ e) (hR : oRoom X (e + 1)) {zv3 : Int32} {VH : Int32 × oS → Prop} {VE : oS → Prop} (hVH : ∀ z, VH z → oVv X mX9_step 103 [(0, orf 1000 0), (3, oi zv3), (8, oi z.1)] [] z.2) (hVE : ∀ z, VE z → oVv X mX9_step 219 [(0, orf 1000 0), (3, oi zv3)] [] z) {zv8 : Int32} {S : oS} (h : oH (f_X9_step_L103 zv3 (zv8, S)) (fun z => Sum.elim VH VE z)) : oVv X mX9_step 103 [(0, orf 1000 0), (3, oi zv3), (8, oi zv8)] [] S := by
  dsimp only [f_X9_step_L103] at h
  refine o_iload (pc := 103) dX9_step_103 2 rfl ?_
  refine o_iconst (v := 4) (pc := 105) dX9_step_105 (by decide) ?_
  refine o_icmp_ge 219 (pc := 106) dX9_step_106 (by decide) (fun hc => ?_) (fun hc => ?_)
  · have h := oH_T hc h
    refine o_weak [0, 1] rfl ?_
    exact hVE _ (oH_some (P := fun z => Sum.elim VH VE z) h)
  · have h := oH_F hc h
    refine o_aload_n (pc := 109) dX9_step_109 rfl 0 rfl ?_
    refine o_getA (pc := 110) fd_RX9_115 ft_1000_50 j_1000 dX9_step_110 ?_
    refine o_iload (pc := 113) dX9_step_113 2 rfl ?_
    refine o_iconst (v := 0) (pc := 115) dX9_step_115 (by decide) ?_
    have h := oH_bind h
    refine o_callSi (pc := 116) (st := [orf 1051 0]) [oi zv8, oi (0 : Int32)] hR md_X9_cellOf wd_1106 wd_1107 rfl (Nat.le_of_ble_eq_true rfl) rfl dX9_step_116 (s_X9_cellOf e (by omega)  h) (fun zz11 h => ?_)
    obtain ⟨hg, h⟩ := oH_G h
    refine o_lald (pc := 119) kd_1051 j_1051 hg dX9_step_119 ?_
    refine o_nmL (fun zx12 hx => ?_)
    have h := oH_let h zx12 hx
    clear hx
    refine o_lstore (lv1 := [(0, orf 1000 0), (3, oi zv3), (8, oi zv8), (9, ol zx12)]) (pc := 120) dX9_step_120 (by decide) rfl ?_
    refine o_aload_n (pc := 122) dX9_step_122 rfl 0 rfl ?_
    refine o_getA (pc := 123) fd_RX9_118 ft_1000_51 j_1000 dX9_step_123 ?_
    refine o_iload (pc := 126) dX9_step_126 2 rfl ?_
    obtain ⟨hg, h⟩ := oH_G h
    refine o_iald (pc := 128) kd_1052 j_1052 hg dX9_step_128 ?_
    refine o_if_le 213 (pc := 129) dX9_step_129 (by decide) (fun hc => ?_) (fun hc => ?_)
    · have h := oH_T hc h
      obtain ⟨zx13, hx⟩ : ∃ y : Int32, y = zv8 + (1 : Int32) := ⟨_, rfl⟩
      have h := oH_let h zx13 hx
      refine o_iinc (lv1 := [(0, orf 1000 0), (3, oi zv3), (8, oi zx13), (9, ol zx12)]) (pc := 213) dX9_step_213 2 rfl hx.symm (by decide) rfl ?_
      clear hx
      refine o_goto 103 (pc := 216) dX9_step_216 (by decide) ?_
      refine o_weak [0, 1, 2] rfl ?_
      exact hVH _ (oH_some (P := fun z => Sum.elim VH VE z) h)
    · have h := oH_F hc h
      refine o_lload (pc := 132) dX9_step_132 3 rfl ?_
      refine o_ldc2 (v := 90) (pc := 134) dX9_step_134 wd_1113 ?_
      refine o_lcmp_lt 213 (pc := 137) dX9_step_137 dX9_step_138 (by decide) (fun hc => ?_) (fun hc => ?_)
      · have h := oH_T hc h
        obtain ⟨zx14, hx⟩ : ∃ y : Int32, y = zv8 + (1 : Int32) := ⟨_, rfl⟩
        have h := oH_let h zx14 hx
        refine o_iinc (lv1 := [(0, orf 1000 0), (3, oi zv3), (8, oi zx14), (9, ol zx12)]) (pc := 213) dX9_step_213 2 rfl hx.symm (by decide) rfl ?_
        clear hx
        refine o_goto 103 (pc := 216) dX9_step_216 (by decide) ?_
        refine o_weak [0, 1, 2] rfl ?_
        exact hVH _ (oH_some (P := fun z => Sum.elim VH VE z) h)
      · have h := oH_F hc h
        refine o_lload (pc := 141) dX9_step_141 3 rfl ?_
        refine o_ldc2 (v := 90) (pc := 143) dX9_step_143 wd_1113 ?_
        refine o_lsub (pc := 146) dX9_step_146 ?_
        refine o_ldc2 (v := 4) (pc := 147) dX9_step_147 wd_1114 ?_
        refine o_ldiv (pc := 150) dX9_step_150 (by decide) ?_
        refine o_lconst (v := 1) (pc := 151) dX9_step_151 (by decide) ?_
        refine o_ladd (pc := 152) dX9_step_152 ?_
        refine o_nmL (fun zx15 hx => ?_)
        have h := oH_let h zx15 hx
        clear hx
        refine o_lstore (lv1 := [(0, orf 1000 0), (3, oi zv3), (8, oi zv8), (9, ol zx12), (11, ol zx15)]) (pc := 153) dX9_step_153 (by decide) rfl ?_
        refine o_lload (pc := 155) dX9_step_155 4 rfl ?_
        refine o_aload_n (pc := 157) dX9_step_157 rfl 0 rfl ?_
        refine o_getA (pc := 158) fd_RX9_118 ft_1000_51 j_1000 dX9_step_158 ?_
        refine o_iload (pc := 161) dX9_step_161 2 rfl ?_
        obtain ⟨hg, h⟩ := oH_G h
        refine o_iald (pc := 163) kd_1052 j_1052 hg dX9_step_163 ?_
        refine o_i2l (pc := 164) dX9_step_164 ?_
        refine o_lcmp_ge 174 (pc := 165) dX9_step_165 dX9_step_166 (by decide) (fun hc => ?_) (fun hc => ?_)
        · have h := oH_T hc h
          refine o_aload_n (pc := 174) dX9_step_174 rfl 0 rfl ?_
          refine o_getA (pc := 175) fd_RX9_118 ft_1000_51 j_1000 dX9_step_175 ?_
          refine o_iload (pc := 178) dX9_step_178 2 rfl ?_
          obtain ⟨hg, h⟩ := oH_G h
          refine o_iald (pc := 180) kd_1052 j_1052 hg dX9_step_180 ?_
          refine o_i2l (pc := 181) dX9_step_181 ?_
          refine o_weak [0, 1, 2] rfl ?_
          exact s_X9_step_K182 he hR  hVH hVE h
        · have h := oH_F hc h
          refine o_lload (pc := 169) dX9_step_169 4 rfl ?_
          refine o_goto 182 (pc := 171) dX9_step_171 (by decide) ?_
          refine o_weak [0, 1, 2] rfl ?_
          exact s_X9_step_K182 he hR  hVH hVE h
theorem s_X9_step_L103 {X : oX} {e : Nat} (he : 2 ≤ e) (hR : oRoom X (e + 1)) {zv3 : Int32}  {VE : oS → Prop} (hVE : ∀ z, VE z → oVv X mX9_step 219 [(0, orf 1000 0), (3, oi zv3)] [] z) (n : Nat) (w : Int32 × oS) (h : oH (oLp (f_X9_step_L103 zv3) n w) VE) : oVv X mX9_step 103 [(0, orf 1000 0), (3, oi zv3), (8, oi w.1)] [] w.2 :=
  oLp_s (VH := fun w => oVv X mX9_step 103 [(0, orf 1000 0), (3, oi zv3), (8, oi w.1)] [] w.2) (fun w h => s_X9_step_L103b he hR  (fun _ h => h) hVE h) n w h
def f_X9_step_L226 (zv3 : Int32) : Int32 × oS → Option ((Int32 × oS) ⊕ (oS)) := fun w =>
  match w with
  | (zv8, S) =>
    if (4 : Int32) ≤ zv8 then (
    some (Sum.inr S)) else (
    (f_X9_cellOf zv8 (0 : Int32) S).bind fun zz22 =>
    (f_X9_cellOf zv8 (1 : Int32) zz22.2).bind fun zz23 =>
    (f_X9_cellOf zv8 (0 : Int32) zz23.2).bind fun zz24 =>
    if oIn zz24.1 12 then (
    (f_X9_cellOf zv8 (1 : Int32) zz24.2).bind fun zz25 =>
    if oIn zz25.1 12 then (
    (f_X9_shift zz22.1 zz23.1 ((2 : Int64) * ((zz24.2.2 1051 0 (Int32.toNatClampNeg zz24.1)) - (zz25.2.2 1051 0 (Int32.toNatClampNeg zz25.1)))) zz25.2).bind fun zz26 =>
    (f_X9_cellOf zv8 (1 : Int32) zz26).bind fun zz27 =>
    (f_X9_cellOf zv8 (2 : Int32) zz27.2).bind fun zz28 =>
    if oIn zv8 4 then (
    (f_X9_cellOf zv8 (1 : Int32) zz28.2).bind fun zz29 =>
    if oIn zz29.1 12 then (
    (f_X9_cellOf zv8 (2 : Int32) zz29.2).bind fun zz30 =>
    if oIn zz30.1 12 then (
    (f_X9_shift zz27.1 zz28.1 ((Int32.toInt64 ((2 : Int32) + (zz28.2.1 1004 0 (Int32.toNatClampNeg zv8)))) * ((zz29.2.2 1051 0 (Int32.toNatClampNeg zz29.1)) - (zz30.2.2 1051 0 (Int32.toNatClampNeg zz30.1)))) zz30.2).bind fun zz31 =>
    oLet (zv8 + (1 : Int32)) fun zx32 =>
    some (Sum.inl (zx32, zz31))) else none) else none) else none) else none) else none)
set_option maxHeartbeats 4000000 in
theorem s_X9_step_L226b {X : oX} {e : Nat} (he : 2 ≤ e) (hR : oRoom X (e + 1)) {zv3 : Int32} {VH : Int32 × oS → Prop} {VE : oS → Prop} (hVH : ∀ z, VH z → oVv X mX9_step 226 [(0, orf 1000 0), (3, oi zv3), (8, oi z.1)] [] z.2) (hVE : ∀ z, VE z → oVv X mX9_step 331 [(0, orf 1000 0), (3, oi zv3)] [] z) {zv8 : Int32} {S : oS} (h : oH (f_X9_step_L226 zv3 (zv8, S)) (fun z => Sum.elim VH VE z)) : oVv X mX9_step 226 [(0, orf 1000 0), (3, oi zv3), (8, oi zv8)] [] S := by
  dsimp only [f_X9_step_L226] at h
  refine o_iload (pc := 226) dX9_step_226 2 rfl ?_
  refine o_iconst (v := 4) (pc := 228) dX9_step_228 (by decide) ?_
  refine o_icmp_ge 331 (pc := 229) dX9_step_229 (by decide) (fun hc => ?_) (fun hc => ?_)
  · have h := oH_T hc h
    refine o_weak [0, 1] rfl ?_
    exact hVE _ (oH_some (P := fun z => Sum.elim VH VE z) h)
  · have h := oH_F hc h
    refine o_aload_n (pc := 232) dX9_step_232 rfl 0 rfl ?_
    refine o_iload (pc := 233) dX9_step_233 2 rfl ?_
    refine o_iconst (v := 0) (pc := 235) dX9_step_235 (by decide) ?_
    have h := oH_bind h
    refine o_callSi (pc := 236) (st := [orf 1000 0]) [oi zv8, oi (0 : Int32)] hR md_X9_cellOf wd_1106 wd_1107 rfl (Nat.le_of_ble_eq_true rfl) rfl dX9_step_236 (s_X9_cellOf e (by omega)  h) (fun zz22 h => ?_)
    refine o_iload (pc := 239) dX9_step_239 2 rfl ?_
    refine o_iconst (v := 1) (pc := 241) dX9_step_241 (by decide) ?_
    have h := oH_bind h
    refine o_callSi (pc := 242) (st := [oi zz22.1, orf 1000 0]) [oi zv8, oi (1 : Int32)] hR md_X9_cellOf wd_1106 wd_1107 rfl (Nat.le_of_ble_eq_true rfl) rfl dX9_step_242 (s_X9_cellOf e (by omega)  h) (fun zz23 h => ?_)
    refine o_ldc2 (v := 2) (pc := 245) dX9_step_245 wd_1105 ?_
    refine o_aload_n (pc := 248) dX9_step_248 rfl 0 rfl ?_
    refine o_getA (pc := 249) fd_RX9_115 ft_1000_50 j_1000 dX9_step_249 ?_
    refine o_iload (pc := 252) dX9_step_252 2 rfl ?_
    refine o_iconst (v := 0) (pc := 254) dX9_step_254 (by decide) ?_
    have h := oH_bind h
    refine o_callSi (pc := 255) (st := [orf 1051 0, ol (2 : Int64), oi zz23.1, oi zz22.1, orf 1000 0]) [oi zv8, oi (0 : Int32)] hR md_X9_cellOf wd_1106 wd_1107 rfl (Nat.le_of_ble_eq_true rfl) rfl dX9_step_255 (s_X9_cellOf e (by omega)  h) (fun zz24 h => ?_)
    obtain ⟨hg, h⟩ := oH_G h
    refine o_lald (pc := 258) kd_1051 j_1051 hg dX9_step_258 ?_
    refine o_aload_n (pc := 259) dX9_step_259 rfl 0 rfl ?_
    refine o_getA (pc := 260) fd_RX9_115 ft_1000_50 j_1000 dX9_step_260 ?_
    refine o_iload (pc := 263) dX9_step_263 2 rfl ?_
    refine o_iconst (v := 1) (pc := 265) dX9_step_265 (by decide) ?_
    have h := oH_bind h
    refine o_callSi (pc := 266) (st := [orf 1051 0, ol (zz24.2.2 1051 0 (Int32.toNatClampNeg zz24.1)), ol (2 : Int64), oi zz23.1, oi zz22.1, orf 1000 0]) [oi zv8, oi (1 : Int32)] hR md_X9_cellOf wd_1106 wd_1107 rfl (Nat.le_of_ble_eq_true rfl) rfl dX9_step_266 (s_X9_cellOf e (by omega)  h) (fun zz25 h => ?_)
    obtain ⟨hg, h⟩ := oH_G h
    refine o_lald (pc := 269) kd_1051 j_1051 hg dX9_step_269 ?_
    refine o_lsub (pc := 270) dX9_step_270 ?_
    refine o_lmul (pc := 271) dX9_step_271 ?_
    have h := oH_bind h
    refine o_callVv (pc := 272) (st := []) [oi zz22.1, oi zz23.1, ol ((2 : Int64) * ((zz24.2.2 1051 0 (Int32.toNatClampNeg zz24.1)) - (zz25.2.2 1051 0 (Int32.toNatClampNeg zz25.1))))] hR md_X9_shift wd_1120 wd_1122 ws_27 tc_1000 j_1000 rfl (Nat.le_of_ble_eq_true rfl) rfl dX9_step_272 (s_X9_shift e (by omega)  h) (fun zz26 h => ?_)
    refine o_aload_n (pc := 275) dX9_step_275 rfl 0 rfl ?_
    refine o_iload (pc := 276) dX9_step_276 2 rfl ?_
    refine o_iconst (v := 1) (pc := 278) dX9_step_278 (by decide) ?_
    have h := oH_bind h
    refine o_callSi (pc := 279) (st := [orf 1000 0]) [oi zv8, oi (1 : Int32)] hR md_X9_cellOf wd_1106 wd_1107 rfl (Nat.le_of_ble_eq_true rfl) rfl dX9_step_279 (s_X9_cellOf e (by omega)  h) (fun zz27 h => ?_)
    refine o_iload (pc := 282) dX9_step_282 2 rfl ?_
    refine o_iconst (v := 2) (pc := 284) dX9_step_284 (by decide) ?_
    have h := oH_bind h
    refine o_callSi (pc := 285) (st := [oi zz27.1, orf 1000 0]) [oi zv8, oi (2 : Int32)] hR md_X9_cellOf wd_1106 wd_1107 rfl (Nat.le_of_ble_eq_true rfl) rfl dX9_step_285 (s_X9_cellOf e (by omega)  h) (fun zz28 h => ?_)
    refine o_iconst (v := 2) (pc := 288) dX9_step_288 (by decide) ?_
    refine o_aload_n (pc := 289) dX9_step_289 rfl 0 rfl ?_
    refine o_getA (pc := 290) fd_RX9_21 ft_1000_3 j_1000 dX9_step_290 ?_
    refine o_iload (pc := 293) dX9_step_293 2 rfl ?_
    obtain ⟨hg, h⟩ := oH_G h
    refine o_iald (pc := 295) kd_1004 j_1004 hg dX9_step_295 ?_
    refine o_iadd (pc := 296) dX9_step_296 ?_
    refine o_i2l (pc := 297) dX9_step_297 ?_
    refine o_aload_n (pc := 298) dX9_step_298 rfl 0 rfl ?_
    refine o_getA (pc := 299) fd_RX9_115 ft_1000_50 j_1000 dX9_step_299 ?_
    refine o_iload (pc := 302) dX9_step_302 2 rfl ?_
    refine o_iconst (v := 1) (pc := 304) dX9_step_304 (by decide) ?_
    have h := oH_bind h
    refine o_callSi (pc := 305) (st := [orf 1051 0, ol (Int32.toInt64 ((2 : Int32) + (zz28.2.1 1004 0 (Int32.toNatClampNeg zv8)))), oi zz28.1, oi zz27.1, orf 1000 0]) [oi zv8, oi (1 : Int32)] hR md_X9_cellOf wd_1106 wd_1107 rfl (Nat.le_of_ble_eq_true rfl) rfl dX9_step_305 (s_X9_cellOf e (by omega)  h) (fun zz29 h => ?_)
    obtain ⟨hg, h⟩ := oH_G h
    refine o_lald (pc := 308) kd_1051 j_1051 hg dX9_step_308 ?_
    refine o_aload_n (pc := 309) dX9_step_309 rfl 0 rfl ?_
    refine o_getA (pc := 310) fd_RX9_115 ft_1000_50 j_1000 dX9_step_310 ?_
    refine o_iload (pc := 313) dX9_step_313 2 rfl ?_
    refine o_iconst (v := 2) (pc := 315) dX9_step_315 (by decide) ?_
    have h := oH_bind h
    refine o_callSi (pc := 316) (st := [orf 1051 0, ol (zz29.2.2 1051 0 (Int32.toNatClampNeg zz29.1)), ol (Int32.toInt64 ((2 : Int32) + (zz28.2.1 1004 0 (Int32.toNatClampNeg zv8)))), oi zz28.1, oi zz27.1, orf 1000 0]) [oi zv8, oi (2 : Int32)] hR md_X9_cellOf wd_1106 wd_1107 rfl (Nat.le_of_ble_eq_true rfl) rfl dX9_step_316 (s_X9_cellOf e (by omega)  h) (fun zz30 h => ?_)
    obtain ⟨hg, h⟩ := oH_G h
    refine o_lald (pc := 319) kd_1051 j_1051 hg dX9_step_319 ?_
    refine o_lsub (pc := 320) dX9_step_320 ?_
    refine o_lmul (pc := 321) dX9_step_321 ?_
    have h := oH_bind h
    refine o_callVv (pc := 322) (st := []) [oi zz27.1, oi zz28.1, ol ((Int32.toInt64 ((2 : Int32) + (zz28.2.1 1004 0 (Int32.toNatClampNeg zv8)))) * ((zz29.2.2 1051 0 (Int32.toNatClampNeg zz29.1)) - (zz30.2.2 1051 0 (Int32.toNatClampNeg zz30.1))))] hR md_X9_shift wd_1120 wd_1122 ws_27 tc_1000 j_1000 rfl (Nat.le_of_ble_eq_true rfl) rfl dX9_step_322 (s_X9_shift e (by omega)  h) (fun zz31 h => ?_)
    obtain ⟨zx32, hx⟩ : ∃ y : Int32, y = zv8 + (1 : Int32) := ⟨_, rfl⟩
    have h := oH_let h zx32 hx
    refine o_iinc (lv1 := [(0, orf 1000 0), (3, oi zv3), (8, oi zx32)]) (pc := 325) dX9_step_325 2 rfl hx.symm (by decide) rfl ?_
    clear hx
    refine o_goto 226 (pc := 328) dX9_step_328 (by decide) ?_
    exact hVH _ (oH_some (P := fun z => Sum.elim VH VE z) h)
theorem s_X9_step_L226 {X : oX} {e : Nat} (he : 2 ≤ e) (hR : oRoom X (e + 1)) {zv3 : Int32}  {VE : oS → Prop} (hVE : ∀ z, VE z → oVv X mX9_step 331 [(0, orf 1000 0), (3, oi zv3)] [] z) (n : Nat) (w : Int32 × oS) (h : oH (oLp (f_X9_step_L226 zv3) n w) VE) : oVv X mX9_step 226 [(0, orf 1000 0), (3, oi zv3), (8, oi w.1)] [] w.2 :=
  oLp_s (VH := fun w => oVv X mX9_step 226 [(0, orf 1000 0), (3, oi zv3), (8, oi w.1)] [] w.2) (fun w h => s_X9_step_L226b he hR  (fun _ h => h) hVE h) n w h
def f_X9_step_L338 (zv3 : Int32) : Int32 × oS → Option ((Int32 × oS) ⊕ (oS)) := fun w =>
  match w with
  | (zv8, S) =>
    if (3 : Int32) ≤ zv8 then (
    some (Sum.inr S)) else (
    (f_X9_cellOf zv8 (0 : Int32) S).bind fun zz35 =>
    (f_X9_cellOf (zv8 + (1 : Int32)) (0 : Int32) zz35.2).bind fun zz36 =>
    (f_X9_cellOf zv8 (0 : Int32) zz36.2).bind fun zz37 =>
    if oIn zz37.1 12 then (
    (f_X9_cellOf (zv8 + (1 : Int32)) (0 : Int32) zz37.2).bind fun zz38 =>
    if oIn zz38.1 12 then (
    (f_X9_shift zz35.1 zz36.1 ((zz37.2.2 1051 0 (Int32.toNatClampNeg zz37.1)) - (zz38.2.2 1051 0 (Int32.toNatClampNeg zz38.1))) zz38.2).bind fun zz39 =>
    oLet (zv8 + (1 : Int32)) fun zx40 =>
    some (Sum.inl (zx40, zz39))) else none) else none)
set_option maxHeartbeats 4000000 in
theorem s_X9_step_L338b {X : oX} {e : Nat} (he : 2 ≤ e) (hR : oRoom X (e + 1)) {zv3 : Int32} {VH : Int32 × oS → Prop} {VE : oS → Prop} (hVH : ∀ z, VH z → oVv X mX9_step 338 [(0, orf 1000 0), (3, oi zv3), (8, oi z.1)] [] z.2) (hVE : ∀ z, VE z → oVv X mX9_step 393 [(0, orf 1000 0), (3, oi zv3)] [] z) {zv8 : Int32} {S : oS} (h : oH (f_X9_step_L338 zv3 (zv8, S)) (fun z => Sum.elim VH VE z)) : oVv X mX9_step 338 [(0, orf 1000 0), (3, oi zv3), (8, oi zv8)] [] S := by
  dsimp only [f_X9_step_L338] at h
  refine o_iload (pc := 338) dX9_step_338 2 rfl ?_
  refine o_iconst (v := 3) (pc := 340) dX9_step_340 (by decide) ?_
  refine o_icmp_ge 393 (pc := 341) dX9_step_341 (by decide) (fun hc => ?_) (fun hc => ?_)
  · have h := oH_T hc h
    refine o_weak [0, 1] rfl ?_
    exact hVE _ (oH_some (P := fun z => Sum.elim VH VE z) h)
  · have h := oH_F hc h
    refine o_aload_n (pc := 344) dX9_step_344 rfl 0 rfl ?_
    refine o_iload (pc := 345) dX9_step_345 2 rfl ?_
    refine o_iconst (v := 0) (pc := 347) dX9_step_347 (by decide) ?_
    have h := oH_bind h
    refine o_callSi (pc := 348) (st := [orf 1000 0]) [oi zv8, oi (0 : Int32)] hR md_X9_cellOf wd_1106 wd_1107 rfl (Nat.le_of_ble_eq_true rfl) rfl dX9_step_348 (s_X9_cellOf e (by omega)  h) (fun zz35 h => ?_)
    refine o_iload (pc := 351) dX9_step_351 2 rfl ?_
    refine o_iconst (v := 1) (pc := 353) dX9_step_353 (by decide) ?_
    refine o_iadd (pc := 354) dX9_step_354 ?_
    refine o_iconst (v := 0) (pc := 355) dX9_step_355 (by decide) ?_
    have h := oH_bind h
    refine o_callSi (pc := 356) (st := [oi zz35.1, orf 1000 0]) [oi (zv8 + (1 : Int32)), oi (0 : Int32)] hR md_X9_cellOf wd_1106 wd_1107 rfl (Nat.le_of_ble_eq_true rfl) rfl dX9_step_356 (s_X9_cellOf e (by omega)  h) (fun zz36 h => ?_)
    refine o_aload_n (pc := 359) dX9_step_359 rfl 0 rfl ?_
    refine o_getA (pc := 360) fd_RX9_115 ft_1000_50 j_1000 dX9_step_360 ?_
    refine o_iload (pc := 363) dX9_step_363 2 rfl ?_
    refine o_iconst (v := 0) (pc := 365) dX9_step_365 (by decide) ?_
    have h := oH_bind h
    refine o_callSi (pc := 366) (st := [orf 1051 0, oi zz36.1, oi zz35.1, orf 1000 0]) [oi zv8, oi (0 : Int32)] hR md_X9_cellOf wd_1106 wd_1107 rfl (Nat.le_of_ble_eq_true rfl) rfl dX9_step_366 (s_X9_cellOf e (by omega)  h) (fun zz37 h => ?_)
    obtain ⟨hg, h⟩ := oH_G h
    refine o_lald (pc := 369) kd_1051 j_1051 hg dX9_step_369 ?_
    refine o_aload_n (pc := 370) dX9_step_370 rfl 0 rfl ?_
    refine o_getA (pc := 371) fd_RX9_115 ft_1000_50 j_1000 dX9_step_371 ?_
    refine o_iload (pc := 374) dX9_step_374 2 rfl ?_
    refine o_iconst (v := 1) (pc := 376) dX9_step_376 (by decide) ?_
    refine o_iadd (pc := 377) dX9_step_377 ?_
    refine o_iconst (v := 0) (pc := 378) dX9_step_378 (by decide) ?_
    have h := oH_bind h
    refine o_callSi (pc := 379) (st := [orf 1051 0, ol (zz37.2.2 1051 0 (Int32.toNatClampNeg zz37.1)), oi zz36.1, oi zz35.1, orf 1000 0]) [oi (zv8 + (1 : Int32)), oi (0 : Int32)] hR md_X9_cellOf wd_1106 wd_1107 rfl (Nat.le_of_ble_eq_true rfl) rfl dX9_step_379 (s_X9_cellOf e (by omega)  h) (fun zz38 h => ?_)
    obtain ⟨hg, h⟩ := oH_G h
    refine o_lald (pc := 382) kd_1051 j_1051 hg dX9_step_382 ?_
    refine o_lsub (pc := 383) dX9_step_383 ?_
    have h := oH_bind h
    refine o_callVv (pc := 384) (st := []) [oi zz35.1, oi zz36.1, ol ((zz37.2.2 1051 0 (Int32.toNatClampNeg zz37.1)) - (zz38.2.2 1051 0 (Int32.toNatClampNeg zz38.1)))] hR md_X9_shift wd_1120 wd_1122 ws_27 tc_1000 j_1000 rfl (Nat.le_of_ble_eq_true rfl) rfl dX9_step_384 (s_X9_shift e (by omega)  h) (fun zz39 h => ?_)
    obtain ⟨zx40, hx⟩ : ∃ y : Int32, y = zv8 + (1 : Int32) := ⟨_, rfl⟩
    have h := oH_let h zx40 hx
    refine o_iinc (lv1 := [(0, orf 1000 0), (3, oi zv3), (8, oi zx40)]) (pc := 387) dX9_step_387 2 rfl hx.symm (by decide) rfl ?_
    clear hx
    refine o_goto 338 (pc := 390) dX9_step_390 (by decide) ?_
    exact hVH _ (oH_some (P := fun z => Sum.elim VH VE z) h)
theorem s_X9_step_L338 {X : oX} {e : Nat} (he : 2 ≤ e) (hR : oRoom X (e + 1)) {zv3 : Int32}  {VE : oS → Prop} (hVE : ∀ z, VE z → oVv X mX9_step 393 [(0, orf 1000 0), (3, oi zv3)] [] z) (n : Nat) (w : Int32 × oS) (h : oH (oLp (f_X9_step_L338 zv3) n w) VE) : oVv X mX9_step 338 [(0, orf 1000 0), (3, oi zv3), (8, oi w.1)] [] w.2 :=
  oLp_s (VH := fun w => oVv X mX9_step 338 [(0, orf 1000 0), (3, oi zv3), (8, oi w.1)] [] w.2) (fun w h => s_X9_step_L338b he hR  (fun _ h => h) hVE h) n w h
def f_X9_step_K504 (zv3 : Int32) (zv8 : Int32) (zs1 : Int32) (zs2 : Int64) (S : oS) : Option ((Int32 × oS) ⊕ (oS)) :=
  (f_X9_letOut zs1 zs2 S).bind fun zz47 =>
  oLet (zv8 + (1 : Int32)) fun zx48 =>
  some (Sum.inl (zx48, zz47))
set_option maxHeartbeats 4000000 in
theorem s_X9_step_K504 {X : oX} {e : Nat} (he : 2 ≤ e) (hR : oRoom X (e + 1)) {zv3 : Int32} {zv8 : Int32} {zs1 : Int32} {zs2 : Int64} {VH : Int32 × oS → Prop} {VE : oS → Prop} (hVH : ∀ z, VH z → oVv X mX9_step 400 [(0, orf 1000 0), (3, oi zv3), (8, oi z.1)] [] z.2) (hVE : ∀ z, VE z → oVv X mX9_step 513 [] [] z) {S : oS} (h : oH (f_X9_step_K504 zv3 zv8 zs1 zs2 S) (fun z => Sum.elim VH VE z)) : oVv X mX9_step 504 [(0, orf 1000 0), (3, oi zv3), (8, oi zv8)] [ol zs2, oi zs1, orf 1000 0] S := by
  unfold f_X9_step_K504 at h
  have h := oH_bind h
  refine o_callVv (pc := 504) (st := []) [oi zs1, ol zs2] hR md_X9_letOut wd_1116 wd_1118 ws_26 tc_1000 j_1000 rfl (Nat.le_of_ble_eq_true rfl) rfl dX9_step_504 (s_X9_letOut e (by omega)  h) (fun zz47 h => ?_)
  obtain ⟨zx48, hx⟩ : ∃ y : Int32, y = zv8 + (1 : Int32) := ⟨_, rfl⟩
  have h := oH_let h zx48 hx
  refine o_iinc (lv1 := [(0, orf 1000 0), (3, oi zv3), (8, oi zx48)]) (pc := 507) dX9_step_507 2 rfl hx.symm (by decide) rfl ?_
  clear hx
  refine o_goto 400 (pc := 510) dX9_step_510 (by decide) ?_
  exact hVH _ (oH_some (P := fun z => Sum.elim VH VE z) h)
def f_X9_step_K466 (zv3 : Int32) (zv8 : Int32) (zs0 : Int32) (S : oS) : Option ((Int32 × oS) ⊕ (oS)) :=
  (f_X9_cellOf zv8 (0 : Int32) S).bind fun zz46 =>
  if zv3 = 0 then (
  f_X9_step_K504 zv3 zv8 zz46.1 (0 : Int64) zz46.2) else (
  (f_X9_cellOf zv8 (0 : Int32) zz46.2).bind fun zz49 =>
  if oIn zz49.1 12 then (
  f_X9_step_K504 zv3 zv8 zz46.1 ((Int32.toInt64 zs0) * ((zz49.2.2 1051 0 (Int32.toNatClampNeg zz49.1)) - (Int32.toInt64 (zz49.2.1 1000 0 0)))) zz49.2) else none)
set_option maxHeartbeats 4000000 in
theorem s_X9_step_K466 {X : oX} {e : Nat} (he : 2 ≤ e) (hR : oRoom X (e + 1)) {zv3 : Int32} {zv8 : Int32} {zs0 : Int32} {VH : Int32 × oS → Prop} {VE : oS → Prop} (hVH : ∀ z, VH z → oVv X mX9_step 400 [(0, orf 1000 0), (3, oi zv3), (8, oi z.1)] [] z.2) (hVE : ∀ z, VE z → oVv X mX9_step 513 [] [] z) {S : oS} (h : oH (f_X9_step_K466 zv3 zv8 zs0 S) (fun z => Sum.elim VH VE z)) : oVv X mX9_step 466 [(0, orf 1000 0), (3, oi zv3), (8, oi zv8)] [oi zs0] S := by
  unfold f_X9_step_K466 at h
  refine o_istore (lv1 := [(0, orf 1000 0), (3, oi zv3), (8, oi zv8), (9, oi zs0)]) (pc := 466) dX9_step_466 (by decide) rfl ?_
  refine o_aload_n (pc := 468) dX9_step_468 rfl 0 rfl ?_
  refine o_iload (pc := 469) dX9_step_469 2 rfl ?_
  refine o_iconst (v := 0) (pc := 471) dX9_step_471 (by decide) ?_
  have h := oH_bind h
  refine o_callSi (pc := 472) (st := [orf 1000 0]) [oi zv8, oi (0 : Int32)] hR md_X9_cellOf wd_1106 wd_1107 rfl (Nat.le_of_ble_eq_true rfl) rfl dX9_step_472 (s_X9_cellOf e (by omega)  h) (fun zz46 h => ?_)
  refine o_iload_n (pc := 475) dX9_step_475 rfl 1 rfl ?_
  refine o_if_eq 503 (pc := 476) dX9_step_476 (by decide) (fun hc => ?_) (fun hc => ?_)
  · have h := oH_T hc h
    refine o_lconst (v := 0) (pc := 503) dX9_step_503 (by decide) ?_
    refine o_weak [0, 1, 2] rfl ?_
    exact s_X9_step_K504 he hR  hVH hVE h
  · have h := oH_F hc h
    refine o_iload (pc := 479) dX9_step_479 3 rfl ?_
    refine o_i2l (pc := 481) dX9_step_481 ?_
    refine o_aload_n (pc := 482) dX9_step_482 rfl 0 rfl ?_
    refine o_getA (pc := 483) fd_RX9_115 ft_1000_50 j_1000 dX9_step_483 ?_
    refine o_iload (pc := 486) dX9_step_486 2 rfl ?_
    refine o_iconst (v := 0) (pc := 488) dX9_step_488 (by decide) ?_
    have h := oH_bind h
    refine o_callSi (pc := 489) (st := [orf 1051 0, ol (Int32.toInt64 zs0), oi zz46.1, orf 1000 0]) [oi zv8, oi (0 : Int32)] hR md_X9_cellOf wd_1106 wd_1107 rfl (Nat.le_of_ble_eq_true rfl) rfl dX9_step_489 (s_X9_cellOf e (by omega)  h) (fun zz49 h => ?_)
    obtain ⟨hg, h⟩ := oH_G h
    refine o_lald (pc := 492) kd_1051 j_1051 hg dX9_step_492 ?_
    refine o_aload_n (pc := 493) dX9_step_493 rfl 0 rfl ?_
    refine o_getI (pc := 494) fd_RX9_7 ft_1000_0 j_1000 dX9_step_494 ?_
    refine o_i2l (pc := 497) dX9_step_497 ?_
    refine o_lsub (pc := 498) dX9_step_498 ?_
    refine o_lmul (pc := 499) dX9_step_499 ?_
    refine o_goto 504 (pc := 500) dX9_step_500 (by decide) ?_
    refine o_weak [0, 1, 2] rfl ?_
    exact s_X9_step_K504 he hR  hVH hVE h
def f_X9_step_L400 (zv3 : Int32) : Int32 × oS → Option ((Int32 × oS) ⊕ (oS)) := fun w =>
  match w with
  | (zv8, S) =>
    if (4 : Int32) ≤ zv8 then (
    some (Sum.inr S)) else (
    (f_X9_cellOf zv8 (2 : Int32) S).bind fun zz43 =>
    if oIn zv8 4 then (
    (f_X9_cellOf zv8 (2 : Int32) zz43.2).bind fun zz44 =>
    if oIn zz44.1 12 then (
    (f_X9_letOut zz43.1 ((Int32.toInt64 ((1 : Int32) + (zz43.2.1 1004 0 (Int32.toNatClampNeg zv8)))) * ((zz44.2.2 1051 0 (Int32.toNatClampNeg zz44.1)) - (Int32.toInt64 (zz44.2.1 1000 0 0)))) zz44.2).bind fun zz45 =>
    if zv8 = (3 : Int32) then (
    f_X9_step_K466 zv3 zv8 (4 : Int32) zz45) else (
    if zv8 = (2 : Int32) then (
    f_X9_step_K466 zv3 zv8 (2 : Int32) zz45) else (
    f_X9_step_K466 zv3 zv8 zv8 zz45))) else none) else none)
set_option maxHeartbeats 4000000 in
theorem s_X9_step_L400b {X : oX} {e : Nat} (he : 2 ≤ e) (hR : oRoom X (e + 1)) {zv3 : Int32} {VH : Int32 × oS → Prop} {VE : oS → Prop} (hVH : ∀ z, VH z → oVv X mX9_step 400 [(0, orf 1000 0), (3, oi zv3), (8, oi z.1)] [] z.2) (hVE : ∀ z, VE z → oVv X mX9_step 513 [] [] z) {zv8 : Int32} {S : oS} (h : oH (f_X9_step_L400 zv3 (zv8, S)) (fun z => Sum.elim VH VE z)) : oVv X mX9_step 400 [(0, orf 1000 0), (3, oi zv3), (8, oi zv8)] [] S := by
  dsimp only [f_X9_step_L400] at h
  refine o_iload (pc := 400) dX9_step_400 2 rfl ?_
  refine o_iconst (v := 4) (pc := 402) dX9_step_402 (by decide) ?_
  refine o_icmp_ge 513 (pc := 403) dX9_step_403 (by decide) (fun hc => ?_) (fun hc => ?_)
  · have h := oH_T hc h
    refine o_weak [] rfl ?_
    exact hVE _ (oH_some (P := fun z => Sum.elim VH VE z) h)
  · have h := oH_F hc h
    refine o_aload_n (pc := 406) dX9_step_406 rfl 0 rfl ?_
    refine o_iload (pc := 407) dX9_step_407 2 rfl ?_
    refine o_iconst (v := 2) (pc := 409) dX9_step_409 (by decide) ?_
    have h := oH_bind h
    refine o_callSi (pc := 410) (st := [orf 1000 0]) [oi zv8, oi (2 : Int32)] hR md_X9_cellOf wd_1106 wd_1107 rfl (Nat.le_of_ble_eq_true rfl) rfl dX9_step_410 (s_X9_cellOf e (by omega)  h) (fun zz43 h => ?_)
    refine o_iconst (v := 1) (pc := 413) dX9_step_413 (by decide) ?_
    refine o_aload_n (pc := 414) dX9_step_414 rfl 0 rfl ?_
    refine o_getA (pc := 415) fd_RX9_21 ft_1000_3 j_1000 dX9_step_415 ?_
    refine o_iload (pc := 418) dX9_step_418 2 rfl ?_
    obtain ⟨hg, h⟩ := oH_G h
    refine o_iald (pc := 420) kd_1004 j_1004 hg dX9_step_420 ?_
    refine o_iadd (pc := 421) dX9_step_421 ?_
    refine o_i2l (pc := 422) dX9_step_422 ?_
    refine o_aload_n (pc := 423) dX9_step_423 rfl 0 rfl ?_
    refine o_getA (pc := 424) fd_RX9_115 ft_1000_50 j_1000 dX9_step_424 ?_
    refine o_iload (pc := 427) dX9_step_427 2 rfl ?_
    refine o_iconst (v := 2) (pc := 429) dX9_step_429 (by decide) ?_
    have h := oH_bind h
    refine o_callSi (pc := 430) (st := [orf 1051 0, ol (Int32.toInt64 ((1 : Int32) + (zz43.2.1 1004 0 (Int32.toNatClampNeg zv8)))), oi zz43.1, orf 1000 0]) [oi zv8, oi (2 : Int32)] hR md_X9_cellOf wd_1106 wd_1107 rfl (Nat.le_of_ble_eq_true rfl) rfl dX9_step_430 (s_X9_cellOf e (by omega)  h) (fun zz44 h => ?_)
    obtain ⟨hg, h⟩ := oH_G h
    refine o_lald (pc := 433) kd_1051 j_1051 hg dX9_step_433 ?_
    refine o_aload_n (pc := 434) dX9_step_434 rfl 0 rfl ?_
    refine o_getI (pc := 435) fd_RX9_7 ft_1000_0 j_1000 dX9_step_435 ?_
    refine o_i2l (pc := 438) dX9_step_438 ?_
    refine o_lsub (pc := 439) dX9_step_439 ?_
    refine o_lmul (pc := 440) dX9_step_440 ?_
    have h := oH_bind h
    refine o_callVv (pc := 441) (st := []) [oi zz43.1, ol ((Int32.toInt64 ((1 : Int32) + (zz43.2.1 1004 0 (Int32.toNatClampNeg zv8)))) * ((zz44.2.2 1051 0 (Int32.toNatClampNeg zz44.1)) - (Int32.toInt64 (zz44.2.1 1000 0 0))))] hR md_X9_letOut wd_1116 wd_1118 ws_26 tc_1000 j_1000 rfl (Nat.le_of_ble_eq_true rfl) rfl dX9_step_441 (s_X9_letOut e (by omega)  h) (fun zz45 h => ?_)
    refine o_iload (pc := 444) dX9_step_444 2 rfl ?_
    refine o_iconst (v := 3) (pc := 446) dX9_step_446 (by decide) ?_
    refine o_icmp_ne 454 (pc := 447) dX9_step_447 (by decide) (fun hc => ?_) (fun hc => ?_)
    · have h := oH_F hc h
      refine o_iload (pc := 454) dX9_step_454 2 rfl ?_
      refine o_iconst (v := 2) (pc := 456) dX9_step_456 (by decide) ?_
      refine o_icmp_ne 464 (pc := 457) dX9_step_457 (by decide) (fun hc => ?_) (fun hc => ?_)
      · have h := oH_F hc h
        refine o_iload (pc := 464) dX9_step_464 2 rfl ?_
        exact s_X9_step_K466 he hR  hVH hVE h
      · have h := oH_T hc h
        refine o_iconst (v := 2) (pc := 460) dX9_step_460 (by decide) ?_
        refine o_goto 466 (pc := 461) dX9_step_461 (by decide) ?_
        exact s_X9_step_K466 he hR  hVH hVE h
    · have h := oH_T hc h
      refine o_iconst (v := 4) (pc := 450) dX9_step_450 (by decide) ?_
      refine o_goto 466 (pc := 451) dX9_step_451 (by decide) ?_
      exact s_X9_step_K466 he hR  hVH hVE h
theorem s_X9_step_L400 {X : oX} {e : Nat} (he : 2 ≤ e) (hR : oRoom X (e + 1)) {zv3 : Int32}  {VE : oS → Prop} (hVE : ∀ z, VE z → oVv X mX9_step 513 [] [] z) (n : Nat) (w : Int32 × oS) (h : oH (oLp (f_X9_step_L400 zv3) n w) VE) : oVv X mX9_step 400 [(0, orf 1000 0), (3, oi zv3), (8, oi w.1)] [] w.2 :=
  oLp_s (VH := fun w => oVv X mX9_step 400 [(0, orf 1000 0), (3, oi zv3), (8, oi w.1)] [] w.2) (fun w h => s_X9_step_L400b he hR  (fun _ h => h) hVE h) n w h
def f_X9_step_K81 (zv1 : Int64) (zv3 : Int32) (zv4 : Int64) (zv6 : Int64) (zs1 : Int32) (S : oS) : Option (oS) :=
  (f_X9_cellOf zs1 (0 : Int32) S).bind fun zz8 =>
  if oIn zz8.1 12 then (
  if oIn zz8.1 12 then (
  oLet (oStL zz8.2 1050 0 (Int32.toNatClampNeg zz8.1) ((zz8.2.2 1050 0 (Int32.toNatClampNeg zz8.1)) + ((zv1 - zv4) - zv6))) fun zS9 =>
  (f_X9_layWarm zS9).bind fun zz10 =>
  (oLp (f_X9_step_L103 zv3) oFu ((0 : Int32), zz10)).bind fun zz20 =>
  (f_X9_layWarm zz20).bind fun zz21 =>
  (oLp (f_X9_step_L226 zv3) oFu ((0 : Int32), zz21)).bind fun zz33 =>
  (f_X9_layWarm zz33).bind fun zz34 =>
  (oLp (f_X9_step_L338 zv3) oFu ((0 : Int32), zz34)).bind fun zz41 =>
  (f_X9_layWarm zz41).bind fun zz42 =>
  (oLp (f_X9_step_L400 zv3) oFu ((0 : Int32), zz42)).bind fun zz50 =>
  some zz50) else none) else none
set_option maxHeartbeats 4000000 in
theorem s_X9_step_K81 {X : oX} {e : Nat} (he : 2 ≤ e) (hR : oRoom X (e + 1)) {zv1 : Int64} {zv3 : Int32} {zv4 : Int64} {zv6 : Int64} {zs1 : Int32} {P : oS → Prop} (hE : oEV X mX9_step P) {S : oS} (h : oH (f_X9_step_K81 zv1 zv3 zv4 zv6 zs1 S) P) : oVv X mX9_step 81 [(0, orf 1000 0), (1, ol zv1), (3, oi zv3), (4, ol zv4), (6, ol zv6)] [oi zs1, orf 1050 0] S := by
  unfold f_X9_step_K81 at h
  refine o_iconst (v := 0) (pc := 81) dX9_step_81 (by decide) ?_
  have h := oH_bind h
  refine o_callSi (pc := 82) (st := [orf 1050 0]) [oi zs1, oi (0 : Int32)] hR md_X9_cellOf wd_1106 wd_1107 rfl (Nat.le_of_ble_eq_true rfl) rfl dX9_step_82 (s_X9_cellOf e (by omega)  h) (fun zz8 h => ?_)
  refine o_dup2 (pc := 85) dX9_step_85 rfl rfl ?_
  obtain ⟨hg, h⟩ := oH_G h
  refine o_lald (pc := 86) kd_1050 j_1050 hg dX9_step_86 ?_
  refine o_lload_n (pc := 87) dX9_step_87 rfl 1 rfl ?_
  refine o_lload (pc := 88) dX9_step_88 3 rfl ?_
  refine o_lsub (pc := 90) dX9_step_90 ?_
  refine o_lload (pc := 91) dX9_step_91 4 rfl ?_
  refine o_lsub (pc := 93) dX9_step_93 ?_
  refine o_ladd (pc := 94) dX9_step_94 ?_
  obtain ⟨hg, h⟩ := oH_G h
  have hgi := hg
  refine o_last (pc := 95) kd_1050 j_1050 hgi dX9_step_95 ?_
  refine o_nmS (fun zS9 hx => ?_)
  have h := oH_let h zS9 hx
  clear hx
  refine o_aload_n (pc := 96) dX9_step_96 rfl 0 rfl ?_
  have h := oH_bind h
  refine o_callVv (pc := 97) (st := []) [] hR md_X9_layWarm wd_1109 wd_1111 ws_25 tc_1000 j_1000 rfl (Nat.le_of_ble_eq_true rfl) rfl dX9_step_97 (s_X9_layWarm e (by omega)  h) (fun zz10 h => ?_)
  refine o_iconst (v := 0) (pc := 100) dX9_step_100 (by decide) ?_
  refine o_istore (lv1 := [(0, orf 1000 0), (1, ol zv1), (3, oi zv3), (4, ol zv4), (6, ol zv6), (8, oi (0 : Int32))]) (pc := 101) dX9_step_101 (by decide) rfl ?_
  refine o_weak [0, 2, 5] rfl ?_
  have h := oH_bind h
  refine s_X9_step_L103 he hR  (fun zz20 h => ?_) _ ((0 : Int32), zz10) h
  refine o_aload_n (pc := 219) dX9_step_219 rfl 0 rfl ?_
  have h := oH_bind h
  refine o_callVv (pc := 220) (st := []) [] hR md_X9_layWarm wd_1109 wd_1111 ws_25 tc_1000 j_1000 rfl (Nat.le_of_ble_eq_true rfl) rfl dX9_step_220 (s_X9_layWarm e (by omega)  h) (fun zz21 h => ?_)
  refine o_iconst (v := 0) (pc := 223) dX9_step_223 (by decide) ?_
  refine o_istore (lv1 := [(0, orf 1000 0), (3, oi zv3), (8, oi (0 : Int32))]) (pc := 224) dX9_step_224 (by decide) rfl ?_
  have h := oH_bind h
  refine s_X9_step_L226 he hR  (fun zz33 h => ?_) _ ((0 : Int32), zz21) h
  refine o_aload_n (pc := 331) dX9_step_331 rfl 0 rfl ?_
  have h := oH_bind h
  refine o_callVv (pc := 332) (st := []) [] hR md_X9_layWarm wd_1109 wd_1111 ws_25 tc_1000 j_1000 rfl (Nat.le_of_ble_eq_true rfl) rfl dX9_step_332 (s_X9_layWarm e (by omega)  h) (fun zz34 h => ?_)
  refine o_iconst (v := 0) (pc := 335) dX9_step_335 (by decide) ?_
  refine o_istore (lv1 := [(0, orf 1000 0), (3, oi zv3), (8, oi (0 : Int32))]) (pc := 336) dX9_step_336 (by decide) rfl ?_
  have h := oH_bind h
  refine s_X9_step_L338 he hR  (fun zz41 h => ?_) _ ((0 : Int32), zz34) h
  refine o_aload_n (pc := 393) dX9_step_393 rfl 0 rfl ?_
  have h := oH_bind h
  refine o_callVv (pc := 394) (st := []) [] hR md_X9_layWarm wd_1109 wd_1111 ws_25 tc_1000 j_1000 rfl (Nat.le_of_ble_eq_true rfl) rfl dX9_step_394 (s_X9_layWarm e (by omega)  h) (fun zz42 h => ?_)
  refine o_iconst (v := 0) (pc := 397) dX9_step_397 (by decide) ?_
  refine o_istore (lv1 := [(0, orf 1000 0), (3, oi zv3), (8, oi (0 : Int32))]) (pc := 398) dX9_step_398 (by decide) rfl ?_
  have h := oH_bind h
  refine s_X9_step_L400 he hR  (fun zz50 h => ?_) _ ((0 : Int32), zz42) h
  exact hE _ _ _ dX9_step_513 (oH_some h)
def f_X9_step  (za1 : Int64) (za3 : Int32) (S : oS) : Option (oS) :=
  oLet (oStL S 1000 0 52 (0 : Int64)) fun zS1 =>
  oLet ((za1 / (2 : Int64))) fun zx2 =>
  oLet (((za1 - zx2) / (2 : Int64))) fun zx3 =>
  (f_X9_cellOf (zS1.1 1000 0 4) (0 : Int32) zS1).bind fun zz4 =>
  if oIn zz4.1 12 then (
  if oIn zz4.1 12 then (
  oLet (oStL zz4.2 1050 0 (Int32.toNatClampNeg zz4.1) ((zz4.2.2 1050 0 (Int32.toNatClampNeg zz4.1)) + zx2)) fun zS5 =>
  (f_X9_cellOf ((zS5.1 1000 0 4) + (1 : Int32)) (0 : Int32) zS5).bind fun zz6 =>
  if oIn zz6.1 12 then (
  if oIn zz6.1 12 then (
  oLet (oStL zz6.2 1050 0 (Int32.toNatClampNeg zz6.1) ((zz6.2.2 1050 0 (Int32.toNatClampNeg zz6.1)) + zx3)) fun zS7 =>
  if (zS7.1 1000 0 4) = 0 then (
  f_X9_step_K81 za1 za3 zx2 zx3 (0 : Int32) zS7) else (
  f_X9_step_K81 za1 za3 zx2 zx3 ((zS7.1 1000 0 4) - (1 : Int32)) zS7)) else none) else none) else none) else none
set_option maxHeartbeats 4000000 in
theorem s_X9_step {G : oG} {r : oR} (d : Nat) (hd : 3 ≤ d) {za1 : Int64} {za3 : Int32}  {S : oS} {P : oS → Prop} (h : oH (f_X9_step za1 za3 S) P) : oCt G r d yX9_step mX9_step [orf 1000 0, ol za1, oi za3] S (oQv P) := by
  unfold f_X9_step at h
  refine oCt_of (by decide) rfl (Nat.le_of_ble_eq_true rfl) ?_
  intro X hG hr hE0 hR
  subst hG; subst hr
  obtain ⟨e, rfl⟩ : ∃ e, d = e + 1 := ⟨d - 1, by omega⟩
  have he : 2 ≤ e := by omega
  have hE := oEV_of hE0 rfl
  clear hE0 hd
  show oVv X mX9_step 0 [(0, orf 1000 0), (1, ol za1), (3, oi za3)] [] S
  refine o_aload_n (pc := 0) dX9_step_0 rfl 0 rfl ?_
  refine o_lconst (v := 0) (pc := 1) dX9_step_1 (by decide) ?_
  refine o_putL (pc := 2) fd_RX9_166 fp_1000_52 ft_1000_52 j_1000 dX9_step_2 ?_
  refine o_nmS (fun zS1 hx => ?_)
  have h := oH_let h zS1 hx
  clear hx
  refine o_lload_n (pc := 5) dX9_step_5 rfl 1 rfl ?_
  refine o_ldc2 (v := 2) (pc := 6) dX9_step_6 wd_1105 ?_
  refine o_ldiv (pc := 9) dX9_step_9 (by decide) ?_
  refine o_nmL (fun zx2 hx => ?_)
  have h := oH_let h zx2 hx
  clear hx
  refine o_lstore (lv1 := [(0, orf 1000 0), (1, ol za1), (3, oi za3), (4, ol zx2)]) (pc := 10) dX9_step_10 (by decide) rfl ?_
  refine o_lload_n (pc := 12) dX9_step_12 rfl 1 rfl ?_
  refine o_lload (pc := 13) dX9_step_13 3 rfl ?_
  refine o_lsub (pc := 15) dX9_step_15 ?_
  refine o_ldc2 (v := 2) (pc := 16) dX9_step_16 wd_1105 ?_
  refine o_ldiv (pc := 19) dX9_step_19 (by decide) ?_
  refine o_nmL (fun zx3 hx => ?_)
  have h := oH_let h zx3 hx
  clear hx
  refine o_lstore (lv1 := [(0, orf 1000 0), (1, ol za1), (3, oi za3), (4, ol zx2), (6, ol zx3)]) (pc := 20) dX9_step_20 (by decide) rfl ?_
  refine o_aload_n (pc := 22) dX9_step_22 rfl 0 rfl ?_
  refine o_getA (pc := 23) fd_RX9_112 ft_1000_49 j_1000 dX9_step_23 ?_
  refine o_aload_n (pc := 26) dX9_step_26 rfl 0 rfl ?_
  refine o_getI (pc := 27) fd_RX9_156 ft_1000_4 j_1000 dX9_step_27 ?_
  refine o_iconst (v := 0) (pc := 30) dX9_step_30 (by decide) ?_
  have h := oH_bind h
  refine o_callSi (pc := 31) (st := [orf 1050 0]) [oi (zS1.1 1000 0 4), oi (0 : Int32)] hR md_X9_cellOf wd_1106 wd_1107 rfl (Nat.le_of_ble_eq_true rfl) rfl dX9_step_31 (s_X9_cellOf e (by omega)  h) (fun zz4 h => ?_)
  refine o_dup2 (pc := 34) dX9_step_34 rfl rfl ?_
  obtain ⟨hg, h⟩ := oH_G h
  refine o_lald (pc := 35) kd_1050 j_1050 hg dX9_step_35 ?_
  refine o_lload (pc := 36) dX9_step_36 3 rfl ?_
  refine o_ladd (pc := 38) dX9_step_38 ?_
  obtain ⟨hg, h⟩ := oH_G h
  have hgi := hg
  refine o_last (pc := 39) kd_1050 j_1050 hgi dX9_step_39 ?_
  refine o_nmS (fun zS5 hx => ?_)
  have h := oH_let h zS5 hx
  clear hx
  refine o_aload_n (pc := 40) dX9_step_40 rfl 0 rfl ?_
  refine o_getA (pc := 41) fd_RX9_112 ft_1000_49 j_1000 dX9_step_41 ?_
  refine o_aload_n (pc := 44) dX9_step_44 rfl 0 rfl ?_
  refine o_getI (pc := 45) fd_RX9_156 ft_1000_4 j_1000 dX9_step_45 ?_
  refine o_iconst (v := 1) (pc := 48) dX9_step_48 (by decide) ?_
  refine o_iadd (pc := 49) dX9_step_49 ?_
  refine o_iconst (v := 0) (pc := 50) dX9_step_50 (by decide) ?_
  have h := oH_bind h
  refine o_callSi (pc := 51) (st := [orf 1050 0]) [oi ((zS5.1 1000 0 4) + (1 : Int32)), oi (0 : Int32)] hR md_X9_cellOf wd_1106 wd_1107 rfl (Nat.le_of_ble_eq_true rfl) rfl dX9_step_51 (s_X9_cellOf e (by omega)  h) (fun zz6 h => ?_)
  refine o_dup2 (pc := 54) dX9_step_54 rfl rfl ?_
  obtain ⟨hg, h⟩ := oH_G h
  refine o_lald (pc := 55) kd_1050 j_1050 hg dX9_step_55 ?_
  refine o_lload (pc := 56) dX9_step_56 4 rfl ?_
  refine o_ladd (pc := 58) dX9_step_58 ?_
  obtain ⟨hg, h⟩ := oH_G h
  have hgi := hg
  refine o_last (pc := 59) kd_1050 j_1050 hgi dX9_step_59 ?_
  refine o_nmS (fun zS7 hx => ?_)
  have h := oH_let h zS7 hx
  clear hx
  refine o_aload_n (pc := 60) dX9_step_60 rfl 0 rfl ?_
  refine o_getA (pc := 61) fd_RX9_112 ft_1000_49 j_1000 dX9_step_61 ?_
  refine o_aload_n (pc := 64) dX9_step_64 rfl 0 rfl ?_
  refine o_getI (pc := 65) fd_RX9_156 ft_1000_4 j_1000 dX9_step_65 ?_
  refine o_if_ne 75 (pc := 68) dX9_step_68 (by decide) (fun hc => ?_) (fun hc => ?_)
  · have h := oH_F hc h
    refine o_aload_n (pc := 75) dX9_step_75 rfl 0 rfl ?_
    refine o_getI (pc := 76) fd_RX9_156 ft_1000_4 j_1000 dX9_step_76 ?_
    refine o_iconst (v := 1) (pc := 79) dX9_step_79 (by decide) ?_
    refine o_isub (pc := 80) dX9_step_80 ?_
    exact s_X9_step_K81 he hR  hE h
  · have h := oH_T hc h
    refine o_iconst (v := 0) (pc := 71) dX9_step_71 (by decide) ?_
    refine o_goto 81 (pc := 72) dX9_step_72 (by decide) ?_
    exact s_X9_step_K81 he hR  hE h
def f_X9_layAhead_L50 (zv1 : Int32) : Int32 × oS → Option ((Int32 × oS) ⊕ (oS)) := fun w =>
  match w with
  | (zv2, S) =>
    if (4 : Int32) ≤ zv2 then (
    some (Sum.inr S)) else (
    (f_X9_faceOf zv2 S).bind fun zz4 =>
    if oIn (((4 : Int32) * zv1) + zv2) 164 then (
    oLet (oStL zz4.2 1057 0 (Int32.toNatClampNeg (((4 : Int32) * zv1) + zv2)) zz4.1) fun zS5 =>
    oLet (zv2 + (1 : Int32)) fun zx6 =>
    some (Sum.inl (zx6, zS5))) else none)
set_option maxHeartbeats 4000000 in
theorem s_X9_layAhead_L50b {X : oX} {e : Nat} (he : 3 ≤ e) (hR : oRoom X (e + 1)) {zv1 : Int32} {VH : Int32 × oS → Prop} {VE : oS → Prop} (hVH : ∀ z, VH z → oVv X mX9_layAhead 50 [(0, orf 1000 0), (1, oi zv1), (2, oi z.1)] [] z.2) (hVE : ∀ z, VE z → oVv X mX9_layAhead 76 [(0, orf 1000 0), (1, oi zv1)] [] z) {zv2 : Int32} {S : oS} (h : oH (f_X9_layAhead_L50 zv1 (zv2, S)) (fun z => Sum.elim VH VE z)) : oVv X mX9_layAhead 50 [(0, orf 1000 0), (1, oi zv1), (2, oi zv2)] [] S := by
  dsimp only [f_X9_layAhead_L50] at h
  refine o_iload_n (pc := 50) dX9_layAhead_50 rfl 2 rfl ?_
  refine o_iconst (v := 4) (pc := 51) dX9_layAhead_51 (by decide) ?_
  refine o_icmp_ge 76 (pc := 52) dX9_layAhead_52 (by decide) (fun hc => ?_) (fun hc => ?_)
  · have h := oH_T hc h
    refine o_weak [0, 1] rfl ?_
    exact hVE _ (oH_some (P := fun z => Sum.elim VH VE z) h)
  · have h := oH_F hc h
    refine o_aload_n (pc := 55) dX9_layAhead_55 rfl 0 rfl ?_
    refine o_getA (pc := 56) fd_RX9_121 ft_1000_56 j_1000 dX9_layAhead_56 ?_
    refine o_iconst (v := 4) (pc := 59) dX9_layAhead_59 (by decide) ?_
    refine o_iload_n (pc := 60) dX9_layAhead_60 rfl 1 rfl ?_
    refine o_imul (pc := 61) dX9_layAhead_61 ?_
    refine o_iload_n (pc := 62) dX9_layAhead_62 rfl 2 rfl ?_
    refine o_iadd (pc := 63) dX9_layAhead_63 ?_
    refine o_aload_n (pc := 64) dX9_layAhead_64 rfl 0 rfl ?_
    refine o_iload_n (pc := 65) dX9_layAhead_65 rfl 2 rfl ?_
    have h := oH_bind h
    refine o_callVl (pc := 66) (st := [oi (((4 : Int32) * zv1) + zv2), orf 1057 0]) [oi zv2] hR md_X9_faceOf wd_1133 wd_1135 ws_30 tc_1000 j_1000 rfl (Nat.le_of_ble_eq_true rfl) rfl dX9_layAhead_66 (s_X9_faceOf e (by omega)  h) (fun zz4 h => ?_)
    obtain ⟨hg, h⟩ := oH_G h
    have hgi := hg
    refine o_last (pc := 69) kd_1057 j_1057 hgi dX9_layAhead_69 ?_
    refine o_nmS (fun zS5 hx => ?_)
    have h := oH_let h zS5 hx
    clear hx
    obtain ⟨zx6, hx⟩ : ∃ y : Int32, y = zv2 + (1 : Int32) := ⟨_, rfl⟩
    have h := oH_let h zx6 hx
    refine o_iinc (lv1 := [(0, orf 1000 0), (1, oi zv1), (2, oi zx6)]) (pc := 70) dX9_layAhead_70 2 rfl hx.symm (by decide) rfl ?_
    clear hx
    refine o_goto 50 (pc := 73) dX9_layAhead_73 (by decide) ?_
    exact hVH _ (oH_some (P := fun z => Sum.elim VH VE z) h)
theorem s_X9_layAhead_L50 {X : oX} {e : Nat} (he : 3 ≤ e) (hR : oRoom X (e + 1)) {zv1 : Int32}  {VE : oS → Prop} (hVE : ∀ z, VE z → oVv X mX9_layAhead 76 [(0, orf 1000 0), (1, oi zv1)] [] z) (n : Nat) (w : Int32 × oS) (h : oH (oLp (f_X9_layAhead_L50 zv1) n w) VE) : oVv X mX9_layAhead 50 [(0, orf 1000 0), (1, oi zv1), (2, oi w.1)] [] w.2 :=
  oLp_s (VH := fun w => oVv X mX9_layAhead 50 [(0, orf 1000 0), (1, oi zv1), (2, oi w.1)] [] w.2) (fun w h => s_X9_layAhead_L50b he hR  (fun _ h => h) hVE h) n w h
def f_X9_layAhead_K40 (zv1 : Int32) (zs1 : Int64) (S : oS) : Option ((Int32 × oS) ⊕ (oS)) :=
  (f_X9_isOpening zv1 S).bind fun zz2 =>
  (f_X9_step zs1 zz2.1 zz2.2).bind fun zz3 =>
  (oLp (f_X9_layAhead_L50 zv1) oFu ((0 : Int32), zz3)).bind fun zz7 =>
  oLet (zv1 + (1 : Int32)) fun zx8 =>
  some (Sum.inl (zx8, zz7))
set_option maxHeartbeats 4000000 in
theorem s_X9_layAhead_K40 {X : oX} {e : Nat} (he : 3 ≤ e) (hR : oRoom X (e + 1)) {zv1 : Int32} {zs1 : Int64} {VH : Int32 × oS → Prop} {VE : oS → Prop} (hVH : ∀ z, VH z → oVv X mX9_layAhead 6 [(0, orf 1000 0), (1, oi z.1)] [] z.2) (hVE : ∀ z, VE z → oVv X mX9_layAhead 82 [] [] z) {S : oS} (h : oH (f_X9_layAhead_K40 zv1 zs1 S) (fun z => Sum.elim VH VE z)) : oVv X mX9_layAhead 40 [(0, orf 1000 0), (1, oi zv1)] [ol zs1, orf 1000 0] S := by
  unfold f_X9_layAhead_K40 at h
  refine o_aload_n (pc := 40) dX9_layAhead_40 rfl 0 rfl ?_
  refine o_iload_n (pc := 41) dX9_layAhead_41 rfl 1 rfl ?_
  have h := oH_bind h
  refine o_callVi (pc := 42) (st := [ol zs1, orf 1000 0]) [oi zv1] hR md_X9_isOpening wd_1253 wd_1255 ws_45 tc_1000 j_1000 rfl (Nat.le_of_ble_eq_true rfl) rfl dX9_layAhead_42 (s_X9_isOpening e (by omega)  h) (fun zz2 h => ?_)
  have h := oH_bind h
  refine o_callVv (pc := 45) (st := []) [ol zs1, oi zz2.1] hR md_X9_step wd_1101 wd_1103 ws_24 tc_1000 j_1000 rfl (Nat.le_of_ble_eq_true rfl) rfl dX9_layAhead_45 (s_X9_step e (by omega)  h) (fun zz3 h => ?_)
  refine o_iconst (v := 0) (pc := 48) dX9_layAhead_48 (by decide) ?_
  refine o_istore_n (lv1 := [(0, orf 1000 0), (1, oi zv1), (2, oi (0 : Int32))]) (pc := 49) dX9_layAhead_49 rfl (by decide) rfl ?_
  have h := oH_bind h
  refine s_X9_layAhead_L50 he hR  (fun zz7 h => ?_) _ ((0 : Int32), zz3) h
  obtain ⟨zx8, hx⟩ : ∃ y : Int32, y = zv1 + (1 : Int32) := ⟨_, rfl⟩
  have h := oH_let h zx8 hx
  refine o_iinc (lv1 := [(0, orf 1000 0), (1, oi zx8)]) (pc := 76) dX9_layAhead_76 1 rfl hx.symm (by decide) rfl ?_
  clear hx
  refine o_goto 6 (pc := 79) dX9_layAhead_79 (by decide) ?_
  exact hVH _ (oH_some (P := fun z => Sum.elim VH VE z) h)
def f_X9_layAhead_L6  : Int32 × oS → Option ((Int32 × oS) ⊕ (oS)) := fun w =>
  match w with
  | (zv1, S) =>
    if (40 : Int32) < zv1 then (
    some (Sum.inr S)) else (
    if (S.1 1000 0 5) ≤ zv1 then (
    f_X9_layAhead_K40 zv1 (0 : Int64) S) else (
    if oIn zv1 30 then (
    if oIn zv1 30 then (
    (f_X9_burnt (S.1 1007 0 (Int32.toNatClampNeg zv1)) (S.1 1008 0 (Int32.toNatClampNeg zv1)) S).bind fun zz9 =>
    f_X9_layAhead_K40 zv1 zz9.1 zz9.2) else none) else none))
set_option maxHeartbeats 4000000 in
theorem s_X9_layAhead_L6b {X : oX} {e : Nat} (he : 3 ≤ e) (hR : oRoom X (e + 1))  {VH : Int32 × oS → Prop} {VE : oS → Prop} (hVH : ∀ z, VH z → oVv X mX9_layAhead 6 [(0, orf 1000 0), (1, oi z.1)] [] z.2) (hVE : ∀ z, VE z → oVv X mX9_layAhead 82 [] [] z) {zv1 : Int32} {S : oS} (h : oH (f_X9_layAhead_L6 (zv1, S)) (fun z => Sum.elim VH VE z)) : oVv X mX9_layAhead 6 [(0, orf 1000 0), (1, oi zv1)] [] S := by
  dsimp only [f_X9_layAhead_L6] at h
  refine o_iload_n (pc := 6) dX9_layAhead_6 rfl 1 rfl ?_
  refine o_bipush (v := 40) (pc := 7) dX9_layAhead_7 (by decide) ?_
  refine o_icmp_gt 82 (pc := 9) dX9_layAhead_9 (by decide) (fun hc => ?_) (fun hc => ?_)
  · have h := oH_T hc h
    refine o_weak [] rfl ?_
    exact hVE _ (oH_some (P := fun z => Sum.elim VH VE z) h)
  · have h := oH_F hc h
    refine o_aload_n (pc := 12) dX9_layAhead_12 rfl 0 rfl ?_
    refine o_iload_n (pc := 13) dX9_layAhead_13 rfl 1 rfl ?_
    refine o_aload_n (pc := 14) dX9_layAhead_14 rfl 0 rfl ?_
    refine o_getI (pc := 15) fd_RX9_163 ft_1000_5 j_1000 dX9_layAhead_15 ?_
    refine o_icmp_ge 39 (pc := 18) dX9_layAhead_18 (by decide) (fun hc => ?_) (fun hc => ?_)
    · have h := oH_T hc h
      refine o_lconst (v := 0) (pc := 39) dX9_layAhead_39 (by decide) ?_
      exact s_X9_layAhead_K40 he hR  hVH hVE h
    · have h := oH_F hc h
      refine o_aload_n (pc := 21) dX9_layAhead_21 rfl 0 rfl ?_
      refine o_getA (pc := 22) fd_RX9_24 ft_1000_6 j_1000 dX9_layAhead_22 ?_
      refine o_iload_n (pc := 25) dX9_layAhead_25 rfl 1 rfl ?_
      obtain ⟨hg, h⟩ := oH_G h
      refine o_iald (pc := 26) kd_1007 j_1007 hg dX9_layAhead_26 ?_
      refine o_aload_n (pc := 27) dX9_layAhead_27 rfl 0 rfl ?_
      refine o_getA (pc := 28) fd_RX9_27 ft_1000_7 j_1000 dX9_layAhead_28 ?_
      refine o_iload_n (pc := 31) dX9_layAhead_31 rfl 1 rfl ?_
      obtain ⟨hg, h⟩ := oH_G h
      refine o_iald (pc := 32) kd_1008 j_1008 hg dX9_layAhead_32 ?_
      have h := oH_bind h
      refine o_callSl (pc := 33) (st := [orf 1000 0]) [oi (S.1 1007 0 (Int32.toNatClampNeg zv1)), oi (S.1 1008 0 (Int32.toNatClampNeg zv1))] hR md_X9_burnt wd_1094 wd_1095 rfl (Nat.le_of_ble_eq_true rfl) rfl dX9_layAhead_33 (s_X9_burnt e (by omega)  h) (fun zz9 h => ?_)
      refine o_goto 40 (pc := 36) dX9_layAhead_36 (by decide) ?_
      exact s_X9_layAhead_K40 he hR  hVH hVE h
theorem s_X9_layAhead_L6 {X : oX} {e : Nat} (he : 3 ≤ e) (hR : oRoom X (e + 1))   {VE : oS → Prop} (hVE : ∀ z, VE z → oVv X mX9_layAhead 82 [] [] z) (n : Nat) (w : Int32 × oS) (h : oH (oLp (f_X9_layAhead_L6) n w) VE) : oVv X mX9_layAhead 6 [(0, orf 1000 0), (1, oi w.1)] [] w.2 :=
  oLp_s (VH := fun w => oVv X mX9_layAhead 6 [(0, orf 1000 0), (1, oi w.1)] [] w.2) (fun w h => s_X9_layAhead_L6b he hR  (fun _ h => h) hVE h) n w h
def f_X9_layAhead   (S : oS) : Option (oS) :=
  (f_X9_takeNow S).bind fun zz1 =>
  (oLp (f_X9_layAhead_L6) oFu ((0 : Int32), zz1)).bind fun zz10 =>
  some zz10
set_option maxHeartbeats 4000000 in
theorem s_X9_layAhead {G : oG} {r : oR} (d : Nat) (hd : 4 ≤ d)   {S : oS} {P : oS → Prop} (h : oH (f_X9_layAhead  S) P) : oCt G r d yX9_layAhead mX9_layAhead [orf 1000 0] S (oQv P) := by
  unfold f_X9_layAhead at h
  refine oCt_of (by decide) rfl (Nat.le_of_ble_eq_true rfl) ?_
  intro X hG hr hE0 hR
  subst hG; subst hr
  obtain ⟨e, rfl⟩ : ∃ e, d = e + 1 := ⟨d - 1, by omega⟩
  have he : 3 ≤ e := by omega
  have hE := oEV_of hE0 rfl
  clear hE0 hd
  show oVv X mX9_layAhead 0 [(0, orf 1000 0)] [] S
  refine o_aload_n (pc := 0) dX9_layAhead_0 rfl 0 rfl ?_
  have h := oH_bind h
  refine o_callVv (pc := 1) (st := []) [] hR md_X9_takeNow wd_1090 wd_1092 ws_22 tc_1000 j_1000 rfl (Nat.le_of_ble_eq_true rfl) rfl dX9_layAhead_1 (s_X9_takeNow e (by omega)  h) (fun zz1 h => ?_)
  refine o_iconst (v := 0) (pc := 4) dX9_layAhead_4 (by decide) ?_
  refine o_istore_n (lv1 := [(0, orf 1000 0), (1, oi (0 : Int32))]) (pc := 5) dX9_layAhead_5 rfl (by decide) rfl ?_
  have h := oH_bind h
  refine s_X9_layAhead_L6 he hR  (fun zz10 h => ?_) _ ((0 : Int32), zz1) h
  exact hE _ _ _ dX9_layAhead_82 (oH_some h)
def f_X9_layWays_L71 (zv1 : Int32) (zv2 : Int32) (zv3 : Int32) : Int32 × oS → Option ((Int32 × oS) ⊕ (oS)) := fun w =>
  match w with
  | (zv4, S) =>
    if (S.1 1000 0 32) ≤ zv4 then (
    some (Sum.inr S)) else (
    if oIn zv4 4 then (
    (f_X9_bakesWell (S.1 1034 0 (Int32.toNatClampNeg zv4)) (S.1 1000 0 57) S).bind fun zz7 =>
    if oIn (((13 : Int32) * zv4) + (S.1 1000 0 57)) 52 then (
    if oBl zz7.1 then (
    oLet (oStI zz7.2 1062 0 (Int32.toNatClampNeg (((13 : Int32) * zv4) + (S.1 1000 0 57))) zz7.1) fun zS8 =>
    oLet (zv4 + (1 : Int32)) fun zx9 =>
    some (Sum.inl (zx9, zS8))) else none) else none) else none)
set_option maxHeartbeats 4000000 in
theorem s_X9_layWays_L71b {X : oX} {e : Nat} (he : 4 ≤ e) (hR : oRoom X (e + 1)) {zv1 : Int32} {zv2 : Int32} {zv3 : Int32} {VH : Int32 × oS → Prop} {VE : oS → Prop} (hVH : ∀ z, VH z → oVv X mX9_layWays 71 [(0, orf 1000 0), (1, oi zv1), (2, oi zv2), (3, oi zv3), (4, oi z.1)] [] z.2) (hVE : ∀ z, VE z → oVv X mX9_layWays 116 [(0, orf 1000 0), (1, oi zv1), (2, oi zv2), (3, oi zv3)] [] z) {zv4 : Int32} {S : oS} (h : oH (f_X9_layWays_L71 zv1 zv2 zv3 (zv4, S)) (fun z => Sum.elim VH VE z)) : oVv X mX9_layWays 71 [(0, orf 1000 0), (1, oi zv1), (2, oi zv2), (3, oi zv3), (4, oi zv4)] [] S := by
  dsimp only [f_X9_layWays_L71] at h
  refine o_iload (pc := 71) dX9_layWays_71 4 rfl ?_
  refine o_aload_n (pc := 73) dX9_layWays_73 rfl 0 rfl ?_
  refine o_getI (pc := 74) fd_RX9_300 ft_1000_32 j_1000 dX9_layWays_74 ?_
  refine o_icmp_ge 116 (pc := 77) dX9_layWays_77 (by decide) (fun hc => ?_) (fun hc => ?_)
  · have h := oH_T hc h
    refine o_weak [0, 1, 2, 3] rfl ?_
    exact hVE _ (oH_some (P := fun z => Sum.elim VH VE z) h)
  · have h := oH_F hc h
    refine o_aload_n (pc := 80) dX9_layWays_80 rfl 0 rfl ?_
    refine o_getA (pc := 81) fd_RX9_133 ft_1000_61 j_1000 dX9_layWays_81 ?_
    refine o_bipush (v := 13) (pc := 84) dX9_layWays_84 (by decide) ?_
    refine o_iload (pc := 86) dX9_layWays_86 4 rfl ?_
    refine o_imul (pc := 88) dX9_layWays_88 ?_
    refine o_aload_n (pc := 89) dX9_layWays_89 rfl 0 rfl ?_
    refine o_getI (pc := 90) fd_RX9_312 ft_1000_57 j_1000 dX9_layWays_90 ?_
    refine o_iadd (pc := 93) dX9_layWays_93 ?_
    refine o_aload_n (pc := 94) dX9_layWays_94 rfl 0 rfl ?_
    refine o_aload_n (pc := 95) dX9_layWays_95 rfl 0 rfl ?_
    refine o_getA (pc := 96) fd_RX9_79 ft_1000_33 j_1000 dX9_layWays_96 ?_
    refine o_iload (pc := 99) dX9_layWays_99 4 rfl ?_
    obtain ⟨hg, h⟩ := oH_G h
    refine o_iald (pc := 101) kd_1034 j_1034 hg dX9_layWays_101 ?_
    refine o_aload_n (pc := 102) dX9_layWays_102 rfl 0 rfl ?_
    refine o_getI (pc := 103) fd_RX9_312 ft_1000_57 j_1000 dX9_layWays_103 ?_
    have h := oH_bind h
    refine o_callVi (pc := 106) (st := [oi (((13 : Int32) * zv4) + (S.1 1000 0 57)), orf 1062 0]) [oi (S.1 1034 0 (Int32.toNatClampNeg zv4)), oi (S.1 1000 0 57)] hR md_X9_bakesWell wd_1257 wd_1259 ws_46 tc_1000 j_1000 rfl (Nat.le_of_ble_eq_true rfl) rfl dX9_layWays_106 (s_X9_bakesWell e (by omega)  h) (fun zz7 h => ?_)
    obtain ⟨hg, h⟩ := oH_G h
    have hgi := hg
    obtain ⟨hg, h⟩ := oH_G h
    refine o_zast (pc := 109) kd_1062 j_1062 hgi (oBl_p hg) dX9_layWays_109 ?_
    refine o_nmS (fun zS8 hx => ?_)
    have h := oH_let h zS8 hx
    clear hx
    obtain ⟨zx9, hx⟩ : ∃ y : Int32, y = zv4 + (1 : Int32) := ⟨_, rfl⟩
    have h := oH_let h zx9 hx
    refine o_iinc (lv1 := [(0, orf 1000 0), (1, oi zv1), (2, oi zv2), (3, oi zv3), (4, oi zx9)]) (pc := 110) dX9_layWays_110 4 rfl hx.symm (by decide) rfl ?_
    clear hx
    refine o_goto 71 (pc := 113) dX9_layWays_113 (by decide) ?_
    exact hVH _ (oH_some (P := fun z => Sum.elim VH VE z) h)
theorem s_X9_layWays_L71 {X : oX} {e : Nat} (he : 4 ≤ e) (hR : oRoom X (e + 1)) {zv1 : Int32} {zv2 : Int32} {zv3 : Int32}  {VE : oS → Prop} (hVE : ∀ z, VE z → oVv X mX9_layWays 116 [(0, orf 1000 0), (1, oi zv1), (2, oi zv2), (3, oi zv3)] [] z) (n : Nat) (w : Int32 × oS) (h : oH (oLp (f_X9_layWays_L71 zv1 zv2 zv3) n w) VE) : oVv X mX9_layWays 71 [(0, orf 1000 0), (1, oi zv1), (2, oi zv2), (3, oi zv3), (4, oi w.1)] [] w.2 :=
  oLp_s (VH := fun w => oVv X mX9_layWays 71 [(0, orf 1000 0), (1, oi zv1), (2, oi zv2), (3, oi zv3), (4, oi w.1)] [] w.2) (fun w h => s_X9_layWays_L71b he hR  (fun _ h => h) hVE h) n w h
def f_X9_layWays_L33 (zv1 : Int32) (zv2 : Int32) : Int32 × oS → Option ((Int32 × oS) ⊕ (oS)) := fun w =>
  match w with
  | (zv3, S) =>
    if (4 : Int32) ≤ zv3 then (
    some (Sum.inr S)) else (
    if oIn (S.1 1000 0 57) 13 then (
    oLet (oStI S 1059 0 (Int32.toNatClampNeg (S.1 1000 0 57)) zv1) fun zS4 =>
    if oIn (zS4.1 1000 0 57) 13 then (
    oLet (oStI zS4 1060 0 (Int32.toNatClampNeg (zS4.1 1000 0 57)) zv2) fun zS5 =>
    if oIn (zS5.1 1000 0 57) 13 then (
    oLet (oStI zS5 1061 0 (Int32.toNatClampNeg (zS5.1 1000 0 57)) zv3) fun zS6 =>
    (oLp (f_X9_layWays_L71 zv1 zv2 zv3) oFu ((0 : Int32), zS6)).bind fun zz10 =>
    oLet (oStI zz10 1000 0 57 ((zz10.1 1000 0 57) + (1 : Int32))) fun zS11 =>
    oLet (zv3 + (1 : Int32)) fun zx12 =>
    some (Sum.inl (zx12, zS11))) else none) else none) else none)
set_option maxHeartbeats 4000000 in
theorem s_X9_layWays_L33b {X : oX} {e : Nat} (he : 4 ≤ e) (hR : oRoom X (e + 1)) {zv1 : Int32} {zv2 : Int32} {VH : Int32 × oS → Prop} {VE : oS → Prop} (hVH : ∀ z, VH z → oVv X mX9_layWays 33 [(0, orf 1000 0), (1, oi zv1), (2, oi zv2), (3, oi z.1)] [] z.2) (hVE : ∀ z, VE z → oVv X mX9_layWays 132 [(0, orf 1000 0), (1, oi zv1), (2, oi zv2)] [] z) {zv3 : Int32} {S : oS} (h : oH (f_X9_layWays_L33 zv1 zv2 (zv3, S)) (fun z => Sum.elim VH VE z)) : oVv X mX9_layWays 33 [(0, orf 1000 0), (1, oi zv1), (2, oi zv2), (3, oi zv3)] [] S := by
  dsimp only [f_X9_layWays_L33] at h
  refine o_iload_n (pc := 33) dX9_layWays_33 rfl 3 rfl ?_
  refine o_iconst (v := 4) (pc := 34) dX9_layWays_34 (by decide) ?_
  refine o_icmp_ge 132 (pc := 35) dX9_layWays_35 (by decide) (fun hc => ?_) (fun hc => ?_)
  · have h := oH_T hc h
    refine o_weak [0, 1, 2] rfl ?_
    exact hVE _ (oH_some (P := fun z => Sum.elim VH VE z) h)
  · have h := oH_F hc h
    refine o_aload_n (pc := 38) dX9_layWays_38 rfl 0 rfl ?_
    refine o_getA (pc := 39) fd_RX9_124 ft_1000_58 j_1000 dX9_layWays_39 ?_
    refine o_aload_n (pc := 42) dX9_layWays_42 rfl 0 rfl ?_
    refine o_getI (pc := 43) fd_RX9_312 ft_1000_57 j_1000 dX9_layWays_43 ?_
    refine o_iload_n (pc := 46) dX9_layWays_46 rfl 1 rfl ?_
    obtain ⟨hg, h⟩ := oH_G h
    have hgi := hg
    refine o_iast (pc := 47) kd_1059 j_1059 hgi dX9_layWays_47 ?_
    refine o_nmS (fun zS4 hx => ?_)
    have h := oH_let h zS4 hx
    clear hx
    refine o_aload_n (pc := 48) dX9_layWays_48 rfl 0 rfl ?_
    refine o_getA (pc := 49) fd_RX9_127 ft_1000_59 j_1000 dX9_layWays_49 ?_
    refine o_aload_n (pc := 52) dX9_layWays_52 rfl 0 rfl ?_
    refine o_getI (pc := 53) fd_RX9_312 ft_1000_57 j_1000 dX9_layWays_53 ?_
    refine o_iload_n (pc := 56) dX9_layWays_56 rfl 2 rfl ?_
    obtain ⟨hg, h⟩ := oH_G h
    have hgi := hg
    refine o_iast (pc := 57) kd_1060 j_1060 hgi dX9_layWays_57 ?_
    refine o_nmS (fun zS5 hx => ?_)
    have h := oH_let h zS5 hx
    clear hx
    refine o_aload_n (pc := 58) dX9_layWays_58 rfl 0 rfl ?_
    refine o_getA (pc := 59) fd_RX9_130 ft_1000_60 j_1000 dX9_layWays_59 ?_
    refine o_aload_n (pc := 62) dX9_layWays_62 rfl 0 rfl ?_
    refine o_getI (pc := 63) fd_RX9_312 ft_1000_57 j_1000 dX9_layWays_63 ?_
    refine o_iload_n (pc := 66) dX9_layWays_66 rfl 3 rfl ?_
    obtain ⟨hg, h⟩ := oH_G h
    have hgi := hg
    refine o_iast (pc := 67) kd_1061 j_1061 hgi dX9_layWays_67 ?_
    refine o_nmS (fun zS6 hx => ?_)
    have h := oH_let h zS6 hx
    clear hx
    refine o_iconst (v := 0) (pc := 68) dX9_layWays_68 (by decide) ?_
    refine o_istore (lv1 := [(0, orf 1000 0), (1, oi zv1), (2, oi zv2), (3, oi zv3), (4, oi (0 : Int32))]) (pc := 69) dX9_layWays_69 (by decide) rfl ?_
    have h := oH_bind h
    refine s_X9_layWays_L71 he hR  (fun zz10 h => ?_) _ ((0 : Int32), zS6) h
    refine o_aload_n (pc := 116) dX9_layWays_116 rfl 0 rfl ?_
    refine o_dup (pc := 117) dX9_layWays_117 rfl ?_
    refine o_getI (pc := 118) fd_RX9_312 ft_1000_57 j_1000 dX9_layWays_118 ?_
    refine o_iconst (v := 1) (pc := 121) dX9_layWays_121 (by decide) ?_
    refine o_iadd (pc := 122) dX9_layWays_122 ?_
    refine o_putI (pc := 123) fd_RX9_312 fp_1000_57 ft_1000_57 rfl rfl j_1000 dX9_layWays_123 ?_
    refine o_nmS (fun zS11 hx => ?_)
    have h := oH_let h zS11 hx
    clear hx
    obtain ⟨zx12, hx⟩ : ∃ y : Int32, y = zv3 + (1 : Int32) := ⟨_, rfl⟩
    have h := oH_let h zx12 hx
    refine o_iinc (lv1 := [(0, orf 1000 0), (1, oi zv1), (2, oi zv2), (3, oi zx12)]) (pc := 126) dX9_layWays_126 3 rfl hx.symm (by decide) rfl ?_
    clear hx
    refine o_goto 33 (pc := 129) dX9_layWays_129 (by decide) ?_
    exact hVH _ (oH_some (P := fun z => Sum.elim VH VE z) h)
theorem s_X9_layWays_L33 {X : oX} {e : Nat} (he : 4 ≤ e) (hR : oRoom X (e + 1)) {zv1 : Int32} {zv2 : Int32}  {VE : oS → Prop} (hVE : ∀ z, VE z → oVv X mX9_layWays 132 [(0, orf 1000 0), (1, oi zv1), (2, oi zv2)] [] z) (n : Nat) (w : Int32 × oS) (h : oH (oLp (f_X9_layWays_L33 zv1 zv2) n w) VE) : oVv X mX9_layWays 33 [(0, orf 1000 0), (1, oi zv1), (2, oi zv2), (3, oi w.1)] [] w.2 :=
  oLp_s (VH := fun w => oVv X mX9_layWays 33 [(0, orf 1000 0), (1, oi zv1), (2, oi zv2), (3, oi w.1)] [] w.2) (fun w h => s_X9_layWays_L33b he hR  (fun _ h => h) hVE h) n w h
def f_X9_layWays_L23 (zv1 : Int32) : Int32 × oS → Option ((Int32 × oS) ⊕ (oS)) := fun w =>
  match w with
  | (zv2, S) =>
    if (S.1 1000 0 34) ≤ zv2 then (
    some (Sum.inr S)) else (
    (oLp (f_X9_layWays_L33 zv1 zv2) oFu ((0 : Int32), S)).bind fun zz13 =>
    oLet (zv2 + (1 : Int32)) fun zx14 =>
    some (Sum.inl (zx14, zz13)))
set_option maxHeartbeats 4000000 in
theorem s_X9_layWays_L23b {X : oX} {e : Nat} (he : 4 ≤ e) (hR : oRoom X (e + 1)) {zv1 : Int32} {VH : Int32 × oS → Prop} {VE : oS → Prop} (hVH : ∀ z, VH z → oVv X mX9_layWays 23 [(0, orf 1000 0), (1, oi zv1), (2, oi z.1)] [] z.2) (hVE : ∀ z, VE z → oVv X mX9_layWays 138 [(0, orf 1000 0), (1, oi zv1)] [] z) {zv2 : Int32} {S : oS} (h : oH (f_X9_layWays_L23 zv1 (zv2, S)) (fun z => Sum.elim VH VE z)) : oVv X mX9_layWays 23 [(0, orf 1000 0), (1, oi zv1), (2, oi zv2)] [] S := by
  dsimp only [f_X9_layWays_L23] at h
  refine o_iload_n (pc := 23) dX9_layWays_23 rfl 2 rfl ?_
  refine o_aload_n (pc := 24) dX9_layWays_24 rfl 0 rfl ?_
  refine o_getI (pc := 25) fd_RX9_303 ft_1000_34 j_1000 dX9_layWays_25 ?_
  refine o_icmp_ge 138 (pc := 28) dX9_layWays_28 (by decide) (fun hc => ?_) (fun hc => ?_)
  · have h := oH_T hc h
    refine o_weak [0, 1] rfl ?_
    exact hVE _ (oH_some (P := fun z => Sum.elim VH VE z) h)
  · have h := oH_F hc h
    refine o_iconst (v := 0) (pc := 31) dX9_layWays_31 (by decide) ?_
    refine o_istore_n (lv1 := [(0, orf 1000 0), (1, oi zv1), (2, oi zv2), (3, oi (0 : Int32))]) (pc := 32) dX9_layWays_32 rfl (by decide) rfl ?_
    have h := oH_bind h
    refine s_X9_layWays_L33 he hR  (fun zz13 h => ?_) _ ((0 : Int32), S) h
    obtain ⟨zx14, hx⟩ : ∃ y : Int32, y = zv2 + (1 : Int32) := ⟨_, rfl⟩
    have h := oH_let h zx14 hx
    refine o_iinc (lv1 := [(0, orf 1000 0), (1, oi zv1), (2, oi zx14)]) (pc := 132) dX9_layWays_132 2 rfl hx.symm (by decide) rfl ?_
    clear hx
    refine o_goto 23 (pc := 135) dX9_layWays_135 (by decide) ?_
    exact hVH _ (oH_some (P := fun z => Sum.elim VH VE z) h)
theorem s_X9_layWays_L23 {X : oX} {e : Nat} (he : 4 ≤ e) (hR : oRoom X (e + 1)) {zv1 : Int32}  {VE : oS → Prop} (hVE : ∀ z, VE z → oVv X mX9_layWays 138 [(0, orf 1000 0), (1, oi zv1)] [] z) (n : Nat) (w : Int32 × oS) (h : oH (oLp (f_X9_layWays_L23 zv1) n w) VE) : oVv X mX9_layWays 23 [(0, orf 1000 0), (1, oi zv1), (2, oi w.1)] [] w.2 :=
  oLp_s (VH := fun w => oVv X mX9_layWays 23 [(0, orf 1000 0), (1, oi zv1), (2, oi w.1)] [] w.2) (fun w h => s_X9_layWays_L23b he hR  (fun _ h => h) hVE h) n w h
def f_X9_layWays_L11  : Int32 × oS → Option ((Int32 × oS) ⊕ (oS)) := fun w =>
  match w with
  | (zv1, S) =>
    if (S.1 1000 0 34) ≤ zv1 then (
    some (Sum.inr S)) else (
    oLet ((zv1 + (1 : Int32))) fun zx3 =>
    (oLp (f_X9_layWays_L23 zv1) oFu (zx3, S)).bind fun zz15 =>
    oLet (zv1 + (1 : Int32)) fun zx16 =>
    some (Sum.inl (zx16, zz15)))
set_option maxHeartbeats 4000000 in
theorem s_X9_layWays_L11b {X : oX} {e : Nat} (he : 4 ≤ e) (hR : oRoom X (e + 1))  {VH : Int32 × oS → Prop} {VE : oS → Prop} (hVH : ∀ z, VH z → oVv X mX9_layWays 11 [(0, orf 1000 0), (1, oi z.1)] [] z.2) (hVE : ∀ z, VE z → oVv X mX9_layWays 144 [] [] z) {zv1 : Int32} {S : oS} (h : oH (f_X9_layWays_L11 (zv1, S)) (fun z => Sum.elim VH VE z)) : oVv X mX9_layWays 11 [(0, orf 1000 0), (1, oi zv1)] [] S := by
  dsimp only [f_X9_layWays_L11] at h
  refine o_iload_n (pc := 11) dX9_layWays_11 rfl 1 rfl ?_
  refine o_aload_n (pc := 12) dX9_layWays_12 rfl 0 rfl ?_
  refine o_getI (pc := 13) fd_RX9_303 ft_1000_34 j_1000 dX9_layWays_13 ?_
  refine o_icmp_ge 144 (pc := 16) dX9_layWays_16 (by decide) (fun hc => ?_) (fun hc => ?_)
  · have h := oH_T hc h
    refine o_weak [] rfl ?_
    exact hVE _ (oH_some (P := fun z => Sum.elim VH VE z) h)
  · have h := oH_F hc h
    refine o_iload_n (pc := 19) dX9_layWays_19 rfl 1 rfl ?_
    refine o_iconst (v := 1) (pc := 20) dX9_layWays_20 (by decide) ?_
    refine o_iadd (pc := 21) dX9_layWays_21 ?_
    refine o_nmI (fun zx3 hx => ?_)
    have h := oH_let h zx3 hx
    clear hx
    refine o_istore_n (lv1 := [(0, orf 1000 0), (1, oi zv1), (2, oi zx3)]) (pc := 22) dX9_layWays_22 rfl (by decide) rfl ?_
    have h := oH_bind h
    refine s_X9_layWays_L23 he hR  (fun zz15 h => ?_) _ (zx3, S) h
    obtain ⟨zx16, hx⟩ : ∃ y : Int32, y = zv1 + (1 : Int32) := ⟨_, rfl⟩
    have h := oH_let h zx16 hx
    refine o_iinc (lv1 := [(0, orf 1000 0), (1, oi zx16)]) (pc := 138) dX9_layWays_138 1 rfl hx.symm (by decide) rfl ?_
    clear hx
    refine o_goto 11 (pc := 141) dX9_layWays_141 (by decide) ?_
    exact hVH _ (oH_some (P := fun z => Sum.elim VH VE z) h)
theorem s_X9_layWays_L11 {X : oX} {e : Nat} (he : 4 ≤ e) (hR : oRoom X (e + 1))   {VE : oS → Prop} (hVE : ∀ z, VE z → oVv X mX9_layWays 144 [] [] z) (n : Nat) (w : Int32 × oS) (h : oH (oLp (f_X9_layWays_L11) n w) VE) : oVv X mX9_layWays 11 [(0, orf 1000 0), (1, oi w.1)] [] w.2 :=
  oLp_s (VH := fun w => oVv X mX9_layWays 11 [(0, orf 1000 0), (1, oi w.1)] [] w.2) (fun w h => s_X9_layWays_L11b he hR  (fun _ h => h) hVE h) n w h
def f_X9_layWays   (S : oS) : Option (oS) :=
  (f_X9_layAhead S).bind fun zz1 =>
  oLet (oStI zz1 1000 0 57 (0 : Int32)) fun zS2 =>
  (oLp (f_X9_layWays_L11) oFu ((0 : Int32), zS2)).bind fun zz17 =>
  some zz17
set_option maxHeartbeats 4000000 in
theorem s_X9_layWays {G : oG} {r : oR} (d : Nat) (hd : 5 ≤ d)   {S : oS} {P : oS → Prop} (h : oH (f_X9_layWays  S) P) : oCt G r d yX9_layWays mX9_layWays [orf 1000 0] S (oQv P) := by
  unfold f_X9_layWays at h
  refine oCt_of (by decide) rfl (Nat.le_of_ble_eq_true rfl) ?_
  intro X hG hr hE0 hR
  subst hG; subst hr
  obtain ⟨e, rfl⟩ : ∃ e, d = e + 1 := ⟨d - 1, by omega⟩
  have he : 4 ≤ e := by omega
  have hE := oEV_of hE0 rfl
  clear hE0 hd
  show oVv X mX9_layWays 0 [(0, orf 1000 0)] [] S
  refine o_aload_n (pc := 0) dX9_layWays_0 rfl 0 rfl ?_
  have h := oH_bind h
  refine o_callVv (pc := 1) (st := []) [] hR md_X9_layAhead wd_1249 wd_1251 ws_44 tc_1000 j_1000 rfl (Nat.le_of_ble_eq_true rfl) rfl dX9_layWays_1 (s_X9_layAhead e (by omega)  h) (fun zz1 h => ?_)
  refine o_aload_n (pc := 4) dX9_layWays_4 rfl 0 rfl ?_
  refine o_iconst (v := 0) (pc := 5) dX9_layWays_5 (by decide) ?_
  refine o_putI (pc := 6) fd_RX9_312 fp_1000_57 ft_1000_57 rfl rfl j_1000 dX9_layWays_6 ?_
  refine o_nmS (fun zS2 hx => ?_)
  have h := oH_let h zS2 hx
  clear hx
  refine o_iconst (v := 0) (pc := 9) dX9_layWays_9 (by decide) ?_
  refine o_istore_n (lv1 := [(0, orf 1000 0), (1, oi (0 : Int32))]) (pc := 10) dX9_layWays_10 rfl (by decide) rfl ?_
  have h := oH_bind h
  refine s_X9_layWays_L11 he hR  (fun zz17 h => ?_) _ ((0 : Int32), zS2) h
  exact hE _ _ _ dX9_layWays_144 (oH_some h)
def f_X9_layGiven_K85 (zv2 : Int32) (zv4 : Int32) (zs0 : Int32) (S : oS) : Option ((Int32 × Int32 × Int32 × oS) ⊕ (Int32 × oS)) :=
  oLet (zv4 + (-1 : Int32)) fun zx4 =>
  some (Sum.inl (zv2, zs0, zx4, S))
set_option maxHeartbeats 4000000 in
theorem s_X9_layGiven_K85 {X : oX} {e : Nat} (he : 0 ≤ e) (hR : oRoom X (e + 1)) {zv2 : Int32} {zv4 : Int32} {zs0 : Int32} {VH : Int32 × Int32 × Int32 × oS → Prop} {VE : Int32 × oS → Prop} (hVH : ∀ z, VH z → oVv X mX9_layGiven 12 [(0, orf 1000 0), (2, oi z.1), (3, oi z.2.1), (4, oi z.2.2.1)] [] z.2.2.2) (hVE : ∀ z, VE z → oVv X mX9_layGiven 92 [(3, oi z.1)] [] z.2) {S : oS} (h : oH (f_X9_layGiven_K85 zv2 zv4 zs0 S) (fun z => Sum.elim VH VE z)) : oVv X mX9_layGiven 85 [(0, orf 1000 0), (2, oi zv2), (4, oi zv4)] [oi zs0] S := by
  unfold f_X9_layGiven_K85 at h
  refine o_istore_n (lv1 := [(0, orf 1000 0), (2, oi zv2), (3, oi zs0), (4, oi zv4)]) (pc := 85) dX9_layGiven_85 rfl (by decide) rfl ?_
  obtain ⟨zx4, hx⟩ : ∃ y : Int32, y = zv4 + (-1 : Int32) := ⟨_, rfl⟩
  have h := oH_let h zx4 hx
  refine o_iinc (lv1 := [(0, orf 1000 0), (2, oi zv2), (3, oi zs0), (4, oi zx4)]) (pc := 86) dX9_layGiven_86 3 rfl hx.symm (by decide) rfl ?_
  clear hx
  refine o_goto 12 (pc := 89) dX9_layGiven_89 (by decide) ?_
  exact hVH _ (oH_some (P := fun z => Sum.elim VH VE z) h)
def f_X9_layGiven_K84 (zv2 : Int32) (zv4 : Int32) (S : oS) : Option ((Int32 × Int32 × Int32 × oS) ⊕ (Int32 × oS)) :=
  f_X9_layGiven_K85 zv2 zv4 (0 : Int32) S
set_option maxHeartbeats 4000000 in
theorem s_X9_layGiven_K84 {X : oX} {e : Nat} (he : 0 ≤ e) (hR : oRoom X (e + 1)) {zv2 : Int32} {zv4 : Int32} {VH : Int32 × Int32 × Int32 × oS → Prop} {VE : Int32 × oS → Prop} (hVH : ∀ z, VH z → oVv X mX9_layGiven 12 [(0, orf 1000 0), (2, oi z.1), (3, oi z.2.1), (4, oi z.2.2.1)] [] z.2.2.2) (hVE : ∀ z, VE z → oVv X mX9_layGiven 92 [(3, oi z.1)] [] z.2) {S : oS} (h : oH (f_X9_layGiven_K84 zv2 zv4 S) (fun z => Sum.elim VH VE z)) : oVv X mX9_layGiven 84 [(0, orf 1000 0), (2, oi zv2), (4, oi zv4)] [] S := by
  unfold f_X9_layGiven_K84 at h
  refine o_iconst (v := 0) (pc := 84) dX9_layGiven_84 (by decide) ?_
  exact s_X9_layGiven_K85 he hR  hVH hVE h
def f_X9_layGiven_K80 (zv2 : Int32) (zv4 : Int32) (S : oS) : Option ((Int32 × Int32 × Int32 × oS) ⊕ (Int32 × oS)) :=
  f_X9_layGiven_K85 zv2 zv4 (1 : Int32) S
set_option maxHeartbeats 4000000 in
theorem s_X9_layGiven_K80 {X : oX} {e : Nat} (he : 0 ≤ e) (hR : oRoom X (e + 1)) {zv2 : Int32} {zv4 : Int32} {VH : Int32 × Int32 × Int32 × oS → Prop} {VE : Int32 × oS → Prop} (hVH : ∀ z, VH z → oVv X mX9_layGiven 12 [(0, orf 1000 0), (2, oi z.1), (3, oi z.2.1), (4, oi z.2.2.1)] [] z.2.2.2) (hVE : ∀ z, VE z → oVv X mX9_layGiven 92 [(3, oi z.1)] [] z.2) {S : oS} (h : oH (f_X9_layGiven_K80 zv2 zv4 S) (fun z => Sum.elim VH VE z)) : oVv X mX9_layGiven 80 [(0, orf 1000 0), (2, oi zv2), (4, oi zv4)] [] S := by
  unfold f_X9_layGiven_K80 at h
  refine o_iconst (v := 1) (pc := 80) dX9_layGiven_80 (by decide) ?_
  refine o_goto 85 (pc := 81) dX9_layGiven_81 (by decide) ?_
  exact s_X9_layGiven_K85 he hR  hVH hVE h
def f_X9_layGiven_L12  : Int32 × Int32 × Int32 × oS → Option ((Int32 × Int32 × Int32 × oS) ⊕ (Int32 × oS)) := fun w =>
  match w with
  | (zv2, zv3, zv4, S) =>
    if zv4 < 0 then (
    some (Sum.inr (zv3, S))) else (
    if ¬ ((S.1 1000 0 57) + (1 : Int32)) = 0 then (
    if oIn zv4 4 then (
    oLet (oStI S 1063 0 (Int32.toNatClampNeg zv4) (zv2 - zv2 / ((S.1 1000 0 57) + (1 : Int32)) * ((S.1 1000 0 57) + (1 : Int32)))) fun zS2 =>
    if ¬ ((zS2.1 1000 0 57) + (1 : Int32)) = 0 then (
    oLet ((zv2 / ((zS2.1 1000 0 57) + (1 : Int32)))) fun zx3 =>
    if zv3 = 0 then (
    f_X9_layGiven_K84 zx3 zv4 zS2) else (
    if oIn zv4 4 then (
    if (zS2.1 1063 0 (Int32.toNatClampNeg zv4)) = (zS2.1 1000 0 57) then (
    f_X9_layGiven_K80 zx3 zv4 zS2) else (
    if oIn zv4 4 then (
    if oIn (((13 : Int32) * zv4) + (zS2.1 1063 0 (Int32.toNatClampNeg zv4))) 52 then (
    if (zS2.1 1062 0 (Int32.toNatClampNeg (((13 : Int32) * zv4) + (zS2.1 1063 0 (Int32.toNatClampNeg zv4))))) = 0 then (
    f_X9_layGiven_K84 zx3 zv4 zS2) else (
    f_X9_layGiven_K80 zx3 zv4 zS2)) else none) else none)) else none)) else none) else none) else none)
set_option maxHeartbeats 4000000 in
theorem s_X9_layGiven_L12b {X : oX} {e : Nat} (he : 0 ≤ e) (hR : oRoom X (e + 1))  {VH : Int32 × Int32 × Int32 × oS → Prop} {VE : Int32 × oS → Prop} (hVH : ∀ z, VH z → oVv X mX9_layGiven 12 [(0, orf 1000 0), (2, oi z.1), (3, oi z.2.1), (4, oi z.2.2.1)] [] z.2.2.2) (hVE : ∀ z, VE z → oVv X mX9_layGiven 92 [(3, oi z.1)] [] z.2) {zv2 : Int32} {zv3 : Int32} {zv4 : Int32} {S : oS} (h : oH (f_X9_layGiven_L12 (zv2, zv3, zv4, S)) (fun z => Sum.elim VH VE z)) : oVv X mX9_layGiven 12 [(0, orf 1000 0), (2, oi zv2), (3, oi zv3), (4, oi zv4)] [] S := by
  dsimp only [f_X9_layGiven_L12] at h
  refine o_iload (pc := 12) dX9_layGiven_12 3 rfl ?_
  refine o_if_lt 92 (pc := 14) dX9_layGiven_14 (by decide) (fun hc => ?_) (fun hc => ?_)
  · have h := oH_T hc h
    refine o_weak [2] rfl ?_
    exact hVE _ (oH_some (P := fun z => Sum.elim VH VE z) h)
  · have h := oH_F hc h
    refine o_aload_n (pc := 17) dX9_layGiven_17 rfl 0 rfl ?_
    refine o_getA (pc := 18) fd_RX9_136 ft_1000_62 j_1000 dX9_layGiven_18 ?_
    refine o_iload (pc := 21) dX9_layGiven_21 3 rfl ?_
    refine o_iload_n (pc := 23) dX9_layGiven_23 rfl 1 rfl ?_
    refine o_aload_n (pc := 24) dX9_layGiven_24 rfl 0 rfl ?_
    refine o_getI (pc := 25) fd_RX9_312 ft_1000_57 j_1000 dX9_layGiven_25 ?_
    refine o_iconst (v := 1) (pc := 28) dX9_layGiven_28 (by decide) ?_
    refine o_iadd (pc := 29) dX9_layGiven_29 ?_
    obtain ⟨hg, h⟩ := oH_G h
    refine o_irem (pc := 30) dX9_layGiven_30 hg ?_
    obtain ⟨hg, h⟩ := oH_G h
    have hgi := hg
    refine o_iast (pc := 31) kd_1063 j_1063 hgi dX9_layGiven_31 ?_
    refine o_nmS (fun zS2 hx => ?_)
    have h := oH_let h zS2 hx
    clear hx
    refine o_iload_n (pc := 32) dX9_layGiven_32 rfl 1 rfl ?_
    refine o_aload_n (pc := 33) dX9_layGiven_33 rfl 0 rfl ?_
    refine o_getI (pc := 34) fd_RX9_312 ft_1000_57 j_1000 dX9_layGiven_34 ?_
    refine o_iconst (v := 1) (pc := 37) dX9_layGiven_37 (by decide) ?_
    refine o_iadd (pc := 38) dX9_layGiven_38 ?_
    obtain ⟨hg, h⟩ := oH_G h
    refine o_idiv (pc := 39) dX9_layGiven_39 hg ?_
    refine o_nmI (fun zx3 hx => ?_)
    have h := oH_let h zx3 hx
    clear hx
    refine o_istore_n (lv1 := [(0, orf 1000 0), (2, oi zx3), (3, oi zv3), (4, oi zv4)]) (pc := 40) dX9_layGiven_40 rfl (by decide) rfl ?_
    refine o_iload_n (pc := 41) dX9_layGiven_41 rfl 2 rfl ?_
    refine o_if_eq 84 (pc := 42) dX9_layGiven_42 (by decide) (fun hc => ?_) (fun hc => ?_)
    · have h := oH_T hc h
      refine o_weak [0, 1, 3] rfl ?_
      exact s_X9_layGiven_K84 he hR  hVH hVE h
    · have h := oH_F hc h
      refine o_aload_n (pc := 45) dX9_layGiven_45 rfl 0 rfl ?_
      refine o_getA (pc := 46) fd_RX9_136 ft_1000_62 j_1000 dX9_layGiven_46 ?_
      refine o_iload (pc := 49) dX9_layGiven_49 3 rfl ?_
      obtain ⟨hg, h⟩ := oH_G h
      refine o_iald (pc := 51) kd_1063 j_1063 hg dX9_layGiven_51 ?_
      refine o_aload_n (pc := 52) dX9_layGiven_52 rfl 0 rfl ?_
      refine o_getI (pc := 53) fd_RX9_312 ft_1000_57 j_1000 dX9_layGiven_53 ?_
      refine o_icmp_eq 80 (pc := 56) dX9_layGiven_56 (by decide) (fun hc => ?_) (fun hc => ?_)
      · have h := oH_T hc h
        refine o_weak [0, 1, 3] rfl ?_
        exact s_X9_layGiven_K80 he hR  hVH hVE h
      · have h := oH_F hc h
        refine o_aload_n (pc := 59) dX9_layGiven_59 rfl 0 rfl ?_
        refine o_getA (pc := 60) fd_RX9_133 ft_1000_61 j_1000 dX9_layGiven_60 ?_
        refine o_bipush (v := 13) (pc := 63) dX9_layGiven_63 (by decide) ?_
        refine o_iload (pc := 65) dX9_layGiven_65 3 rfl ?_
        refine o_imul (pc := 67) dX9_layGiven_67 ?_
        refine o_aload_n (pc := 68) dX9_layGiven_68 rfl 0 rfl ?_
        refine o_getA (pc := 69) fd_RX9_136 ft_1000_62 j_1000 dX9_layGiven_69 ?_
        refine o_iload (pc := 72) dX9_layGiven_72 3 rfl ?_
        obtain ⟨hg, h⟩ := oH_G h
        refine o_iald (pc := 74) kd_1063 j_1063 hg dX9_layGiven_74 ?_
        refine o_iadd (pc := 75) dX9_layGiven_75 ?_
        obtain ⟨hg, h⟩ := oH_G h
        refine o_zald (pc := 76) kd_1062 j_1062 hg dX9_layGiven_76 ?_
        refine o_if_eq 84 (pc := 77) dX9_layGiven_77 (by decide) (fun hc => ?_) (fun hc => ?_)
        · have h := oH_T hc h
          refine o_weak [0, 1, 3] rfl ?_
          exact s_X9_layGiven_K84 he hR  hVH hVE h
        · have h := oH_F hc h
          refine o_weak [0, 1, 3] rfl ?_
          exact s_X9_layGiven_K80 he hR  hVH hVE h
theorem s_X9_layGiven_L12 {X : oX} {e : Nat} (he : 0 ≤ e) (hR : oRoom X (e + 1))   {VE : Int32 × oS → Prop} (hVE : ∀ z, VE z → oVv X mX9_layGiven 92 [(3, oi z.1)] [] z.2) (n : Nat) (w : Int32 × Int32 × Int32 × oS) (h : oH (oLp (f_X9_layGiven_L12) n w) VE) : oVv X mX9_layGiven 12 [(0, orf 1000 0), (2, oi w.1), (3, oi w.2.1), (4, oi w.2.2.1)] [] w.2.2.2 :=
  oLp_s (VH := fun w => oVv X mX9_layGiven 12 [(0, orf 1000 0), (2, oi w.1), (3, oi w.2.1), (4, oi w.2.2.1)] [] w.2.2.2) (fun w h => s_X9_layGiven_L12b he hR  (fun _ h => h) hVE h) n w h
def f_X9_layGiven  (za1 : Int32) (S : oS) : Option (Int32 × oS) :=
  oLet (((S.1 1000 0 32) - (1 : Int32))) fun zx1 =>
  (oLp (f_X9_layGiven_L12) oFu (za1, (1 : Int32), zx1, S)).bind fun zz5 =>
  if oBl zz5.1 then (
  some (zz5.1, zz5.2)) else none
set_option maxHeartbeats 4000000 in
theorem s_X9_layGiven {G : oG} {r : oR} (d : Nat) (hd : 1 ≤ d) {za1 : Int32}  {S : oS} {P : Int32 × oS → Prop} (h : oH (f_X9_layGiven za1 S) P) : oCt G r d yX9_layGiven mX9_layGiven [orf 1000 0, oi za1] S (oQi P) := by
  unfold f_X9_layGiven at h
  refine oCt_of (by decide) rfl (Nat.le_of_ble_eq_true rfl) ?_
  intro X hG hr hE0 hR
  subst hG; subst hr
  obtain ⟨e, rfl⟩ : ∃ e, d = e + 1 := ⟨d - 1, by omega⟩
  have he : 0 ≤ e := by omega
  have hE := oEZ_of hE0 rfl
  clear hE0 hd
  show oVv X mX9_layGiven 0 [(0, orf 1000 0), (1, oi za1)] [] S
  refine o_iload_n (pc := 0) dX9_layGiven_0 rfl 1 rfl ?_
  refine o_istore_n (lv1 := [(0, orf 1000 0), (1, oi za1), (2, oi za1)]) (pc := 1) dX9_layGiven_1 rfl (by decide) rfl ?_
  refine o_iconst (v := 1) (pc := 2) dX9_layGiven_2 (by decide) ?_
  refine o_istore_n (lv1 := [(0, orf 1000 0), (1, oi za1), (2, oi za1), (3, oi (1 : Int32))]) (pc := 3) dX9_layGiven_3 rfl (by decide) rfl ?_
  refine o_aload_n (pc := 4) dX9_layGiven_4 rfl 0 rfl ?_
  refine o_getI (pc := 5) fd_RX9_300 ft_1000_32 j_1000 dX9_layGiven_5 ?_
  refine o_iconst (v := 1) (pc := 8) dX9_layGiven_8 (by decide) ?_
  refine o_isub (pc := 9) dX9_layGiven_9 ?_
  refine o_nmI (fun zx1 hx => ?_)
  have h := oH_let h zx1 hx
  clear hx
  refine o_istore (lv1 := [(0, orf 1000 0), (1, oi za1), (2, oi za1), (3, oi (1 : Int32)), (4, oi zx1)]) (pc := 10) dX9_layGiven_10 (by decide) rfl ?_
  refine o_weak [0, 2, 3, 4] rfl ?_
  have h := oH_bind h
  refine s_X9_layGiven_L12 he hR  (fun zz5 h => ?_) _ (za1, (1 : Int32), zx1, S) h
  refine o_iload_n (pc := 92) dX9_layGiven_92 rfl 0 rfl ?_
  obtain ⟨hg, h⟩ := oH_G h
  exact hE _ _ _ _ dX9_layGiven_93 hg (oH_some h)
def f_X9_keepsRoom_L25 (zv1 : Int32) (zv2 : Int32) : Int32 × oS → Option ((Int32 × oS) ⊕ (oS)) := fun w =>
  match w with
  | (zv3, S) =>
    if (S.1 1000 0 32) ≤ zv3 then (
    some (Sum.inr S)) else (
    if oIn zv3 4 then (
    oLet (S.1 1063 0 (Int32.toNatClampNeg zv3)) fun zx2 =>
    if (S.1 1000 0 57) ≤ zx2 then (
    oLet (zv3 + (1 : Int32)) fun zx3 =>
    some (Sum.inl (zx3, S))) else (
    if oIn zx2 13 then (
    if (S.1 1061 0 (Int32.toNatClampNeg zx2)) = zv2 then (
    if oIn zx2 13 then (
    if zv1 < (S.1 1059 0 (Int32.toNatClampNeg zx2)) then (
    oLet (zv3 + (1 : Int32)) fun zx5 =>
    some (Sum.inl (zx5, S))) else (
    if oIn zx2 13 then (
    if (S.1 1060 0 (Int32.toNatClampNeg zx2)) ≤ zv1 then (
    oLet (zv3 + (1 : Int32)) fun zx6 =>
    some (Sum.inl (zx6, S))) else (
    if oIn zv3 4 then (
    (f_X9_countKind (S.1 1034 0 (Int32.toNatClampNeg zv3)) S).bind fun zz7 =>
    oLet (zv3 + (1 : Int32)) fun zx8 =>
    some (Sum.inl (zx8, zz7))) else none)) else none)) else none) else (
    oLet (zv3 + (1 : Int32)) fun zx4 =>
    some (Sum.inl (zx4, S)))) else none)) else none)
set_option maxHeartbeats 4000000 in
theorem s_X9_keepsRoom_L25b {X : oX} {e : Nat} (he : 1 ≤ e) (hR : oRoom X (e + 1)) {zv1 : Int32} {zv2 : Int32} {VH : Int32 × oS → Prop} {VE : oS → Prop} (hVH : ∀ z, VH z → oVv X mX9_keepsRoom 25 [(0, orf 1000 0), (1, oi zv1), (2, oi zv2), (3, oi z.1)] [] z.2) (hVE : ∀ z, VE z → oVv X mX9_keepsRoom 99 [(0, orf 1000 0), (1, oi zv1), (2, oi zv2)] [] z) {zv3 : Int32} {S : oS} (h : oH (f_X9_keepsRoom_L25 zv1 zv2 (zv3, S)) (fun z => Sum.elim VH VE z)) : oVv X mX9_keepsRoom 25 [(0, orf 1000 0), (1, oi zv1), (2, oi zv2), (3, oi zv3)] [] S := by
  dsimp only [f_X9_keepsRoom_L25] at h
  refine o_iload_n (pc := 25) dX9_keepsRoom_25 rfl 3 rfl ?_
  refine o_aload_n (pc := 26) dX9_keepsRoom_26 rfl 0 rfl ?_
  refine o_getI (pc := 27) fd_RX9_300 ft_1000_32 j_1000 dX9_keepsRoom_27 ?_
  refine o_icmp_ge 99 (pc := 30) dX9_keepsRoom_30 (by decide) (fun hc => ?_) (fun hc => ?_)
  · have h := oH_T hc h
    refine o_weak [0, 1, 2] rfl ?_
    exact hVE _ (oH_some (P := fun z => Sum.elim VH VE z) h)
  · have h := oH_F hc h
    refine o_aload_n (pc := 33) dX9_keepsRoom_33 rfl 0 rfl ?_
    refine o_getA (pc := 34) fd_RX9_136 ft_1000_62 j_1000 dX9_keepsRoom_34 ?_
    refine o_iload_n (pc := 37) dX9_keepsRoom_37 rfl 3 rfl ?_
    obtain ⟨hg, h⟩ := oH_G h
    refine o_iald (pc := 38) kd_1063 j_1063 hg dX9_keepsRoom_38 ?_
    refine o_nmI (fun zx2 hx => ?_)
    have h := oH_let h zx2 hx
    clear hx
    refine o_istore (lv1 := [(0, orf 1000 0), (1, oi zv1), (2, oi zv2), (3, oi zv3), (4, oi zx2)]) (pc := 39) dX9_keepsRoom_39 (by decide) rfl ?_
    refine o_iload (pc := 41) dX9_keepsRoom_41 4 rfl ?_
    refine o_aload_n (pc := 43) dX9_keepsRoom_43 rfl 0 rfl ?_
    refine o_getI (pc := 44) fd_RX9_312 ft_1000_57 j_1000 dX9_keepsRoom_44 ?_
    refine o_icmp_ge 93 (pc := 47) dX9_keepsRoom_47 (by decide) (fun hc => ?_) (fun hc => ?_)
    · have h := oH_T hc h
      obtain ⟨zx3, hx⟩ : ∃ y : Int32, y = zv3 + (1 : Int32) := ⟨_, rfl⟩
      have h := oH_let h zx3 hx
      refine o_iinc (lv1 := [(0, orf 1000 0), (1, oi zv1), (2, oi zv2), (3, oi zx3), (4, oi zx2)]) (pc := 93) dX9_keepsRoom_93 3 rfl hx.symm (by decide) rfl ?_
      clear hx
      refine o_goto 25 (pc := 96) dX9_keepsRoom_96 (by decide) ?_
      refine o_weak [0, 1, 2, 3] rfl ?_
      exact hVH _ (oH_some (P := fun z => Sum.elim VH VE z) h)
    · have h := oH_F hc h
      refine o_aload_n (pc := 50) dX9_keepsRoom_50 rfl 0 rfl ?_
      refine o_getA (pc := 51) fd_RX9_130 ft_1000_60 j_1000 dX9_keepsRoom_51 ?_
      refine o_iload (pc := 54) dX9_keepsRoom_54 4 rfl ?_
      obtain ⟨hg, h⟩ := oH_G h
      refine o_iald (pc := 56) kd_1061 j_1061 hg dX9_keepsRoom_56 ?_
      refine o_iload_n (pc := 57) dX9_keepsRoom_57 rfl 2 rfl ?_
      refine o_icmp_ne 93 (pc := 58) dX9_keepsRoom_58 (by decide) (fun hc => ?_) (fun hc => ?_)
      · have h := oH_F hc h
        obtain ⟨zx4, hx⟩ : ∃ y : Int32, y = zv3 + (1 : Int32) := ⟨_, rfl⟩
        have h := oH_let h zx4 hx
        refine o_iinc (lv1 := [(0, orf 1000 0), (1, oi zv1), (2, oi zv2), (3, oi zx4), (4, oi zx2)]) (pc := 93) dX9_keepsRoom_93 3 rfl hx.symm (by decide) rfl ?_
        clear hx
        refine o_goto 25 (pc := 96) dX9_keepsRoom_96 (by decide) ?_
        refine o_weak [0, 1, 2, 3] rfl ?_
        exact hVH _ (oH_some (P := fun z => Sum.elim VH VE z) h)
      · have h := oH_T hc h
        refine o_aload_n (pc := 61) dX9_keepsRoom_61 rfl 0 rfl ?_
        refine o_getA (pc := 62) fd_RX9_124 ft_1000_58 j_1000 dX9_keepsRoom_62 ?_
        refine o_iload (pc := 65) dX9_keepsRoom_65 4 rfl ?_
        obtain ⟨hg, h⟩ := oH_G h
        refine o_iald (pc := 67) kd_1059 j_1059 hg dX9_keepsRoom_67 ?_
        refine o_iload_n (pc := 68) dX9_keepsRoom_68 rfl 1 rfl ?_
        refine o_icmp_gt 93 (pc := 69) dX9_keepsRoom_69 (by decide) (fun hc => ?_) (fun hc => ?_)
        · have h := oH_T hc h
          obtain ⟨zx5, hx⟩ : ∃ y : Int32, y = zv3 + (1 : Int32) := ⟨_, rfl⟩
          have h := oH_let h zx5 hx
          refine o_iinc (lv1 := [(0, orf 1000 0), (1, oi zv1), (2, oi zv2), (3, oi zx5), (4, oi zx2)]) (pc := 93) dX9_keepsRoom_93 3 rfl hx.symm (by decide) rfl ?_
          clear hx
          refine o_goto 25 (pc := 96) dX9_keepsRoom_96 (by decide) ?_
          refine o_weak [0, 1, 2, 3] rfl ?_
          exact hVH _ (oH_some (P := fun z => Sum.elim VH VE z) h)
        · have h := oH_F hc h
          refine o_aload_n (pc := 72) dX9_keepsRoom_72 rfl 0 rfl ?_
          refine o_getA (pc := 73) fd_RX9_127 ft_1000_59 j_1000 dX9_keepsRoom_73 ?_
          refine o_iload (pc := 76) dX9_keepsRoom_76 4 rfl ?_
          obtain ⟨hg, h⟩ := oH_G h
          refine o_iald (pc := 78) kd_1060 j_1060 hg dX9_keepsRoom_78 ?_
          refine o_iload_n (pc := 79) dX9_keepsRoom_79 rfl 1 rfl ?_
          refine o_icmp_le 93 (pc := 80) dX9_keepsRoom_80 (by decide) (fun hc => ?_) (fun hc => ?_)
          · have h := oH_T hc h
            obtain ⟨zx6, hx⟩ : ∃ y : Int32, y = zv3 + (1 : Int32) := ⟨_, rfl⟩
            have h := oH_let h zx6 hx
            refine o_iinc (lv1 := [(0, orf 1000 0), (1, oi zv1), (2, oi zv2), (3, oi zx6), (4, oi zx2)]) (pc := 93) dX9_keepsRoom_93 3 rfl hx.symm (by decide) rfl ?_
            clear hx
            refine o_goto 25 (pc := 96) dX9_keepsRoom_96 (by decide) ?_
            refine o_weak [0, 1, 2, 3] rfl ?_
            exact hVH _ (oH_some (P := fun z => Sum.elim VH VE z) h)
          · have h := oH_F hc h
            refine o_aload_n (pc := 83) dX9_keepsRoom_83 rfl 0 rfl ?_
            refine o_aload_n (pc := 84) dX9_keepsRoom_84 rfl 0 rfl ?_
            refine o_getA (pc := 85) fd_RX9_79 ft_1000_33 j_1000 dX9_keepsRoom_85 ?_
            refine o_iload_n (pc := 88) dX9_keepsRoom_88 rfl 3 rfl ?_
            obtain ⟨hg, h⟩ := oH_G h
            refine o_iald (pc := 89) kd_1034 j_1034 hg dX9_keepsRoom_89 ?_
            have h := oH_bind h
            refine o_callVv (pc := 90) (st := []) [oi (S.1 1034 0 (Int32.toNatClampNeg zv3))] hR md_X9_countKind wd_1182 wd_1184 ws_36 tc_1000 j_1000 rfl (Nat.le_of_ble_eq_true rfl) rfl dX9_keepsRoom_90 (s_X9_countKind e (by omega)  h) (fun zz7 h => ?_)
            obtain ⟨zx8, hx⟩ : ∃ y : Int32, y = zv3 + (1 : Int32) := ⟨_, rfl⟩
            have h := oH_let h zx8 hx
            refine o_iinc (lv1 := [(0, orf 1000 0), (1, oi zv1), (2, oi zv2), (3, oi zx8), (4, oi zx2)]) (pc := 93) dX9_keepsRoom_93 3 rfl hx.symm (by decide) rfl ?_
            clear hx
            refine o_goto 25 (pc := 96) dX9_keepsRoom_96 (by decide) ?_
            refine o_weak [0, 1, 2, 3] rfl ?_
            exact hVH _ (oH_some (P := fun z => Sum.elim VH VE z) h)
theorem s_X9_keepsRoom_L25 {X : oX} {e : Nat} (he : 1 ≤ e) (hR : oRoom X (e + 1)) {zv1 : Int32} {zv2 : Int32}  {VE : oS → Prop} (hVE : ∀ z, VE z → oVv X mX9_keepsRoom 99 [(0, orf 1000 0), (1, oi zv1), (2, oi zv2)] [] z) (n : Nat) (w : Int32 × oS) (h : oH (oLp (f_X9_keepsRoom_L25 zv1 zv2) n w) VE) : oVv X mX9_keepsRoom 25 [(0, orf 1000 0), (1, oi zv1), (2, oi zv2), (3, oi w.1)] [] w.2 :=
  oLp_s (VH := fun w => oVv X mX9_keepsRoom 25 [(0, orf 1000 0), (1, oi zv1), (2, oi zv2), (3, oi w.1)] [] w.2) (fun w h => s_X9_keepsRoom_L25b he hR  (fun _ h => h) hVE h) n w h
def f_X9_keepsRoom_L14 (zv1 : Int32) : Int32 × oS → Option ((Int32 × oS) ⊕ ((oS) ⊕ (Int32 × oS))) := fun w =>
  match w with
  | (zv2, S) =>
    if (4 : Int32) ≤ zv2 then (
    some (Sum.inr (Sum.inl S))) else (
    (f_X9_countNone S).bind fun zz1 =>
    (oLp (f_X9_keepsRoom_L25 zv1 zv2) oFu ((0 : Int32), zz1)).bind fun zz9 =>
    (f_X9_used zz9).bind fun zz10 =>
    (f_X9_roomOf zv2 zz10.2).bind fun zz11 =>
    if zz10.1 ≤ zz11.1 then (
    oLet (zv2 + (1 : Int32)) fun zx12 =>
    some (Sum.inl (zx12, zz11.2))) else (
    some (Sum.inr (Sum.inr ((0 : Int32), zz11.2)))))
set_option maxHeartbeats 4000000 in
theorem s_X9_keepsRoom_L14b {X : oX} {e : Nat} (he : 1 ≤ e) (hR : oRoom X (e + 1)) {zv1 : Int32} {VH : Int32 × oS → Prop} {VE : (oS) ⊕ (Int32 × oS) → Prop} (hVH : ∀ z, VH z → oVv X mX9_keepsRoom 14 [(0, orf 1000 0), (1, oi zv1), (2, oi z.1)] [] z.2) (hVE : ∀ z, VE (Sum.inl z) → oVv X mX9_keepsRoom 118 [(0, orf 1000 0), (1, oi zv1)] [] z) {PQ : Int32 × oS → Prop} (hE : oEZ X mX9_keepsRoom PQ) (hRet : ∀ z, VE (Sum.inr z) → PQ z) {zv2 : Int32} {S : oS} (h : oH (f_X9_keepsRoom_L14 zv1 (zv2, S)) (fun z => Sum.elim VH VE z)) : oVv X mX9_keepsRoom 14 [(0, orf 1000 0), (1, oi zv1), (2, oi zv2)] [] S := by
  dsimp only [f_X9_keepsRoom_L14] at h
  refine o_iload_n (pc := 14) dX9_keepsRoom_14 rfl 2 rfl ?_
  refine o_iconst (v := 4) (pc := 15) dX9_keepsRoom_15 (by decide) ?_
  refine o_icmp_ge 118 (pc := 16) dX9_keepsRoom_16 (by decide) (fun hc => ?_) (fun hc => ?_)
  · have h := oH_T hc h
    refine o_weak [0, 1] rfl ?_
    exact hVE _ (oH_some (P := fun z => Sum.elim VH VE z) h)
  · have h := oH_F hc h
    refine o_aload_n (pc := 19) dX9_keepsRoom_19 rfl 0 rfl ?_
    have h := oH_bind h
    refine o_callVv (pc := 20) (st := []) [] hR md_X9_countNone wd_1178 wd_1180 ws_35 tc_1000 j_1000 rfl (Nat.le_of_ble_eq_true rfl) rfl dX9_keepsRoom_20 (s_X9_countNone e (by omega)  h) (fun zz1 h => ?_)
    refine o_iconst (v := 0) (pc := 23) dX9_keepsRoom_23 (by decide) ?_
    refine o_istore_n (lv1 := [(0, orf 1000 0), (1, oi zv1), (2, oi zv2), (3, oi (0 : Int32))]) (pc := 24) dX9_keepsRoom_24 rfl (by decide) rfl ?_
    have h := oH_bind h
    refine s_X9_keepsRoom_L25 he hR  (fun zz9 h => ?_) _ ((0 : Int32), zz1) h
    refine o_aload_n (pc := 99) dX9_keepsRoom_99 rfl 0 rfl ?_
    have h := oH_bind h
    refine o_callVi (pc := 100) (st := []) [] hR md_X9_used wd_1186 wd_1188 ws_37 tc_1000 j_1000 rfl (Nat.le_of_ble_eq_true rfl) rfl dX9_keepsRoom_100 (s_X9_used e (by omega)  h) (fun zz10 h => ?_)
    refine o_iload_n (pc := 103) dX9_keepsRoom_103 rfl 2 rfl ?_
    have h := oH_bind h
    refine o_callSi (pc := 104) (st := [oi zz10.1]) [oi zv2] hR md_X9_roomOf wd_1190 wd_1191 rfl (Nat.le_of_ble_eq_true rfl) rfl dX9_keepsRoom_104 (s_X9_roomOf e (by omega)  h) (fun zz11 h => ?_)
    refine o_icmp_le 112 (pc := 107) dX9_keepsRoom_107 (by decide) (fun hc => ?_) (fun hc => ?_)
    · have h := oH_T hc h
      obtain ⟨zx12, hx⟩ : ∃ y : Int32, y = zv2 + (1 : Int32) := ⟨_, rfl⟩
      have h := oH_let h zx12 hx
      refine o_iinc (lv1 := [(0, orf 1000 0), (1, oi zv1), (2, oi zx12)]) (pc := 112) dX9_keepsRoom_112 2 rfl hx.symm (by decide) rfl ?_
      clear hx
      refine o_goto 14 (pc := 115) dX9_keepsRoom_115 (by decide) ?_
      exact hVH _ (oH_some (P := fun z => Sum.elim VH VE z) h)
    · have h := oH_F hc h
      refine o_iconst (v := 0) (pc := 110) dX9_keepsRoom_110 (by decide) ?_
      exact hE _ _ _ _ dX9_keepsRoom_111 (by decide) (hRet _ (oH_some (P := fun z => Sum.elim VH VE z) h))
theorem s_X9_keepsRoom_L14 {X : oX} {e : Nat} (he : 1 ≤ e) (hR : oRoom X (e + 1)) {zv1 : Int32}  {VE : (oS) ⊕ (Int32 × oS) → Prop} (hVE : ∀ z, VE (Sum.inl z) → oVv X mX9_keepsRoom 118 [(0, orf 1000 0), (1, oi zv1)] [] z) {PQ : Int32 × oS → Prop} (hE : oEZ X mX9_keepsRoom PQ) (hRet : ∀ z, VE (Sum.inr z) → PQ z) (n : Nat) (w : Int32 × oS) (h : oH (oLp (f_X9_keepsRoom_L14 zv1) n w) VE) : oVv X mX9_keepsRoom 14 [(0, orf 1000 0), (1, oi zv1), (2, oi w.1)] [] w.2 :=
  oLp_s (VH := fun w => oVv X mX9_keepsRoom 14 [(0, orf 1000 0), (1, oi zv1), (2, oi w.1)] [] w.2) (fun w h => s_X9_keepsRoom_L14b he hR  (fun _ h => h) hVE hE hRet h) n w h
def f_X9_keepsRoom_L2  : Int32 × oS → Option ((Int32 × oS) ⊕ ((oS) ⊕ (Int32 × oS))) := fun w =>
  match w with
  | (zv1, S) =>
    if (S.1 1000 0 34) ≤ (zv1 + (1 : Int32)) then (
    some (Sum.inr (Sum.inl S))) else (
    (oLp (f_X9_keepsRoom_L14 zv1) oFu ((0 : Int32), S)).bind fun w => Sum.elim (fun zz13 =>
    oLet (zv1 + (1 : Int32)) fun zx14 =>
    some (Sum.inl (zx14, zz13))) (fun r => some (Sum.inr (Sum.inr r))) w)
set_option maxHeartbeats 4000000 in
theorem s_X9_keepsRoom_L2b {X : oX} {e : Nat} (he : 1 ≤ e) (hR : oRoom X (e + 1))  {VH : Int32 × oS → Prop} {VE : (oS) ⊕ (Int32 × oS) → Prop} (hVH : ∀ z, VH z → oVv X mX9_keepsRoom 2 [(0, orf 1000 0), (1, oi z.1)] [] z.2) (hVE : ∀ z, VE (Sum.inl z) → oVv X mX9_keepsRoom 124 [] [] z) {PQ : Int32 × oS → Prop} (hE : oEZ X mX9_keepsRoom PQ) (hRet : ∀ z, VE (Sum.inr z) → PQ z) {zv1 : Int32} {S : oS} (h : oH (f_X9_keepsRoom_L2 (zv1, S)) (fun z => Sum.elim VH VE z)) : oVv X mX9_keepsRoom 2 [(0, orf 1000 0), (1, oi zv1)] [] S := by
  dsimp only [f_X9_keepsRoom_L2] at h
  refine o_iload_n (pc := 2) dX9_keepsRoom_2 rfl 1 rfl ?_
  refine o_iconst (v := 1) (pc := 3) dX9_keepsRoom_3 (by decide) ?_
  refine o_iadd (pc := 4) dX9_keepsRoom_4 ?_
  refine o_aload_n (pc := 5) dX9_keepsRoom_5 rfl 0 rfl ?_
  refine o_getI (pc := 6) fd_RX9_303 ft_1000_34 j_1000 dX9_keepsRoom_6 ?_
  refine o_icmp_ge 124 (pc := 9) dX9_keepsRoom_9 (by decide) (fun hc => ?_) (fun hc => ?_)
  · have h := oH_T hc h
    refine o_weak [] rfl ?_
    exact hVE _ (oH_some (P := fun z => Sum.elim VH VE z) h)
  · have h := oH_F hc h
    refine o_iconst (v := 0) (pc := 12) dX9_keepsRoom_12 (by decide) ?_
    refine o_istore_n (lv1 := [(0, orf 1000 0), (1, oi zv1), (2, oi (0 : Int32))]) (pc := 13) dX9_keepsRoom_13 rfl (by decide) rfl ?_
    have h := oH_bind h
    refine s_X9_keepsRoom_L14 he hR  ?_ hE ?_ _ ((0 : Int32), S) h
    · intro zz13 h
      have h := oElimL h
      obtain ⟨zx14, hx⟩ : ∃ y : Int32, y = zv1 + (1 : Int32) := ⟨_, rfl⟩
      have h := oH_let h zx14 hx
      refine o_iinc (lv1 := [(0, orf 1000 0), (1, oi zx14)]) (pc := 118) dX9_keepsRoom_118 1 rfl hx.symm (by decide) rfl ?_
      clear hx
      refine o_goto 2 (pc := 121) dX9_keepsRoom_121 (by decide) ?_
      exact hVH _ (oH_some (P := fun z => Sum.elim VH VE z) h)
    · intro r h
      have h := oElimR h
      exact hRet r (oH_some (P := fun z => Sum.elim VH VE z) h)
theorem s_X9_keepsRoom_L2 {X : oX} {e : Nat} (he : 1 ≤ e) (hR : oRoom X (e + 1))   {VE : (oS) ⊕ (Int32 × oS) → Prop} (hVE : ∀ z, VE (Sum.inl z) → oVv X mX9_keepsRoom 124 [] [] z) {PQ : Int32 × oS → Prop} (hE : oEZ X mX9_keepsRoom PQ) (hRet : ∀ z, VE (Sum.inr z) → PQ z) (n : Nat) (w : Int32 × oS) (h : oH (oLp (f_X9_keepsRoom_L2) n w) VE) : oVv X mX9_keepsRoom 2 [(0, orf 1000 0), (1, oi w.1)] [] w.2 :=
  oLp_s (VH := fun w => oVv X mX9_keepsRoom 2 [(0, orf 1000 0), (1, oi w.1)] [] w.2) (fun w h => s_X9_keepsRoom_L2b he hR  (fun _ h => h) hVE hE hRet h) n w h
def f_X9_keepsRoom   (S : oS) : Option (Int32 × oS) :=
  (oLp (f_X9_keepsRoom_L2) oFu ((0 : Int32), S)).bind fun w => Sum.elim (fun zz15 =>
  some ((1 : Int32), zz15)) (fun r => some r) w
set_option maxHeartbeats 4000000 in
theorem s_X9_keepsRoom {G : oG} {r : oR} (d : Nat) (hd : 2 ≤ d)   {S : oS} {P : Int32 × oS → Prop} (h : oH (f_X9_keepsRoom  S) P) : oCt G r d yX9_keepsRoom mX9_keepsRoom [orf 1000 0] S (oQi P) := by
  unfold f_X9_keepsRoom at h
  refine oCt_of (by decide) rfl (Nat.le_of_ble_eq_true rfl) ?_
  intro X hG hr hE0 hR
  subst hG; subst hr
  obtain ⟨e, rfl⟩ : ∃ e, d = e + 1 := ⟨d - 1, by omega⟩
  have he : 1 ≤ e := by omega
  have hE := oEZ_of hE0 rfl
  clear hE0 hd
  show oVv X mX9_keepsRoom 0 [(0, orf 1000 0)] [] S
  refine o_iconst (v := 0) (pc := 0) dX9_keepsRoom_0 (by decide) ?_
  refine o_istore_n (lv1 := [(0, orf 1000 0), (1, oi (0 : Int32))]) (pc := 1) dX9_keepsRoom_1 rfl (by decide) rfl ?_
  have h := oH_bind h
  refine s_X9_keepsRoom_L2 he hR  ?_ hE ?_ _ ((0 : Int32), S) h
  · intro zz15 h
    have h := oElimL h
    refine o_iconst (v := 1) (pc := 124) dX9_keepsRoom_124 (by decide) ?_
    exact hE _ _ _ _ dX9_keepsRoom_125 (by decide) (oH_some h)
  · intro r h
    have h := oElimR h
    exact oH_some (P := P) h
def f_X9_findPlan_L8  : Int32 × Int32 × oS → Option ((Int32 × Int32 × oS) ⊕ (Int32 × oS)) := fun w =>
  match w with
  | (zv1, zv2, S) =>
    if (S.1 1000 0 32) ≤ zv2 then (
    some (Sum.inr (zv1, S))) else (
    oLet ((zv1 * ((S.1 1000 0 57) + (1 : Int32)))) fun zx2 =>
    oLet (zv2 + (1 : Int32)) fun zx3 =>
    some (Sum.inl (zx2, zx3, S)))
set_option maxHeartbeats 4000000 in
theorem s_X9_findPlan_L8b {X : oX} {e : Nat} (he : 5 ≤ e) (hR : oRoom X (e + 1))  {VH : Int32 × Int32 × oS → Prop} {VE : Int32 × oS → Prop} (hVH : ∀ z, VH z → oVv X mX9_findPlan 8 [(0, orf 1000 0), (1, oi z.1), (2, oi z.2.1)] [] z.2.2) (hVE : ∀ z, VE z → oVv X mX9_findPlan 31 [(0, orf 1000 0), (1, oi z.1)] [] z.2) {zv1 : Int32} {zv2 : Int32} {S : oS} (h : oH (f_X9_findPlan_L8 (zv1, zv2, S)) (fun z => Sum.elim VH VE z)) : oVv X mX9_findPlan 8 [(0, orf 1000 0), (1, oi zv1), (2, oi zv2)] [] S := by
  dsimp only [f_X9_findPlan_L8] at h
  refine o_iload_n (pc := 8) dX9_findPlan_8 rfl 2 rfl ?_
  refine o_aload_n (pc := 9) dX9_findPlan_9 rfl 0 rfl ?_
  refine o_getI (pc := 10) fd_RX9_300 ft_1000_32 j_1000 dX9_findPlan_10 ?_
  refine o_icmp_ge 31 (pc := 13) dX9_findPlan_13 (by decide) (fun hc => ?_) (fun hc => ?_)
  · have h := oH_T hc h
    refine o_weak [0, 1] rfl ?_
    exact hVE _ (oH_some (P := fun z => Sum.elim VH VE z) h)
  · have h := oH_F hc h
    refine o_iload_n (pc := 16) dX9_findPlan_16 rfl 1 rfl ?_
    refine o_aload_n (pc := 17) dX9_findPlan_17 rfl 0 rfl ?_
    refine o_getI (pc := 18) fd_RX9_312 ft_1000_57 j_1000 dX9_findPlan_18 ?_
    refine o_iconst (v := 1) (pc := 21) dX9_findPlan_21 (by decide) ?_
    refine o_iadd (pc := 22) dX9_findPlan_22 ?_
    refine o_imul (pc := 23) dX9_findPlan_23 ?_
    refine o_nmI (fun zx2 hx => ?_)
    have h := oH_let h zx2 hx
    clear hx
    refine o_istore_n (lv1 := [(0, orf 1000 0), (1, oi zx2), (2, oi zv2)]) (pc := 24) dX9_findPlan_24 rfl (by decide) rfl ?_
    obtain ⟨zx3, hx⟩ : ∃ y : Int32, y = zv2 + (1 : Int32) := ⟨_, rfl⟩
    have h := oH_let h zx3 hx
    refine o_iinc (lv1 := [(0, orf 1000 0), (1, oi zx2), (2, oi zx3)]) (pc := 25) dX9_findPlan_25 2 rfl hx.symm (by decide) rfl ?_
    clear hx
    refine o_goto 8 (pc := 28) dX9_findPlan_28 (by decide) ?_
    exact hVH _ (oH_some (P := fun z => Sum.elim VH VE z) h)
theorem s_X9_findPlan_L8 {X : oX} {e : Nat} (he : 5 ≤ e) (hR : oRoom X (e + 1))   {VE : Int32 × oS → Prop} (hVE : ∀ z, VE z → oVv X mX9_findPlan 31 [(0, orf 1000 0), (1, oi z.1)] [] z.2) (n : Nat) (w : Int32 × Int32 × oS) (h : oH (oLp (f_X9_findPlan_L8) n w) VE) : oVv X mX9_findPlan 8 [(0, orf 1000 0), (1, oi w.1), (2, oi w.2.1)] [] w.2.2 :=
  oLp_s (VH := fun w => oVv X mX9_findPlan 8 [(0, orf 1000 0), (1, oi w.1), (2, oi w.2.1)] [] w.2.2) (fun w h => s_X9_findPlan_L8b he hR  (fun _ h => h) hVE h) n w h
def f_X9_findPlan_L35 (zv1 : Int32) : Int32 × Int32 × oS → Option ((Int32 × Int32 × oS) ⊕ (Int32 × oS)) := fun w =>
  match w with
  | (zv2, zv3, S) =>
    if zv1 ≤ zv3 then (
    some (Sum.inr (zv2, S))) else (
    (f_X9_layGiven zv3 S).bind fun zz5 =>
    if zz5.1 = 0 then (
    oLet (zv3 + (1 : Int32)) fun zx6 =>
    some (Sum.inl (zv2, zx6, zz5.2))) else (
    (f_X9_bakedMany zz5.2).bind fun zz7 =>
    if zz7.1 ≤ zv2 then (
    oLet (zv3 + (1 : Int32)) fun zx8 =>
    some (Sum.inl (zv2, zx8, zz7.2))) else (
    (f_X9_keepsRoom zz7.2).bind fun zz9 =>
    if zz9.1 = 0 then (
    oLet (zv3 + (1 : Int32)) fun zx10 =>
    some (Sum.inl (zv2, zx10, zz9.2))) else (
    (f_X9_bakedMany zz9.2).bind fun zz11 =>
    oLet (oStI zz11.2 1000 0 63 zv3) fun zS12 =>
    oLet (zv3 + (1 : Int32)) fun zx13 =>
    some (Sum.inl (zz11.1, zx13, zS12))))))
set_option maxHeartbeats 4000000 in
theorem s_X9_findPlan_L35b {X : oX} {e : Nat} (he : 5 ≤ e) (hR : oRoom X (e + 1)) {zv1 : Int32} {VH : Int32 × Int32 × oS → Prop} {VE : Int32 × oS → Prop} (hVH : ∀ z, VH z → oVv X mX9_findPlan 35 [(0, orf 1000 0), (1, oi zv1), (2, oi z.1), (3, oi z.2.1)] [] z.2.2) (hVE : ∀ z, VE z → oVv X mX9_findPlan 79 [(2, oi z.1)] [] z.2) {zv2 : Int32} {zv3 : Int32} {S : oS} (h : oH (f_X9_findPlan_L35 zv1 (zv2, zv3, S)) (fun z => Sum.elim VH VE z)) : oVv X mX9_findPlan 35 [(0, orf 1000 0), (1, oi zv1), (2, oi zv2), (3, oi zv3)] [] S := by
  dsimp only [f_X9_findPlan_L35] at h
  refine o_iload_n (pc := 35) dX9_findPlan_35 rfl 3 rfl ?_
  refine o_iload_n (pc := 36) dX9_findPlan_36 rfl 1 rfl ?_
  refine o_icmp_ge 79 (pc := 37) dX9_findPlan_37 (by decide) (fun hc => ?_) (fun hc => ?_)
  · have h := oH_T hc h
    refine o_weak [2] rfl ?_
    exact hVE _ (oH_some (P := fun z => Sum.elim VH VE z) h)
  · have h := oH_F hc h
    refine o_aload_n (pc := 40) dX9_findPlan_40 rfl 0 rfl ?_
    refine o_iload_n (pc := 41) dX9_findPlan_41 rfl 3 rfl ?_
    have h := oH_bind h
    refine o_callVi (pc := 42) (st := []) [oi zv3] hR md_X9_layGiven wd_1261 wd_1263 ws_47 tc_1000 j_1000 rfl (Nat.le_of_ble_eq_true rfl) rfl dX9_findPlan_42 (s_X9_layGiven e (by omega)  h) (fun zz5 h => ?_)
    refine o_if_eq 73 (pc := 45) dX9_findPlan_45 (by decide) (fun hc => ?_) (fun hc => ?_)
    · have h := oH_T hc h
      obtain ⟨zx6, hx⟩ : ∃ y : Int32, y = zv3 + (1 : Int32) := ⟨_, rfl⟩
      have h := oH_let h zx6 hx
      refine o_iinc (lv1 := [(0, orf 1000 0), (1, oi zv1), (2, oi zv2), (3, oi zx6)]) (pc := 73) dX9_findPlan_73 3 rfl hx.symm (by decide) rfl ?_
      clear hx
      refine o_goto 35 (pc := 76) dX9_findPlan_76 (by decide) ?_
      exact hVH _ (oH_some (P := fun z => Sum.elim VH VE z) h)
    · have h := oH_F hc h
      refine o_aload_n (pc := 48) dX9_findPlan_48 rfl 0 rfl ?_
      have h := oH_bind h
      refine o_callVi (pc := 49) (st := []) [] hR md_X9_bakedMany wd_1265 wd_1267 ws_48 tc_1000 j_1000 rfl (Nat.le_of_ble_eq_true rfl) rfl dX9_findPlan_49 (s_X9_bakedMany e (by omega)  h) (fun zz7 h => ?_)
      refine o_iload_n (pc := 52) dX9_findPlan_52 rfl 2 rfl ?_
      refine o_icmp_le 73 (pc := 53) dX9_findPlan_53 (by decide) (fun hc => ?_) (fun hc => ?_)
      · have h := oH_T hc h
        obtain ⟨zx8, hx⟩ : ∃ y : Int32, y = zv3 + (1 : Int32) := ⟨_, rfl⟩
        have h := oH_let h zx8 hx
        refine o_iinc (lv1 := [(0, orf 1000 0), (1, oi zv1), (2, oi zv2), (3, oi zx8)]) (pc := 73) dX9_findPlan_73 3 rfl hx.symm (by decide) rfl ?_
        clear hx
        refine o_goto 35 (pc := 76) dX9_findPlan_76 (by decide) ?_
        exact hVH _ (oH_some (P := fun z => Sum.elim VH VE z) h)
      · have h := oH_F hc h
        refine o_aload_n (pc := 56) dX9_findPlan_56 rfl 0 rfl ?_
        have h := oH_bind h
        refine o_callVi (pc := 57) (st := []) [] hR md_X9_keepsRoom wd_1269 wd_1271 ws_49 tc_1000 j_1000 rfl (Nat.le_of_ble_eq_true rfl) rfl dX9_findPlan_57 (s_X9_keepsRoom e (by omega)  h) (fun zz9 h => ?_)
        refine o_if_eq 73 (pc := 60) dX9_findPlan_60 (by decide) (fun hc => ?_) (fun hc => ?_)
        · have h := oH_T hc h
          obtain ⟨zx10, hx⟩ : ∃ y : Int32, y = zv3 + (1 : Int32) := ⟨_, rfl⟩
          have h := oH_let h zx10 hx
          refine o_iinc (lv1 := [(0, orf 1000 0), (1, oi zv1), (2, oi zv2), (3, oi zx10)]) (pc := 73) dX9_findPlan_73 3 rfl hx.symm (by decide) rfl ?_
          clear hx
          refine o_goto 35 (pc := 76) dX9_findPlan_76 (by decide) ?_
          exact hVH _ (oH_some (P := fun z => Sum.elim VH VE z) h)
        · have h := oH_F hc h
          refine o_aload_n (pc := 63) dX9_findPlan_63 rfl 0 rfl ?_
          have h := oH_bind h
          refine o_callVi (pc := 64) (st := []) [] hR md_X9_bakedMany wd_1265 wd_1267 ws_48 tc_1000 j_1000 rfl (Nat.le_of_ble_eq_true rfl) rfl dX9_findPlan_64 (s_X9_bakedMany e (by omega)  h) (fun zz11 h => ?_)
          refine o_istore_n (lv1 := [(0, orf 1000 0), (1, oi zv1), (2, oi zz11.1), (3, oi zv3)]) (pc := 67) dX9_findPlan_67 rfl (by decide) rfl ?_
          refine o_aload_n (pc := 68) dX9_findPlan_68 rfl 0 rfl ?_
          refine o_iload_n (pc := 69) dX9_findPlan_69 rfl 3 rfl ?_
          refine o_putI (pc := 70) fd_RX9_331 fp_1000_63 ft_1000_63 rfl rfl j_1000 dX9_findPlan_70 ?_
          refine o_nmS (fun zS12 hx => ?_)
          have h := oH_let h zS12 hx
          clear hx
          obtain ⟨zx13, hx⟩ : ∃ y : Int32, y = zv3 + (1 : Int32) := ⟨_, rfl⟩
          have h := oH_let h zx13 hx
          refine o_iinc (lv1 := [(0, orf 1000 0), (1, oi zv1), (2, oi zz11.1), (3, oi zx13)]) (pc := 73) dX9_findPlan_73 3 rfl hx.symm (by decide) rfl ?_
          clear hx
          refine o_goto 35 (pc := 76) dX9_findPlan_76 (by decide) ?_
          exact hVH _ (oH_some (P := fun z => Sum.elim VH VE z) h)
theorem s_X9_findPlan_L35 {X : oX} {e : Nat} (he : 5 ≤ e) (hR : oRoom X (e + 1)) {zv1 : Int32}  {VE : Int32 × oS → Prop} (hVE : ∀ z, VE z → oVv X mX9_findPlan 79 [(2, oi z.1)] [] z.2) (n : Nat) (w : Int32 × Int32 × oS) (h : oH (oLp (f_X9_findPlan_L35 zv1) n w) VE) : oVv X mX9_findPlan 35 [(0, orf 1000 0), (1, oi zv1), (2, oi w.1), (3, oi w.2.1)] [] w.2.2 :=
  oLp_s (VH := fun w => oVv X mX9_findPlan 35 [(0, orf 1000 0), (1, oi zv1), (2, oi w.1), (3, oi w.2.1)] [] w.2.2) (fun w h => s_X9_findPlan_L35b he hR  (fun _ h => h) hVE h) n w h
def f_X9_findPlan   (S : oS) : Option (Int32 × oS) :=
  (f_X9_layWays S).bind fun zz1 =>
  (oLp (f_X9_findPlan_L8) oFu ((1 : Int32), (0 : Int32), zz1)).bind fun zz4 =>
  (oLp (f_X9_findPlan_L35 zz4.1) oFu ((-1 : Int32), (0 : Int32), zz4.2)).bind fun zz14 =>
  some (zz14.1, zz14.2)
set_option maxHeartbeats 4000000 in
theorem s_X9_findPlan {G : oG} {r : oR} (d : Nat) (hd : 6 ≤ d)   {S : oS} {P : Int32 × oS → Prop} (h : oH (f_X9_findPlan  S) P) : oCt G r d yX9_findPlan mX9_findPlan [orf 1000 0] S (oQi P) := by
  unfold f_X9_findPlan at h
  refine oCt_of (by decide) rfl (Nat.le_of_ble_eq_true rfl) ?_
  intro X hG hr hE0 hR
  subst hG; subst hr
  obtain ⟨e, rfl⟩ : ∃ e, d = e + 1 := ⟨d - 1, by omega⟩
  have he : 5 ≤ e := by omega
  have hE := oEI_of hE0 rfl
  clear hE0 hd
  show oVv X mX9_findPlan 0 [(0, orf 1000 0)] [] S
  refine o_aload_n (pc := 0) dX9_findPlan_0 rfl 0 rfl ?_
  have h := oH_bind h
  refine o_callVv (pc := 1) (st := []) [] hR md_X9_layWays wd_1245 wd_1247 ws_43 tc_1000 j_1000 rfl (Nat.le_of_ble_eq_true rfl) rfl dX9_findPlan_1 (s_X9_layWays e (by omega)  h) (fun zz1 h => ?_)
  refine o_iconst (v := 1) (pc := 4) dX9_findPlan_4 (by decide) ?_
  refine o_istore_n (lv1 := [(0, orf 1000 0), (1, oi (1 : Int32))]) (pc := 5) dX9_findPlan_5 rfl (by decide) rfl ?_
  refine o_iconst (v := 0) (pc := 6) dX9_findPlan_6 (by decide) ?_
  refine o_istore_n (lv1 := [(0, orf 1000 0), (1, oi (1 : Int32)), (2, oi (0 : Int32))]) (pc := 7) dX9_findPlan_7 rfl (by decide) rfl ?_
  have h := oH_bind h
  refine s_X9_findPlan_L8 he hR  (fun zz4 h => ?_) _ ((1 : Int32), (0 : Int32), zz1) h
  refine o_iconst (v := -1) (pc := 31) dX9_findPlan_31 (by decide) ?_
  refine o_istore_n (lv1 := [(0, orf 1000 0), (1, oi zz4.1), (2, oi (-1 : Int32))]) (pc := 32) dX9_findPlan_32 rfl (by decide) rfl ?_
  refine o_iconst (v := 0) (pc := 33) dX9_findPlan_33 (by decide) ?_
  refine o_istore_n (lv1 := [(0, orf 1000 0), (1, oi zz4.1), (2, oi (-1 : Int32)), (3, oi (0 : Int32))]) (pc := 34) dX9_findPlan_34 rfl (by decide) rfl ?_
  have h := oH_bind h
  refine s_X9_findPlan_L35 he hR  (fun zz14 h => ?_) _ ((-1 : Int32), (0 : Int32), zz4.2) h
  refine o_iload_n (pc := 79) dX9_findPlan_79 rfl 0 rfl ?_
  exact hE _ _ _ _ dX9_findPlan_80 (oH_some h)
def f_X9_fire  (za1 : Int32) (S : oS) : Option (Int32 × oS) :=
  (f_X9_in za1 (0 : Int32) (2 : Int32) S).bind fun zz1 =>
  if zz1.1 = 0 then (
  some ((-2 : Int32), zz1.2)) else (
  oLet (zz1.2.1 1000 0 4) fun zx2 =>
  oLet (oStI zz1.2 1000 0 4 za1) fun zS3 =>
  some (zx2, zS3))
set_option maxHeartbeats 4000000 in
theorem s_X9_fire {G : oG} {r : oR} (d : Nat) (hd : 2 ≤ d) {za1 : Int32}  {S : oS} {P : Int32 × oS → Prop} (h : oH (f_X9_fire za1 S) P) : oCt G r d yX9_fire mX9_fire [orf 1000 0, oi za1] S (oQi P) := by
  unfold f_X9_fire at h
  refine oCt_of (by decide) rfl (Nat.le_of_ble_eq_true rfl) ?_
  intro X hG hr hE0 hR
  subst hG; subst hr
  obtain ⟨e, rfl⟩ : ∃ e, d = e + 1 := ⟨d - 1, by omega⟩
  have he : 1 ≤ e := by omega
  have hE := oEI_of hE0 rfl
  clear hE0 hd
  show oVv X mX9_fire 0 [(0, orf 1000 0), (1, oi za1)] [] S
  refine o_iload_n (pc := 0) dX9_fire_0 rfl 1 rfl ?_
  refine o_iconst (v := 0) (pc := 1) dX9_fire_1 (by decide) ?_
  refine o_iconst (v := 2) (pc := 2) dX9_fire_2 (by decide) ?_
  have h := oH_bind h
  refine o_callSi (pc := 3) (st := []) [oi za1, oi (0 : Int32), oi (2 : Int32)] hR md_X9_in wd_1061 wd_1062 rfl (Nat.le_of_ble_eq_true rfl) rfl dX9_fire_3 (s_X9_in e (by omega)  h) (fun zz1 h => ?_)
  refine o_if_ne 12 (pc := 6) dX9_fire_6 (by decide) (fun hc => ?_) (fun hc => ?_)
  · have h := oH_F hc h
    refine o_aload_n (pc := 12) dX9_fire_12 rfl 0 rfl ?_
    refine o_getI (pc := 13) fd_RX9_156 ft_1000_4 j_1000 dX9_fire_13 ?_
    refine o_nmI (fun zx2 hx => ?_)
    have h := oH_let h zx2 hx
    clear hx
    refine o_istore_n (lv1 := [(0, orf 1000 0), (1, oi za1), (2, oi zx2)]) (pc := 16) dX9_fire_16 rfl (by decide) rfl ?_
    refine o_aload_n (pc := 17) dX9_fire_17 rfl 0 rfl ?_
    refine o_iload_n (pc := 18) dX9_fire_18 rfl 1 rfl ?_
    refine o_putI (pc := 19) fd_RX9_156 fp_1000_4 ft_1000_4 rfl rfl j_1000 dX9_fire_19 ?_
    refine o_nmS (fun zS3 hx => ?_)
    have h := oH_let h zS3 hx
    clear hx
    refine o_iload_n (pc := 22) dX9_fire_22 rfl 2 rfl ?_
    exact hE _ _ _ _ dX9_fire_23 (oH_some h)
  · have h := oH_T hc h
    refine o_bipush (v := -2) (pc := 9) dX9_fire_9 (by decide) ?_
    exact hE _ _ _ _ dX9_fire_11 (oH_some h)
def f_X9_hasRoom  (za1 : Int32) (za2 : Int32) (S : oS) : Option (Int32 × oS) :=
  (f_X9_countRing za1 (-1 : Int32) S).bind fun zz1 =>
  (f_X9_countKind za2 zz1).bind fun zz2 =>
  (f_X9_used zz2).bind fun zz3 =>
  (f_X9_roomOf za1 zz3.2).bind fun zz4 =>
  if zz4.1 < zz3.1 then (
  some ((0 : Int32), zz4.2)) else (
  some ((1 : Int32), zz4.2))
set_option maxHeartbeats 4000000 in
theorem s_X9_hasRoom {G : oG} {r : oR} (d : Nat) (hd : 3 ≤ d) {za1 : Int32} {za2 : Int32}  {S : oS} {P : Int32 × oS → Prop} (h : oH (f_X9_hasRoom za1 za2 S) P) : oCt G r d yX9_hasRoom mX9_hasRoom [orf 1000 0, oi za1, oi za2] S (oQi P) := by
  unfold f_X9_hasRoom at h
  refine oCt_of (by decide) rfl (Nat.le_of_ble_eq_true rfl) ?_
  intro X hG hr hE0 hR
  subst hG; subst hr
  obtain ⟨e, rfl⟩ : ∃ e, d = e + 1 := ⟨d - 1, by omega⟩
  have he : 2 ≤ e := by omega
  have hE := oEZ_of hE0 rfl
  clear hE0 hd
  show oVv X mX9_hasRoom 0 [(0, orf 1000 0), (1, oi za1), (2, oi za2)] [] S
  refine o_aload_n (pc := 0) dX9_hasRoom_0 rfl 0 rfl ?_
  refine o_iload_n (pc := 1) dX9_hasRoom_1 rfl 1 rfl ?_
  refine o_iconst (v := -1) (pc := 2) dX9_hasRoom_2 (by decide) ?_
  have h := oH_bind h
  refine o_callVv (pc := 3) (st := []) [oi za1, oi (-1 : Int32)] hR md_X9_countRing wd_1174 wd_1176 ws_34 tc_1000 j_1000 rfl (Nat.le_of_ble_eq_true rfl) rfl dX9_hasRoom_3 (s_X9_countRing e (by omega)  h) (fun zz1 h => ?_)
  refine o_aload_n (pc := 6) dX9_hasRoom_6 rfl 0 rfl ?_
  refine o_iload_n (pc := 7) dX9_hasRoom_7 rfl 2 rfl ?_
  have h := oH_bind h
  refine o_callVv (pc := 8) (st := []) [oi za2] hR md_X9_countKind wd_1182 wd_1184 ws_36 tc_1000 j_1000 rfl (Nat.le_of_ble_eq_true rfl) rfl dX9_hasRoom_8 (s_X9_countKind e (by omega)  h) (fun zz2 h => ?_)
  refine o_aload_n (pc := 11) dX9_hasRoom_11 rfl 0 rfl ?_
  have h := oH_bind h
  refine o_callVi (pc := 12) (st := []) [] hR md_X9_used wd_1186 wd_1188 ws_37 tc_1000 j_1000 rfl (Nat.le_of_ble_eq_true rfl) rfl dX9_hasRoom_12 (s_X9_used e (by omega)  h) (fun zz3 h => ?_)
  refine o_iload_n (pc := 15) dX9_hasRoom_15 rfl 1 rfl ?_
  have h := oH_bind h
  refine o_callSi (pc := 16) (st := [oi zz3.1]) [oi za1] hR md_X9_roomOf wd_1190 wd_1191 rfl (Nat.le_of_ble_eq_true rfl) rfl dX9_hasRoom_16 (s_X9_roomOf e (by omega)  h) (fun zz4 h => ?_)
  refine o_icmp_gt 26 (pc := 19) dX9_hasRoom_19 (by decide) (fun hc => ?_) (fun hc => ?_)
  · have h := oH_T hc h
    refine o_iconst (v := 0) (pc := 26) dX9_hasRoom_26 (by decide) ?_
    exact hE _ _ _ _ dX9_hasRoom_27 (by decide) (oH_some h)
  · have h := oH_F hc h
    refine o_iconst (v := 1) (pc := 22) dX9_hasRoom_22 (by decide) ?_
    refine o_goto 27 (pc := 23) dX9_hasRoom_23 (by decide) ?_
    exact hE _ _ _ _ dX9_hasRoom_27 (by decide) (oH_some h)
def f_X9_heat  (za1 : Int32) (za2 : Int32) (za3 : Int32) (S : oS) : Option (Int64 × oS) :=
  (f_X9_isRing za1 S).bind fun zz1 =>
  if zz1.1 = 0 then (
  some ((-2 : Int64), zz1.2)) else (
  (f_X9_in za2 (0 : Int32) (2 : Int32) zz1.2).bind fun zz2 =>
  if zz2.1 = 0 then (
  some ((-2 : Int64), zz2.2)) else (
  (f_X9_in za3 (0 : Int32) (1 : Int32) zz2.2).bind fun zz3 =>
  if zz3.1 = 0 then (
  some ((-2 : Int64), zz3.2)) else (
  (f_X9_cellOf za1 za2 zz3.2).bind fun zz4 =>
  if oIn zz4.1 12 then (
  oLet (zz4.2.2 1002 0 (Int32.toNatClampNeg zz4.1)) fun zx5 =>
  if za3 = 0 then (
  some (zx5, zz4.2)) else (
  (f_X9_massOf za2 zz4.2).bind fun zz6 =>
  if ¬ (Int32.toInt64 zz6.1) = 0 then (
  some ((zx5 / (Int32.toInt64 zz6.1)), zz6.2)) else none)) else none)))
set_option maxHeartbeats 4000000 in
theorem s_X9_heat {G : oG} {r : oR} (d : Nat) (hd : 3 ≤ d) {za1 : Int32} {za2 : Int32} {za3 : Int32}  {S : oS} {P : Int64 × oS → Prop} (h : oH (f_X9_heat za1 za2 za3 S) P) : oCt G r d yX9_heat mX9_heat [orf 1000 0, oi za1, oi za2, oi za3] S (oQl P) := by
  unfold f_X9_heat at h
  refine oCt_of (by decide) rfl (Nat.le_of_ble_eq_true rfl) ?_
  intro X hG hr hE0 hR
  subst hG; subst hr
  obtain ⟨e, rfl⟩ : ∃ e, d = e + 1 := ⟨d - 1, by omega⟩
  have he : 2 ≤ e := by omega
  have hE := oEL_of hE0 rfl
  clear hE0 hd
  show oVv X mX9_heat 0 [(0, orf 1000 0), (1, oi za1), (2, oi za2), (3, oi za3)] [] S
  refine o_iload_n (pc := 0) dX9_heat_0 rfl 1 rfl ?_
  have h := oH_bind h
  refine o_callSi (pc := 1) (st := []) [oi za1] hR md_X9_isRing wd_1068 wd_1069 rfl (Nat.le_of_ble_eq_true rfl) rfl dX9_heat_1 (s_X9_isRing e (by omega)  h) (fun zz1 h => ?_)
  refine o_if_eq 25 (pc := 4) dX9_heat_4 (by decide) (fun hc => ?_) (fun hc => ?_)
  · have h := oH_T hc h
    refine o_ldc2 (v := -2) (pc := 25) dX9_heat_25 wd_1145 ?_
    exact hE _ _ _ _ dX9_heat_28 (oH_some h)
  · have h := oH_F hc h
    refine o_iload_n (pc := 7) dX9_heat_7 rfl 2 rfl ?_
    refine o_iconst (v := 0) (pc := 8) dX9_heat_8 (by decide) ?_
    refine o_iconst (v := 2) (pc := 9) dX9_heat_9 (by decide) ?_
    have h := oH_bind h
    refine o_callSi (pc := 10) (st := []) [oi za2, oi (0 : Int32), oi (2 : Int32)] hR md_X9_in wd_1061 wd_1062 rfl (Nat.le_of_ble_eq_true rfl) rfl dX9_heat_10 (s_X9_in e (by omega)  h) (fun zz2 h => ?_)
    refine o_if_eq 25 (pc := 13) dX9_heat_13 (by decide) (fun hc => ?_) (fun hc => ?_)
    · have h := oH_T hc h
      refine o_ldc2 (v := -2) (pc := 25) dX9_heat_25 wd_1145 ?_
      exact hE _ _ _ _ dX9_heat_28 (oH_some h)
    · have h := oH_F hc h
      refine o_iload_n (pc := 16) dX9_heat_16 rfl 3 rfl ?_
      refine o_iconst (v := 0) (pc := 17) dX9_heat_17 (by decide) ?_
      refine o_iconst (v := 1) (pc := 18) dX9_heat_18 (by decide) ?_
      have h := oH_bind h
      refine o_callSi (pc := 19) (st := []) [oi za3, oi (0 : Int32), oi (1 : Int32)] hR md_X9_in wd_1061 wd_1062 rfl (Nat.le_of_ble_eq_true rfl) rfl dX9_heat_19 (s_X9_in e (by omega)  h) (fun zz3 h => ?_)
      refine o_if_ne 29 (pc := 22) dX9_heat_22 (by decide) (fun hc => ?_) (fun hc => ?_)
      · have h := oH_F hc h
        refine o_aload_n (pc := 29) dX9_heat_29 rfl 0 rfl ?_
        refine o_getA (pc := 30) fd_RX9_13 ft_1000_1 j_1000 dX9_heat_30 ?_
        refine o_iload_n (pc := 33) dX9_heat_33 rfl 1 rfl ?_
        refine o_iload_n (pc := 34) dX9_heat_34 rfl 2 rfl ?_
        have h := oH_bind h
        refine o_callSi (pc := 35) (st := [orf 1002 0]) [oi za1, oi za2] hR md_X9_cellOf wd_1106 wd_1107 rfl (Nat.le_of_ble_eq_true rfl) rfl dX9_heat_35 (s_X9_cellOf e (by omega)  h) (fun zz4 h => ?_)
        obtain ⟨hg, h⟩ := oH_G h
        refine o_lald (pc := 38) kd_1002 j_1002 hg dX9_heat_38 ?_
        refine o_nmL (fun zx5 hx => ?_)
        have h := oH_let h zx5 hx
        clear hx
        refine o_lstore (lv1 := [(0, orf 1000 0), (1, oi za1), (2, oi za2), (3, oi za3), (4, ol zx5)]) (pc := 39) dX9_heat_39 (by decide) rfl ?_
        refine o_iload_n (pc := 41) dX9_heat_41 rfl 3 rfl ?_
        refine o_if_ne 50 (pc := 42) dX9_heat_42 (by decide) (fun hc => ?_) (fun hc => ?_)
        · have h := oH_F hc h
          refine o_lload (pc := 50) dX9_heat_50 4 rfl ?_
          refine o_iload_n (pc := 52) dX9_heat_52 rfl 2 rfl ?_
          have h := oH_bind h
          refine o_callSi (pc := 53) (st := [ol zx5]) [oi za2] hR md_X9_massOf wd_858 wd_859 rfl (Nat.le_of_ble_eq_true rfl) rfl dX9_heat_53 (s_X9_massOf e (by omega)  h) (fun zz6 h => ?_)
          refine o_i2l (pc := 56) dX9_heat_56 ?_
          obtain ⟨hg, h⟩ := oH_G h
          refine o_ldiv (pc := 57) dX9_heat_57 hg ?_
          exact hE _ _ _ _ dX9_heat_58 (oH_some h)
        · have h := oH_T hc h
          refine o_lload (pc := 45) dX9_heat_45 4 rfl ?_
          refine o_goto 58 (pc := 47) dX9_heat_47 (by decide) ?_
          exact hE _ _ _ _ dX9_heat_58 (oH_some h)
      · have h := oH_T hc h
        refine o_ldc2 (v := -2) (pc := 25) dX9_heat_25 wd_1145 ?_
        exact hE _ _ _ _ dX9_heat_28 (oH_some h)
