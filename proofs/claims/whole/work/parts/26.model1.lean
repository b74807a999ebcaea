def f_X9_in  (za0 : Int32) (za1 : Int32) (za2 : Int32) (S : oS) : Option (Int32 × oS) :=
  if za0 < za1 then (
  some ((0 : Int32), S)) else (
  if za2 < za0 then (
  some ((0 : Int32), S)) else (
  some ((1 : Int32), S)))
set_option maxHeartbeats 4000000 in
theorem s_X9_in {G : oG} {r : oR} (d : Nat) (hd : 1 ≤ d) {za0 : Int32} {za1 : Int32} {za2 : Int32}  {S : oS} {P : Int32 × oS → Prop} (h : oH (f_X9_in za0 za1 za2 S) P) : oCt G r d yX9_in mX9_in [oi za0, oi za1, oi za2] S (oQi P) := by
  unfold f_X9_in at h
  refine oCt_of (by decide) rfl (Nat.le_of_ble_eq_true rfl) ?_
  intro X hG hr hE0 hR
  subst hG; subst hr
  obtain ⟨e, rfl⟩ : ∃ e, d = e + 1 := ⟨d - 1, by omega⟩
  have he : 0 ≤ e := by omega
  have hE := oEZ_of hE0 rfl
  clear hE0 hd
  show oVv X mX9_in 0 [(0, oi za0), (1, oi za1), (2, oi za2)] [] S
  refine o_iload_n (pc := 0) dX9_in_0 rfl 0 rfl ?_
  refine o_iload_n (pc := 1) dX9_in_1 rfl 1 rfl ?_
  refine o_icmp_lt 14 (pc := 2) dX9_in_2 (by decide) (fun hc => ?_) (fun hc => ?_)
  · have h := oH_T hc h
    refine o_iconst (v := 0) (pc := 14) dX9_in_14 (by decide) ?_
    exact hE _ _ _ _ dX9_in_15 (by decide) (oH_some h)
  · have h := oH_F hc h
    refine o_iload_n (pc := 5) dX9_in_5 rfl 0 rfl ?_
    refine o_iload_n (pc := 6) dX9_in_6 rfl 2 rfl ?_
    refine o_icmp_gt 14 (pc := 7) dX9_in_7 (by decide) (fun hc => ?_) (fun hc => ?_)
    · have h := oH_T hc h
      refine o_iconst (v := 0) (pc := 14) dX9_in_14 (by decide) ?_
      exact hE _ _ _ _ dX9_in_15 (by decide) (oH_some h)
    · have h := oH_F hc h
      refine o_iconst (v := 1) (pc := 10) dX9_in_10 (by decide) ?_
      refine o_goto 15 (pc := 11) dX9_in_11 (by decide) ?_
      exact hE _ _ _ _ dX9_in_15 (by decide) (oH_some h)
def f_X9_air  (za1 : Int32) (S : oS) : Option (Int32 × oS) :=
  (f_X9_in za1 (0 : Int32) (40 : Int32) S).bind fun zz1 =>
  if zz1.1 = 0 then (
  some ((-2 : Int32), zz1.2)) else (
  oLet (zz1.2.1 1000 0 0) fun zx2 =>
  oLet (oStI zz1.2 1000 0 0 za1) fun zS3 =>
  some (zx2, zS3))
set_option maxHeartbeats 4000000 in
theorem s_X9_air {G : oG} {r : oR} (d : Nat) (hd : 2 ≤ d) {za1 : Int32}  {S : oS} {P : Int32 × oS → Prop} (h : oH (f_X9_air za1 S) P) : oCt G r d yX9_air mX9_air [orf 1000 0, oi za1] S (oQi P) := by
  unfold f_X9_air at h
  refine oCt_of (by decide) rfl (Nat.le_of_ble_eq_true rfl) ?_
  intro X hG hr hE0 hR
  subst hG; subst hr
  obtain ⟨e, rfl⟩ : ∃ e, d = e + 1 := ⟨d - 1, by omega⟩
  have he : 1 ≤ e := by omega
  have hE := oEI_of hE0 rfl
  clear hE0 hd
  show oVv X mX9_air 0 [(0, orf 1000 0), (1, oi za1)] [] S
  refine o_iload_n (pc := 0) dX9_air_0 rfl 1 rfl ?_
  refine o_iconst (v := 0) (pc := 1) dX9_air_1 (by decide) ?_
  refine o_bipush (v := 40) (pc := 2) dX9_air_2 (by decide) ?_
  have h := oH_bind h
  refine o_callSi (pc := 4) (st := []) [oi za1, oi (0 : Int32), oi (40 : Int32)] hR md_X9_in wd_1061 wd_1062 rfl (Nat.le_of_ble_eq_true rfl) rfl dX9_air_4 (s_X9_in e (by omega)  h) (fun zz1 h => ?_)
  refine o_if_ne 13 (pc := 7) dX9_air_7 (by decide) (fun hc => ?_) (fun hc => ?_)
  · have h := oH_F hc h
    refine o_aload_n (pc := 13) dX9_air_13 rfl 0 rfl ?_
    refine o_getI (pc := 14) fd_RX9_7 ft_1000_0 j_1000 dX9_air_14 ?_
    refine o_nmI (fun zx2 hx => ?_)
    have h := oH_let h zx2 hx
    clear hx
    refine o_istore_n (lv1 := [(0, orf 1000 0), (1, oi za1), (2, oi zx2)]) (pc := 17) dX9_air_17 rfl (by decide) rfl ?_
    refine o_aload_n (pc := 18) dX9_air_18 rfl 0 rfl ?_
    refine o_iload_n (pc := 19) dX9_air_19 rfl 1 rfl ?_
    refine o_putI (pc := 20) fd_RX9_7 fp_1000_0 ft_1000_0 rfl rfl j_1000 dX9_air_20 ?_
    refine o_nmS (fun zS3 hx => ?_)
    have h := oH_let h zS3 hx
    clear hx
    refine o_iload_n (pc := 23) dX9_air_23 rfl 2 rfl ?_
    exact hE _ _ _ _ dX9_air_24 (oH_some h)
  · have h := oH_T hc h
    refine o_bipush (v := -2) (pc := 10) dX9_air_10 (by decide) ?_
    exact hE _ _ _ _ dX9_air_12 (oH_some h)
def f_X9_isWeek  (za0 : Int32) (S : oS) : Option (Int32 × oS) :=
  (f_X9_in za0 (0 : Int32) (60 : Int32) S).bind fun zz1 =>
  if oBl zz1.1 then (
  some (zz1.1, zz1.2)) else none
set_option maxHeartbeats 4000000 in
theorem s_X9_isWeek {G : oG} {r : oR} (d : Nat) (hd : 2 ≤ d) {za0 : Int32}  {S : oS} {P : Int32 × oS → Prop} (h : oH (f_X9_isWeek za0 S) P) : oCt G r d yX9_isWeek mX9_isWeek [oi za0] S (oQi P) := by
  unfold f_X9_isWeek at h
  refine oCt_of (by decide) rfl (Nat.le_of_ble_eq_true rfl) ?_
  intro X hG hr hE0 hR
  subst hG; subst hr
  obtain ⟨e, rfl⟩ : ∃ e, d = e + 1 := ⟨d - 1, by omega⟩
  have he : 1 ≤ e := by omega
  have hE := oEZ_of hE0 rfl
  clear hE0 hd
  show oVv X mX9_isWeek 0 [(0, oi za0)] [] S
  refine o_iload_n (pc := 0) dX9_isWeek_0 rfl 0 rfl ?_
  refine o_iconst (v := 0) (pc := 1) dX9_isWeek_1 (by decide) ?_
  refine o_bipush (v := 60) (pc := 2) dX9_isWeek_2 (by decide) ?_
  have h := oH_bind h
  refine o_callSi (pc := 4) (st := []) [oi za0, oi (0 : Int32), oi (60 : Int32)] hR md_X9_in wd_1061 wd_1062 rfl (Nat.le_of_ble_eq_true rfl) rfl dX9_isWeek_4 (s_X9_in e (by omega)  h) (fun zz1 h => ?_)
  obtain ⟨hg, h⟩ := oH_G h
  exact hE _ _ _ _ dX9_isWeek_7 hg (oH_some h)
def f_X9_change  (za1 : Int32) (za2 : Int32) (S : oS) : Option (oS) :=
  if oIn za1 8 then (
  oLet (S.1 1065 0 (Int32.toNatClampNeg za1)) fun zx1 =>
  if oIn za2 8 then (
  if oIn za1 8 then (
  oLet (oStI S 1065 0 (Int32.toNatClampNeg za1) (S.1 1065 0 (Int32.toNatClampNeg za2))) fun zS2 =>
  if oIn za2 8 then (
  oLet (oStI zS2 1065 0 (Int32.toNatClampNeg za2) zx1) fun zS3 =>
  some zS3) else none) else none) else none) else none
set_option maxHeartbeats 4000000 in
theorem s_X9_change {G : oG} {r : oR} (d : Nat) (hd : 1 ≤ d) {za1 : Int32} {za2 : Int32}  {S : oS} {P : oS → Prop} (h : oH (f_X9_change za1 za2 S) P) : oCt G r d yX9_change mX9_change [orf 1000 0, oi za1, oi za2] S (oQv P) := by
  unfold f_X9_change at h
  refine oCt_of (by decide) rfl (Nat.le_of_ble_eq_true rfl) ?_
  intro X hG hr hE0 hR
  subst hG; subst hr
  obtain ⟨e, rfl⟩ : ∃ e, d = e + 1 := ⟨d - 1, by omega⟩
  have he : 0 ≤ e := by omega
  have hE := oEV_of hE0 rfl
  clear hE0 hd
  show oVv X mX9_change 0 [(0, orf 1000 0), (1, oi za1), (2, oi za2)] [] S
  refine o_aload_n (pc := 0) dX9_change_0 rfl 0 rfl ?_
  refine o_getA (pc := 1) fd_RX9_139 ft_1000_64 j_1000 dX9_change_1 ?_
  refine o_iload_n (pc := 4) dX9_change_4 rfl 1 rfl ?_
  obtain ⟨hg, h⟩ := oH_G h
  refine o_iald (pc := 5) kd_1065 j_1065 hg dX9_change_5 ?_
  refine o_nmI (fun zx1 hx => ?_)
  have h := oH_let h zx1 hx
  clear hx
  refine o_istore_n (lv1 := [(0, orf 1000 0), (1, oi za1), (2, oi za2), (3, oi zx1)]) (pc := 6) dX9_change_6 rfl (by decide) rfl ?_
  refine o_aload_n (pc := 7) dX9_change_7 rfl 0 rfl ?_
  refine o_getA (pc := 8) fd_RX9_139 ft_1000_64 j_1000 dX9_change_8 ?_
  refine o_iload_n (pc := 11) dX9_change_11 rfl 1 rfl ?_
  refine o_aload_n (pc := 12) dX9_change_12 rfl 0 rfl ?_
  refine o_getA (pc := 13) fd_RX9_139 ft_1000_64 j_1000 dX9_change_13 ?_
  refine o_iload_n (pc := 16) dX9_change_16 rfl 2 rfl ?_
  obtain ⟨hg, h⟩ := oH_G h
  refine o_iald (pc := 17) kd_1065 j_1065 hg dX9_change_17 ?_
  obtain ⟨hg, h⟩ := oH_G h
  have hgi := hg
  refine o_iast (pc := 18) kd_1065 j_1065 hgi dX9_change_18 ?_
  refine o_nmS (fun zS2 hx => ?_)
  have h := oH_let h zS2 hx
  clear hx
  refine o_aload_n (pc := 19) dX9_change_19 rfl 0 rfl ?_
  refine o_getA (pc := 20) fd_RX9_139 ft_1000_64 j_1000 dX9_change_20 ?_
  refine o_iload_n (pc := 23) dX9_change_23 rfl 2 rfl ?_
  refine o_iload_n (pc := 24) dX9_change_24 rfl 3 rfl ?_
  obtain ⟨hg, h⟩ := oH_G h
  have hgi := hg
  refine o_iast (pc := 25) kd_1065 j_1065 hgi dX9_change_25 ?_
  refine o_nmS (fun zS3 hx => ?_)
  have h := oH_let h zS3 hx
  clear hx
  exact hE _ _ _ dX9_change_26 (oH_some h)
def f_X9_placeOf_L2 (zv1 : Int32) : Int32 × oS → Option ((Int32 × oS) ⊕ (Int32 × oS)) := fun w =>
  match w with
  | (zv2, S) =>
    if oIn zv2 8 then (
    if (S.1 1065 0 (Int32.toNatClampNeg zv2)) = zv1 then (
    some (Sum.inr (zv2, S))) else (
    oLet (zv2 + (1 : Int32)) fun zx1 =>
    some (Sum.inl (zx1, S)))) else none
set_option maxHeartbeats 4000000 in
theorem s_X9_placeOf_L2b {X : oX} {e : Nat} (he : 0 ≤ e) (hR : oRoom X (e + 1)) {zv1 : Int32} {VH : Int32 × oS → Prop} {VE : Int32 × oS → Prop} (hVH : ∀ z, VH z → oVv X mX9_placeOf 2 [(0, orf 1000 0), (1, oi zv1), (2, oi z.1)] [] z.2) (hVE : ∀ z, VE z → oVv X mX9_placeOf 18 [(2, oi z.1)] [] z.2) {zv2 : Int32} {S : oS} (h : oH (f_X9_placeOf_L2 zv1 (zv2, S)) (fun z => Sum.elim VH VE z)) : oVv X mX9_placeOf 2 [(0, orf 1000 0), (1, oi zv1), (2, oi zv2)] [] S := by
  dsimp only [f_X9_placeOf_L2] at h
  refine o_aload_n (pc := 2) dX9_placeOf_2 rfl 0 rfl ?_
  refine o_getA (pc := 3) fd_RX9_139 ft_1000_64 j_1000 dX9_placeOf_3 ?_
  refine o_iload_n (pc := 6) dX9_placeOf_6 rfl 2 rfl ?_
  obtain ⟨hg, h⟩ := oH_G h
  refine o_iald (pc := 7) kd_1065 j_1065 hg dX9_placeOf_7 ?_
  refine o_iload_n (pc := 8) dX9_placeOf_8 rfl 1 rfl ?_
  refine o_icmp_eq 18 (pc := 9) dX9_placeOf_9 (by decide) (fun hc => ?_) (fun hc => ?_)
  · have h := oH_T hc h
    refine o_weak [2] rfl ?_
    exact hVE _ (oH_some (P := fun z => Sum.elim VH VE z) h)
  · have h := oH_F hc h
    obtain ⟨zx1, hx⟩ : ∃ y : Int32, y = zv2 + (1 : Int32) := ⟨_, rfl⟩
    have h := oH_let h zx1 hx
    refine o_iinc (lv1 := [(0, orf 1000 0), (1, oi zv1), (2, oi zx1)]) (pc := 12) dX9_placeOf_12 2 rfl hx.symm (by decide) rfl ?_
    clear hx
    refine o_goto 2 (pc := 15) dX9_placeOf_15 (by decide) ?_
    exact hVH _ (oH_some (P := fun z => Sum.elim VH VE z) h)
theorem s_X9_placeOf_L2 {X : oX} {e : Nat} (he : 0 ≤ e) (hR : oRoom X (e + 1)) {zv1 : Int32}  {VE : Int32 × oS → Prop} (hVE : ∀ z, VE z → oVv X mX9_placeOf 18 [(2, oi z.1)] [] z.2) (n : Nat) (w : Int32 × oS) (h : oH (oLp (f_X9_placeOf_L2 zv1) n w) VE) : oVv X mX9_placeOf 2 [(0, orf 1000 0), (1, oi zv1), (2, oi w.1)] [] w.2 :=
  oLp_s (VH := fun w => oVv X mX9_placeOf 2 [(0, orf 1000 0), (1, oi zv1), (2, oi w.1)] [] w.2) (fun w h => s_X9_placeOf_L2b he hR  (fun _ h => h) hVE h) n w h
def f_X9_placeOf  (za1 : Int32) (S : oS) : Option (Int32 × oS) :=
  (oLp (f_X9_placeOf_L2 za1) oFu ((0 : Int32), S)).bind fun zz2 =>
  some (zz2.1, zz2.2)
set_option maxHeartbeats 4000000 in
theorem s_X9_placeOf {G : oG} {r : oR} (d : Nat) (hd : 1 ≤ d) {za1 : Int32}  {S : oS} {P : Int32 × oS → Prop} (h : oH (f_X9_placeOf za1 S) P) : oCt G r d yX9_placeOf mX9_placeOf [orf 1000 0, oi za1] S (oQi P) := by
  unfold f_X9_placeOf at h
  refine oCt_of (by decide) rfl (Nat.le_of_ble_eq_true rfl) ?_
  intro X hG hr hE0 hR
  subst hG; subst hr
  obtain ⟨e, rfl⟩ : ∃ e, d = e + 1 := ⟨d - 1, by omega⟩
  have he : 0 ≤ e := by omega
  have hE := oEI_of hE0 rfl
  clear hE0 hd
  show oVv X mX9_placeOf 0 [(0, orf 1000 0), (1, oi za1)] [] S
  refine o_iconst (v := 0) (pc := 0) dX9_placeOf_0 (by decide) ?_
  refine o_istore_n (lv1 := [(0, orf 1000 0), (1, oi za1), (2, oi (0 : Int32))]) (pc := 1) dX9_placeOf_1 rfl (by decide) rfl ?_
  have h := oH_bind h
  refine s_X9_placeOf_L2 he hR  (fun zz2 h => ?_) _ ((0 : Int32), S) h
  refine o_iload_n (pc := 18) dX9_placeOf_18 rfl 0 rfl ?_
  exact hE _ _ _ _ dX9_placeOf_19 (oH_some h)
def f_X9_give_L17 (zv2 : Int32) (zv3 : Int32) : Int32 × oS → Option ((Int32 × oS) ⊕ (oS)) := fun w =>
  match w with
  | (zv5, S) =>
    if (S.1 1000 0 36) ≤ (zv5 + (1 : Int32)) then (
    some (Sum.inr S)) else (
    if oIn (zv5 + (1 : Int32)) 8 then (
    if oIn zv5 8 then (
    oLet (oStI S 1065 0 (Int32.toNatClampNeg zv5) (S.1 1065 0 (Int32.toNatClampNeg (zv5 + (1 : Int32))))) fun zS3 =>
    oLet (zv5 + (1 : Int32)) fun zx4 =>
    some (Sum.inl (zx4, zS3))) else none) else none)
set_option maxHeartbeats 4000000 in
theorem s_X9_give_L17b {X : oX} {e : Nat} (he : 1 ≤ e) (hR : oRoom X (e + 1)) {zv2 : Int32} {zv3 : Int32} {VH : Int32 × oS → Prop} {VE : oS → Prop} (hVH : ∀ z, VH z → oVv X mX9_give 17 [(0, orf 1000 0), (2, oi zv2), (3, oi zv3), (5, oi z.1)] [] z.2) (hVE : ∀ z, VE z → oVv X mX9_give 50 [(0, orf 1000 0), (2, oi zv2), (3, oi zv3)] [] z) {zv5 : Int32} {S : oS} (h : oH (f_X9_give_L17 zv2 zv3 (zv5, S)) (fun z => Sum.elim VH VE z)) : oVv X mX9_give 17 [(0, orf 1000 0), (2, oi zv2), (3, oi zv3), (5, oi zv5)] [] S := by
  dsimp only [f_X9_give_L17] at h
  refine o_iload (pc := 17) dX9_give_17 3 rfl ?_
  refine o_iconst (v := 1) (pc := 19) dX9_give_19 (by decide) ?_
  refine o_iadd (pc := 20) dX9_give_20 ?_
  refine o_aload_n (pc := 21) dX9_give_21 rfl 0 rfl ?_
  refine o_getI (pc := 22) fd_RX9_85 ft_1000_36 j_1000 dX9_give_22 ?_
  refine o_icmp_ge 50 (pc := 25) dX9_give_25 (by decide) (fun hc => ?_) (fun hc => ?_)
  · have h := oH_T hc h
    refine o_weak [0, 1, 2] rfl ?_
    exact hVE _ (oH_some (P := fun z => Sum.elim VH VE z) h)
  · have h := oH_F hc h
    refine o_aload_n (pc := 28) dX9_give_28 rfl 0 rfl ?_
    refine o_getA (pc := 29) fd_RX9_139 ft_1000_64 j_1000 dX9_give_29 ?_
    refine o_iload (pc := 32) dX9_give_32 3 rfl ?_
    refine o_aload_n (pc := 34) dX9_give_34 rfl 0 rfl ?_
    refine o_getA (pc := 35) fd_RX9_139 ft_1000_64 j_1000 dX9_give_35 ?_
    refine o_iload (pc := 38) dX9_give_38 3 rfl ?_
    refine o_iconst (v := 1) (pc := 40) dX9_give_40 (by decide) ?_
    refine o_iadd (pc := 41) dX9_give_41 ?_
    obtain ⟨hg, h⟩ := oH_G h
    refine o_iald (pc := 42) kd_1065 j_1065 hg dX9_give_42 ?_
    obtain ⟨hg, h⟩ := oH_G h
    have hgi := hg
    refine o_iast (pc := 43) kd_1065 j_1065 hgi dX9_give_43 ?_
    refine o_nmS (fun zS3 hx => ?_)
    have h := oH_let h zS3 hx
    clear hx
    obtain ⟨zx4, hx⟩ : ∃ y : Int32, y = zv5 + (1 : Int32) := ⟨_, rfl⟩
    have h := oH_let h zx4 hx
    refine o_iinc (lv1 := [(0, orf 1000 0), (2, oi zv2), (3, oi zv3), (5, oi zx4)]) (pc := 44) dX9_give_44 3 rfl hx.symm (by decide) rfl ?_
    clear hx
    refine o_goto 17 (pc := 47) dX9_give_47 (by decide) ?_
    exact hVH _ (oH_some (P := fun z => Sum.elim VH VE z) h)
theorem s_X9_give_L17 {X : oX} {e : Nat} (he : 1 ≤ e) (hR : oRoom X (e + 1)) {zv2 : Int32} {zv3 : Int32}  {VE : oS → Prop} (hVE : ∀ z, VE z → oVv X mX9_give 50 [(0, orf 1000 0), (2, oi zv2), (3, oi zv3)] [] z) (n : Nat) (w : Int32 × oS) (h : oH (oLp (f_X9_give_L17 zv2 zv3) n w) VE) : oVv X mX9_give 17 [(0, orf 1000 0), (2, oi zv2), (3, oi zv3), (5, oi w.1)] [] w.2 :=
  oLp_s (VH := fun w => oVv X mX9_give 17 [(0, orf 1000 0), (2, oi zv2), (3, oi zv3), (5, oi w.1)] [] w.2) (fun w h => s_X9_give_L17b he hR  (fun _ h => h) hVE h) n w h
def f_X9_give_L58 (zv2 : Int32) (zv3 : Int32) : Int32 × oS → Option ((Int32 × oS) ⊕ (oS)) := fun w =>
  match w with
  | (zv5, S) =>
    if zv5 ≤ zv3 then (
    some (Sum.inr S)) else (
    if oIn (zv5 - (1 : Int32)) 8 then (
    if oIn zv5 8 then (
    oLet (oStI S 1065 0 (Int32.toNatClampNeg zv5) (S.1 1065 0 (Int32.toNatClampNeg (zv5 - (1 : Int32))))) fun zS7 =>
    oLet (zv5 + (-1 : Int32)) fun zx8 =>
    some (Sum.inl (zx8, zS7))) else none) else none)
set_option maxHeartbeats 4000000 in
theorem s_X9_give_L58b {X : oX} {e : Nat} (he : 1 ≤ e) (hR : oRoom X (e + 1)) {zv2 : Int32} {zv3 : Int32} {VH : Int32 × oS → Prop} {VE : oS → Prop} (hVH : ∀ z, VH z → oVv X mX9_give 58 [(0, orf 1000 0), (2, oi zv2), (3, oi zv3), (5, oi z.1)] [] z.2) (hVE : ∀ z, VE z → oVv X mX9_give 86 [(0, orf 1000 0), (2, oi zv2), (3, oi zv3)] [] z) {zv5 : Int32} {S : oS} (h : oH (f_X9_give_L58 zv2 zv3 (zv5, S)) (fun z => Sum.elim VH VE z)) : oVv X mX9_give 58 [(0, orf 1000 0), (2, oi zv2), (3, oi zv3), (5, oi zv5)] [] S := by
  dsimp only [f_X9_give_L58] at h
  refine o_iload (pc := 58) dX9_give_58 3 rfl ?_
  refine o_iload_n (pc := 60) dX9_give_60 rfl 2 rfl ?_
  refine o_icmp_le 86 (pc := 61) dX9_give_61 (by decide) (fun hc => ?_) (fun hc => ?_)
  · have h := oH_T hc h
    refine o_weak [0, 1, 2] rfl ?_
    exact hVE _ (oH_some (P := fun z => Sum.elim VH VE z) h)
  · have h := oH_F hc h
    refine o_aload_n (pc := 64) dX9_give_64 rfl 0 rfl ?_
    refine o_getA (pc := 65) fd_RX9_139 ft_1000_64 j_1000 dX9_give_65 ?_
    refine o_iload (pc := 68) dX9_give_68 3 rfl ?_
    refine o_aload_n (pc := 70) dX9_give_70 rfl 0 rfl ?_
    refine o_getA (pc := 71) fd_RX9_139 ft_1000_64 j_1000 dX9_give_71 ?_
    refine o_iload (pc := 74) dX9_give_74 3 rfl ?_
    refine o_iconst (v := 1) (pc := 76) dX9_give_76 (by decide) ?_
    refine o_isub (pc := 77) dX9_give_77 ?_
    obtain ⟨hg, h⟩ := oH_G h
    refine o_iald (pc := 78) kd_1065 j_1065 hg dX9_give_78 ?_
    obtain ⟨hg, h⟩ := oH_G h
    have hgi := hg
    refine o_iast (pc := 79) kd_1065 j_1065 hgi dX9_give_79 ?_
    refine o_nmS (fun zS7 hx => ?_)
    have h := oH_let h zS7 hx
    clear hx
    obtain ⟨zx8, hx⟩ : ∃ y : Int32, y = zv5 + (-1 : Int32) := ⟨_, rfl⟩
    have h := oH_let h zx8 hx
    refine o_iinc (lv1 := [(0, orf 1000 0), (2, oi zv2), (3, oi zv3), (5, oi zx8)]) (pc := 80) dX9_give_80 3 rfl hx.symm (by decide) rfl ?_
    clear hx
    refine o_goto 58 (pc := 83) dX9_give_83 (by decide) ?_
    exact hVH _ (oH_some (P := fun z => Sum.elim VH VE z) h)
theorem s_X9_give_L58 {X : oX} {e : Nat} (he : 1 ≤ e) (hR : oRoom X (e + 1)) {zv2 : Int32} {zv3 : Int32}  {VE : oS → Prop} (hVE : ∀ z, VE z → oVv X mX9_give 86 [(0, orf 1000 0), (2, oi zv2), (3, oi zv3)] [] z) (n : Nat) (w : Int32 × oS) (h : oH (oLp (f_X9_give_L58 zv2 zv3) n w) VE) : oVv X mX9_give 58 [(0, orf 1000 0), (2, oi zv2), (3, oi zv3), (5, oi w.1)] [] w.2 :=
  oLp_s (VH := fun w => oVv X mX9_give 58 [(0, orf 1000 0), (2, oi zv2), (3, oi zv3), (5, oi w.1)] [] w.2) (fun w h => s_X9_give_L58b he hR  (fun _ h => h) hVE h) n w h
def f_X9_give  (za1 : Int32) (za2 : Int32) (S : oS) : Option (oS) :=
  (f_X9_placeOf za1 S).bind fun zz1 =>
  (f_X9_placeOf za2 zz1.2).bind fun zz2 =>
  (oLp (f_X9_give_L17 za2 zz1.1) oFu (zz2.1, zz2.2)).bind fun zz5 =>
  oLet (((zz5.1 1000 0 36) - (1 : Int32))) fun zx6 =>
  (oLp (f_X9_give_L58 za2 zz1.1) oFu (zx6, zz5)).bind fun zz9 =>
  if oIn zz1.1 8 then (
  oLet (oStI zz9 1065 0 (Int32.toNatClampNeg zz1.1) za2) fun zS10 =>
  some zS10) else none
set_option maxHeartbeats 4000000 in
theorem s_X9_give {G : oG} {r : oR} (d : Nat) (hd : 2 ≤ d) {za1 : Int32} {za2 : Int32}  {S : oS} {P : oS → Prop} (h : oH (f_X9_give za1 za2 S) P) : oCt G r d yX9_give mX9_give [orf 1000 0, oi za1, oi za2] S (oQv P) := by
  unfold f_X9_give at h
  refine oCt_of (by decide) rfl (Nat.le_of_ble_eq_true rfl) ?_
  intro X hG hr hE0 hR
  subst hG; subst hr
  obtain ⟨e, rfl⟩ : ∃ e, d = e + 1 := ⟨d - 1, by omega⟩
  have he : 1 ≤ e := by omega
  have hE := oEV_of hE0 rfl
  clear hE0 hd
  show oVv X mX9_give 0 [(0, orf 1000 0), (1, oi za1), (2, oi za2)] [] S
  refine o_aload_n (pc := 0) dX9_give_0 rfl 0 rfl ?_
  refine o_iload_n (pc := 1) dX9_give_1 rfl 1 rfl ?_
  have h := oH_bind h
  refine o_callVi (pc := 2) (st := []) [oi za1] hR md_X9_placeOf wd_1328 wd_1330 ws_54 tc_1000 j_1000 rfl (Nat.le_of_ble_eq_true rfl) rfl dX9_give_2 (s_X9_placeOf e (by omega)  h) (fun zz1 h => ?_)
  refine o_istore_n (lv1 := [(0, orf 1000 0), (1, oi za1), (2, oi za2), (3, oi zz1.1)]) (pc := 5) dX9_give_5 rfl (by decide) rfl ?_
  refine o_aload_n (pc := 6) dX9_give_6 rfl 0 rfl ?_
  refine o_iload_n (pc := 7) dX9_give_7 rfl 2 rfl ?_
  have h := oH_bind h
  refine o_callVi (pc := 8) (st := []) [oi za2] hR md_X9_placeOf wd_1328 wd_1330 ws_54 tc_1000 j_1000 rfl (Nat.le_of_ble_eq_true rfl) rfl dX9_give_8 (s_X9_placeOf e (by omega)  h) (fun zz2 h => ?_)
  refine o_istore (lv1 := [(0, orf 1000 0), (1, oi za1), (2, oi za2), (3, oi zz1.1), (4, oi zz2.1)]) (pc := 11) dX9_give_11 (by decide) rfl ?_
  refine o_iload (pc := 13) dX9_give_13 4 rfl ?_
  refine o_istore (lv1 := [(0, orf 1000 0), (1, oi za1), (2, oi za2), (3, oi zz1.1), (4, oi zz2.1), (5, oi zz2.1)]) (pc := 15) dX9_give_15 (by decide) rfl ?_
  refine o_weak [0, 2, 3, 5] rfl ?_
  have h := oH_bind h
  refine s_X9_give_L17 he hR  (fun zz5 h => ?_) _ (zz2.1, zz2.2) h
  refine o_aload_n (pc := 50) dX9_give_50 rfl 0 rfl ?_
  refine o_getI (pc := 51) fd_RX9_85 ft_1000_36 j_1000 dX9_give_51 ?_
  refine o_iconst (v := 1) (pc := 54) dX9_give_54 (by decide) ?_
  refine o_isub (pc := 55) dX9_give_55 ?_
  refine o_nmI (fun zx6 hx => ?_)
  have h := oH_let h zx6 hx
  clear hx
  refine o_istore (lv1 := [(0, orf 1000 0), (2, oi za2), (3, oi zz1.1), (5, oi zx6)]) (pc := 56) dX9_give_56 (by decide) rfl ?_
  have h := oH_bind h
  refine s_X9_give_L58 he hR  (fun zz9 h => ?_) _ (zx6, zz5) h
  refine o_aload_n (pc := 86) dX9_give_86 rfl 0 rfl ?_
  refine o_getA (pc := 87) fd_RX9_139 ft_1000_64 j_1000 dX9_give_87 ?_
  refine o_iload_n (pc := 90) dX9_give_90 rfl 2 rfl ?_
  refine o_iload_n (pc := 91) dX9_give_91 rfl 1 rfl ?_
  obtain ⟨hg, h⟩ := oH_G h
  have hgi := hg
  refine o_iast (pc := 92) kd_1065 j_1065 hgi dX9_give_92 ?_
  refine o_nmS (fun zS10 hx => ?_)
  have h := oH_let h zS10 hx
  clear hx
  exact hE _ _ _ dX9_give_93 (oH_some h)
def f_X9_layRow_K34 (zv1 : Int32) (zv2 : Int32) (zs1 : Int32) (zs2 : Int32) (S : oS) : Option ((Int32 × oS) ⊕ (oS)) :=
  if oIn zs1 8 then (
  oLet (oStI S 1065 0 (Int32.toNatClampNeg zs1) zs2) fun zS1 =>
  oLet (zv2 + (1 : Int32)) fun zx2 =>
  some (Sum.inl (zx2, zS1))) else none
set_option maxHeartbeats 4000000 in
theorem s_X9_layRow_K34 {X : oX} {e : Nat} (he : 2 ≤ e) (hR : oRoom X (e + 1)) {zv1 : Int32} {zv2 : Int32} {zs1 : Int32} {zs2 : Int32} {VH : Int32 × oS → Prop} {VE : oS → Prop} (hVH : ∀ z, VH z → oVv X mX9_layRow 2 [(0, orf 1000 0), (1, oi zv1), (2, oi z.1)] [] z.2) (hVE : ∀ z, VE z → oVv X mX9_layRow 41 [(0, orf 1000 0), (1, oi zv1)] [] z) {S : oS} (h : oH (f_X9_layRow_K34 zv1 zv2 zs1 zs2 S) (fun z => Sum.elim VH VE z)) : oVv X mX9_layRow 34 [(0, orf 1000 0), (1, oi zv1), (2, oi zv2)] [oi zs2, oi zs1, orf 1065 0] S := by
  unfold f_X9_layRow_K34 at h
  obtain ⟨hg, h⟩ := oH_G h
  have hgi := hg
  refine o_iast (pc := 34) kd_1065 j_1065 hgi dX9_layRow_34 ?_
  refine o_nmS (fun zS1 hx => ?_)
  have h := oH_let h zS1 hx
  clear hx
  obtain ⟨zx2, hx⟩ : ∃ y : Int32, y = zv2 + (1 : Int32) := ⟨_, rfl⟩
  have h := oH_let h zx2 hx
  refine o_iinc (lv1 := [(0, orf 1000 0), (1, oi zv1), (2, oi zx2)]) (pc := 35) dX9_layRow_35 2 rfl hx.symm (by decide) rfl ?_
  clear hx
  refine o_goto 2 (pc := 38) dX9_layRow_38 (by decide) ?_
  exact hVH _ (oH_some (P := fun z => Sum.elim VH VE z) h)
def f_X9_layRow_L2 (zv1 : Int32) : Int32 × oS → Option ((Int32 × oS) ⊕ (oS)) := fun w =>
  match w with
  | (zv2, S) =>
    if (S.1 1000 0 36) ≤ zv2 then (
    some (Sum.inr S)) else (
    if (S.1 1000 0 37) = 0 then (
    if ¬ (S.1 1000 0 36) = 0 then (
    f_X9_layRow_K34 zv1 zv2 zv2 ((zv1 + zv2) - (zv1 + zv2) / (S.1 1000 0 36) * (S.1 1000 0 36)) S) else none) else (
    f_X9_layRow_K34 zv1 zv2 zv2 zv2 S))
set_option maxHeartbeats 4000000 in
theorem s_X9_layRow_L2b {X : oX} {e : Nat} (he : 2 ≤ e) (hR : oRoom X (e + 1)) {zv1 : Int32} {VH : Int32 × oS → Prop} {VE : oS → Prop} (hVH : ∀ z, VH z → oVv X mX9_layRow 2 [(0, orf 1000 0), (1, oi zv1), (2, oi z.1)] [] z.2) (hVE : ∀ z, VE z → oVv X mX9_layRow 41 [(0, orf 1000 0), (1, oi zv1)] [] z) {zv2 : Int32} {S : oS} (h : oH (f_X9_layRow_L2 zv1 (zv2, S)) (fun z => Sum.elim VH VE z)) : oVv X mX9_layRow 2 [(0, orf 1000 0), (1, oi zv1), (2, oi zv2)] [] S := by
  dsimp only [f_X9_layRow_L2] at h
  refine o_iload_n (pc := 2) dX9_layRow_2 rfl 2 rfl ?_
  refine o_aload_n (pc := 3) dX9_layRow_3 rfl 0 rfl ?_
  refine o_getI (pc := 4) fd_RX9_85 ft_1000_36 j_1000 dX9_layRow_4 ?_
  refine o_icmp_ge 41 (pc := 7) dX9_layRow_7 (by decide) (fun hc => ?_) (fun hc => ?_)
  · have h := oH_T hc h
    refine o_weak [0, 1] rfl ?_
    exact hVE _ (oH_some (P := fun z => Sum.elim VH VE z) h)
  · have h := oH_F hc h
    refine o_aload_n (pc := 10) dX9_layRow_10 rfl 0 rfl ?_
    refine o_getA (pc := 11) fd_RX9_139 ft_1000_64 j_1000 dX9_layRow_11 ?_
    refine o_iload_n (pc := 14) dX9_layRow_14 rfl 2 rfl ?_
    refine o_aload_n (pc := 15) dX9_layRow_15 rfl 0 rfl ?_
    refine o_getI (pc := 16) fd_RX9_340 ft_1000_37 j_1000 dX9_layRow_16 ?_
    refine o_if_ne 33 (pc := 19) dX9_layRow_19 (by decide) (fun hc => ?_) (fun hc => ?_)
    · have h := oH_F hc h
      refine o_iload_n (pc := 33) dX9_layRow_33 rfl 2 rfl ?_
      exact s_X9_layRow_K34 he hR  hVH hVE h
    · have h := oH_T hc h
      refine o_iload_n (pc := 22) dX9_layRow_22 rfl 1 rfl ?_
      refine o_iload_n (pc := 23) dX9_layRow_23 rfl 2 rfl ?_
      refine o_iadd (pc := 24) dX9_layRow_24 ?_
      refine o_aload_n (pc := 25) dX9_layRow_25 rfl 0 rfl ?_
      refine o_getI (pc := 26) fd_RX9_85 ft_1000_36 j_1000 dX9_layRow_26 ?_
      obtain ⟨hg, h⟩ := oH_G h
      refine o_irem (pc := 29) dX9_layRow_29 hg ?_
      refine o_goto 34 (pc := 30) dX9_layRow_30 (by decide) ?_
      exact s_X9_layRow_K34 he hR  hVH hVE h
theorem s_X9_layRow_L2 {X : oX} {e : Nat} (he : 2 ≤ e) (hR : oRoom X (e + 1)) {zv1 : Int32}  {VE : oS → Prop} (hVE : ∀ z, VE z → oVv X mX9_layRow 41 [(0, orf 1000 0), (1, oi zv1)] [] z) (n : Nat) (w : Int32 × oS) (h : oH (oLp (f_X9_layRow_L2 zv1) n w) VE) : oVv X mX9_layRow 2 [(0, orf 1000 0), (1, oi zv1), (2, oi w.1)] [] w.2 :=
  oLp_s (VH := fun w => oVv X mX9_layRow 2 [(0, orf 1000 0), (1, oi zv1), (2, oi w.1)] [] w.2) (fun w h => s_X9_layRow_L2b he hR  (fun _ h => h) hVE h) n w h
def f_X9_layRow_L62 (zv1 : Int32) : Int64 × Int32 × oS → Option ((Int64 × Int32 × oS) ⊕ (oS)) := fun w =>
  match w with
  | (zv2, zv4, S) =>
    if zv4 < (1 : Int32) then (
    some (Sum.inr S)) else (
    if (S.1 1000 0 37) = (1 : Int32) then (
    oLet (((((1103515245 : Int64) * zv2) + (12345 : Int64)) - (((1103515245 : Int64) * zv2) + (12345 : Int64)) / (2147483648 : Int64) * (2147483648 : Int64))) fun zx6 =>
    if ¬ (Int32.toInt64 (zv4 + (1 : Int32))) = 0 then (
    (f_X9_change zv4 (Int64.toInt32 ((zx6 / (65536 : Int64)) - (zx6 / (65536 : Int64)) / (Int32.toInt64 (zv4 + (1 : Int32))) * (Int32.toInt64 (zv4 + (1 : Int32))))) S).bind fun zz7 =>
    oLet (zv4 + (-1 : Int32)) fun zx8 =>
    some (Sum.inl (zx6, zx8, zz7))) else none) else (
    some (Sum.inr S)))
set_option maxHeartbeats 4000000 in
theorem s_X9_layRow_L62b {X : oX} {e : Nat} (he : 2 ≤ e) (hR : oRoom X (e + 1)) {zv1 : Int32} {VH : Int64 × Int32 × oS → Prop} {VE : oS → Prop} (hVH : ∀ z, VH z → oVv X mX9_layRow 62 [(0, orf 1000 0), (1, oi zv1), (2, ol z.1), (4, oi z.2.1)] [] z.2.2) (hVE : ∀ z, VE z → oVv X mX9_layRow 114 [(0, orf 1000 0), (1, oi zv1)] [] z) {zv2 : Int64} {zv4 : Int32} {S : oS} (h : oH (f_X9_layRow_L62 zv1 (zv2, zv4, S)) (fun z => Sum.elim VH VE z)) : oVv X mX9_layRow 62 [(0, orf 1000 0), (1, oi zv1), (2, ol zv2), (4, oi zv4)] [] S := by
  dsimp only [f_X9_layRow_L62] at h
  refine o_iload (pc := 62) dX9_layRow_62 3 rfl ?_
  refine o_iconst (v := 1) (pc := 64) dX9_layRow_64 (by decide) ?_
  refine o_icmp_lt 114 (pc := 65) dX9_layRow_65 (by decide) (fun hc => ?_) (fun hc => ?_)
  · have h := oH_T hc h
    refine o_weak [0, 1] rfl ?_
    exact hVE _ (oH_some (P := fun z => Sum.elim VH VE z) h)
  · have h := oH_F hc h
    refine o_aload_n (pc := 68) dX9_layRow_68 rfl 0 rfl ?_
    refine o_getI (pc := 69) fd_RX9_340 ft_1000_37 j_1000 dX9_layRow_69 ?_
    refine o_iconst (v := 1) (pc := 72) dX9_layRow_72 (by decide) ?_
    refine o_icmp_ne 114 (pc := 73) dX9_layRow_73 (by decide) (fun hc => ?_) (fun hc => ?_)
    · have h := oH_F hc h
      refine o_weak [0, 1] rfl ?_
      exact hVE _ (oH_some (P := fun z => Sum.elim VH VE z) h)
    · have h := oH_T hc h
      refine o_ldc2 (v := 1103515245) (pc := 76) dX9_layRow_76 wd_1317 ?_
      refine o_lload_n (pc := 79) dX9_layRow_79 rfl 2 rfl ?_
      refine o_lmul (pc := 80) dX9_layRow_80 ?_
      refine o_ldc2 (v := 12345) (pc := 81) dX9_layRow_81 wd_1318 ?_
      refine o_ladd (pc := 84) dX9_layRow_84 ?_
      refine o_ldc2 (v := 2147483648) (pc := 85) dX9_layRow_85 wd_1316 ?_
      refine o_lrem (pc := 88) dX9_layRow_88 (by decide) ?_
      refine o_nmL (fun zx6 hx => ?_)
      have h := oH_let h zx6 hx
      clear hx
      refine o_lstore_n (lv1 := [(0, orf 1000 0), (1, oi zv1), (2, ol zx6), (4, oi zv4)]) (pc := 89) dX9_layRow_89 rfl (by decide) rfl ?_
      refine o_aload_n (pc := 90) dX9_layRow_90 rfl 0 rfl ?_
      refine o_iload (pc := 91) dX9_layRow_91 3 rfl ?_
      refine o_lload_n (pc := 93) dX9_layRow_93 rfl 2 rfl ?_
      refine o_ldc2 (v := 65536) (pc := 94) dX9_layRow_94 wd_1319 ?_
      refine o_ldiv (pc := 97) dX9_layRow_97 (by decide) ?_
      refine o_iload (pc := 98) dX9_layRow_98 3 rfl ?_
      refine o_iconst (v := 1) (pc := 100) dX9_layRow_100 (by decide) ?_
      refine o_iadd (pc := 101) dX9_layRow_101 ?_
      refine o_i2l (pc := 102) dX9_layRow_102 ?_
      obtain ⟨hg, h⟩ := oH_G h
      refine o_lrem (pc := 103) dX9_layRow_103 hg ?_
      refine o_l2i (pc := 104) dX9_layRow_104 ?_
      have h := oH_bind h
      refine o_callVv (pc := 105) (st := []) [oi zv4, oi (Int64.toInt32 ((zx6 / (65536 : Int64)) - (zx6 / (65536 : Int64)) / (Int32.toInt64 (zv4 + (1 : Int32))) * (Int32.toInt64 (zv4 + (1 : Int32)))))] hR md_X9_change wd_1320 wd_1322 ws_52 tc_1000 j_1000 rfl (Nat.le_of_ble_eq_true rfl) rfl dX9_layRow_105 (s_X9_change e (by omega)  h) (fun zz7 h => ?_)
      obtain ⟨zx8, hx⟩ : ∃ y : Int32, y = zv4 + (-1 : Int32) := ⟨_, rfl⟩
      have h := oH_let h zx8 hx
      refine o_iinc (lv1 := [(0, orf 1000 0), (1, oi zv1), (2, ol zx6), (4, oi zx8)]) (pc := 108) dX9_layRow_108 3 rfl hx.symm (by decide) rfl ?_
      clear hx
      refine o_goto 62 (pc := 111) dX9_layRow_111 (by decide) ?_
      exact hVH _ (oH_some (P := fun z => Sum.elim VH VE z) h)
theorem s_X9_layRow_L62 {X : oX} {e : Nat} (he : 2 ≤ e) (hR : oRoom X (e + 1)) {zv1 : Int32}  {VE : oS → Prop} (hVE : ∀ z, VE z → oVv X mX9_layRow 114 [(0, orf 1000 0), (1, oi zv1)] [] z) (n : Nat) (w : Int64 × Int32 × oS) (h : oH (oLp (f_X9_layRow_L62 zv1) n w) VE) : oVv X mX9_layRow 62 [(0, orf 1000 0), (1, oi zv1), (2, ol w.1), (4, oi w.2.1)] [] w.2.2 :=
  oLp_s (VH := fun w => oVv X mX9_layRow 62 [(0, orf 1000 0), (1, oi zv1), (2, ol w.1), (4, oi w.2.1)] [] w.2.2) (fun w h => s_X9_layRow_L62b he hR  (fun _ h => h) hVE h) n w h
def f_X9_layRow_L117 (zv1 : Int32) : Int32 × oS → Option ((Int32 × oS) ⊕ (oS)) := fun w =>
  match w with
  | (zv4, S) =>
    if (S.1 1000 0 40) ≤ zv4 then (
    some (Sum.inr S)) else (
    if oIn zv4 30 then (
    if (S.1 1042 0 (Int32.toNatClampNeg zv4)) = zv1 then (
    if oIn zv4 30 then (
    if (S.1 1045 0 (Int32.toNatClampNeg zv4)) = 0 then (
    if oIn zv4 30 then (
    (f_X9_placeOf (S.1 1043 0 (Int32.toNatClampNeg zv4)) S).bind fun zz11 =>
    if oIn zv4 30 then (
    (f_X9_placeOf (zz11.2.1 1044 0 (Int32.toNatClampNeg zv4)) zz11.2).bind fun zz12 =>
    (f_X9_change zz11.1 zz12.1 zz12.2).bind fun zz13 =>
    oLet (zv4 + (1 : Int32)) fun zx14 =>
    some (Sum.inl (zx14, zz13))) else none) else none) else (
    if oIn zv4 30 then (
    if oIn zv4 30 then (
    (f_X9_give (S.1 1043 0 (Int32.toNatClampNeg zv4)) (S.1 1044 0 (Int32.toNatClampNeg zv4)) S).bind fun zz15 =>
    oLet (zv4 + (1 : Int32)) fun zx16 =>
    some (Sum.inl (zx16, zz15))) else none) else none)) else none) else (
    oLet (zv4 + (1 : Int32)) fun zx10 =>
    some (Sum.inl (zx10, S)))) else none)
set_option maxHeartbeats 4000000 in
theorem s_X9_layRow_L117b {X : oX} {e : Nat} (he : 2 ≤ e) (hR : oRoom X (e + 1)) {zv1 : Int32} {VH : Int32 × oS → Prop} {VE : oS → Prop} (hVH : ∀ z, VH z → oVv X mX9_layRow 117 [(0, orf 1000 0), (1, oi zv1), (4, oi z.1)] [] z.2) (hVE : ∀ z, VE z → oVv X mX9_layRow 200 [] [] z) {zv4 : Int32} {S : oS} (h : oH (f_X9_layRow_L117 zv1 (zv4, S)) (fun z => Sum.elim VH VE z)) : oVv X mX9_layRow 117 [(0, orf 1000 0), (1, oi zv1), (4, oi zv4)] [] S := by
  dsimp only [f_X9_layRow_L117] at h
  refine o_iload (pc := 117) dX9_layRow_117 2 rfl ?_
  refine o_aload_n (pc := 119) dX9_layRow_119 rfl 0 rfl ?_
  refine o_getI (pc := 120) fd_RX9_337 ft_1000_40 j_1000 dX9_layRow_120 ?_
  refine o_icmp_ge 200 (pc := 123) dX9_layRow_123 (by decide) (fun hc => ?_) (fun hc => ?_)
  · have h := oH_T hc h
    refine o_weak [] rfl ?_
    exact hVE _ (oH_some (P := fun z => Sum.elim VH VE z) h)
  · have h := oH_F hc h
    refine o_aload_n (pc := 126) dX9_layRow_126 rfl 0 rfl ?_
    refine o_getA (pc := 127) fd_RX9_91 ft_1000_41 j_1000 dX9_layRow_127 ?_
    refine o_iload (pc := 130) dX9_layRow_130 2 rfl ?_
    obtain ⟨hg, h⟩ := oH_G h
    refine o_iald (pc := 132) kd_1042 j_1042 hg dX9_layRow_132 ?_
    refine o_iload_n (pc := 133) dX9_layRow_133 rfl 1 rfl ?_
    refine o_icmp_ne 194 (pc := 134) dX9_layRow_134 (by decide) (fun hc => ?_) (fun hc => ?_)
    · have h := oH_F hc h
      obtain ⟨zx10, hx⟩ : ∃ y : Int32, y = zv4 + (1 : Int32) := ⟨_, rfl⟩
      have h := oH_let h zx10 hx
      refine o_iinc (lv1 := [(0, orf 1000 0), (1, oi zv1), (4, oi zx10)]) (pc := 194) dX9_layRow_194 2 rfl hx.symm (by decide) rfl ?_
      clear hx
      refine o_goto 117 (pc := 197) dX9_layRow_197 (by decide) ?_
      exact hVH _ (oH_some (P := fun z => Sum.elim VH VE z) h)
    · have h := oH_T hc h
      refine o_aload_n (pc := 137) dX9_layRow_137 rfl 0 rfl ?_
      refine o_getA (pc := 138) fd_RX9_100 ft_1000_44 j_1000 dX9_layRow_138 ?_
      refine o_iload (pc := 141) dX9_layRow_141 2 rfl ?_
      obtain ⟨hg, h⟩ := oH_G h
      refine o_zald (pc := 143) kd_1045 j_1045 hg dX9_layRow_143 ?_
      refine o_if_eq 168 (pc := 144) dX9_layRow_144 (by decide) (fun hc => ?_) (fun hc => ?_)
      · have h := oH_T hc h
        refine o_aload_n (pc := 168) dX9_layRow_168 rfl 0 rfl ?_
        refine o_aload_n (pc := 169) dX9_layRow_169 rfl 0 rfl ?_
        refine o_aload_n (pc := 170) dX9_layRow_170 rfl 0 rfl ?_
        refine o_getA (pc := 171) fd_RX9_94 ft_1000_42 j_1000 dX9_layRow_171 ?_
        refine o_iload (pc := 174) dX9_layRow_174 2 rfl ?_
        obtain ⟨hg, h⟩ := oH_G h
        refine o_iald (pc := 176) kd_1043 j_1043 hg dX9_layRow_176 ?_
        have h := oH_bind h
        refine o_callVi (pc := 177) (st := [orf 1000 0]) [oi (S.1 1043 0 (Int32.toNatClampNeg zv4))] hR md_X9_placeOf wd_1328 wd_1330 ws_54 tc_1000 j_1000 rfl (Nat.le_of_ble_eq_true rfl) rfl dX9_layRow_177 (s_X9_placeOf e (by omega)  h) (fun zz11 h => ?_)
        refine o_aload_n (pc := 180) dX9_layRow_180 rfl 0 rfl ?_
        refine o_aload_n (pc := 181) dX9_layRow_181 rfl 0 rfl ?_
        refine o_getA (pc := 182) fd_RX9_97 ft_1000_43 j_1000 dX9_layRow_182 ?_
        refine o_iload (pc := 185) dX9_layRow_185 2 rfl ?_
        obtain ⟨hg, h⟩ := oH_G h
        refine o_iald (pc := 187) kd_1044 j_1044 hg dX9_layRow_187 ?_
        have h := oH_bind h
        refine o_callVi (pc := 188) (st := [oi zz11.1, orf 1000 0]) [oi (zz11.2.1 1044 0 (Int32.toNatClampNeg zv4))] hR md_X9_placeOf wd_1328 wd_1330 ws_54 tc_1000 j_1000 rfl (Nat.le_of_ble_eq_true rfl) rfl dX9_layRow_188 (s_X9_placeOf e (by omega)  h) (fun zz12 h => ?_)
        have h := oH_bind h
        refine o_callVv (pc := 191) (st := []) [oi zz11.1, oi zz12.1] hR md_X9_change wd_1320 wd_1322 ws_52 tc_1000 j_1000 rfl (Nat.le_of_ble_eq_true rfl) rfl dX9_layRow_191 (s_X9_change e (by omega)  h) (fun zz13 h => ?_)
        obtain ⟨zx14, hx⟩ : ∃ y : Int32, y = zv4 + (1 : Int32) := ⟨_, rfl⟩
        have h := oH_let h zx14 hx
        refine o_iinc (lv1 := [(0, orf 1000 0), (1, oi zv1), (4, oi zx14)]) (pc := 194) dX9_layRow_194 2 rfl hx.symm (by decide) rfl ?_
        clear hx
        refine o_goto 117 (pc := 197) dX9_layRow_197 (by decide) ?_
        exact hVH _ (oH_some (P := fun z => Sum.elim VH VE z) h)
      · have h := oH_F hc h
        refine o_aload_n (pc := 147) dX9_layRow_147 rfl 0 rfl ?_
        refine o_aload_n (pc := 148) dX9_layRow_148 rfl 0 rfl ?_
        refine o_getA (pc := 149) fd_RX9_94 ft_1000_42 j_1000 dX9_layRow_149 ?_
        refine o_iload (pc := 152) dX9_layRow_152 2 rfl ?_
        obtain ⟨hg, h⟩ := oH_G h
        refine o_iald (pc := 154) kd_1043 j_1043 hg dX9_layRow_154 ?_
        refine o_aload_n (pc := 155) dX9_layRow_155 rfl 0 rfl ?_
        refine o_getA (pc := 156) fd_RX9_97 ft_1000_43 j_1000 dX9_layRow_156 ?_
        refine o_iload (pc := 159) dX9_layRow_159 2 rfl ?_
        obtain ⟨hg, h⟩ := oH_G h
        refine o_iald (pc := 161) kd_1044 j_1044 hg dX9_layRow_161 ?_
        have h := oH_bind h
        refine o_callVv (pc := 162) (st := []) [oi (S.1 1043 0 (Int32.toNatClampNeg zv4)), oi (S.1 1044 0 (Int32.toNatClampNeg zv4))] hR md_X9_give wd_1324 wd_1326 ws_53 tc_1000 j_1000 rfl (Nat.le_of_ble_eq_true rfl) rfl dX9_layRow_162 (s_X9_give e (by omega)  h) (fun zz15 h => ?_)
        refine o_goto 194 (pc := 165) dX9_layRow_165 (by decide) ?_
        obtain ⟨zx16, hx⟩ : ∃ y : Int32, y = zv4 + (1 : Int32) := ⟨_, rfl⟩
        have h := oH_let h zx16 hx
        refine o_iinc (lv1 := [(0, orf 1000 0), (1, oi zv1), (4, oi zx16)]) (pc := 194) dX9_layRow_194 2 rfl hx.symm (by decide) rfl ?_
        clear hx
        refine o_goto 117 (pc := 197) dX9_layRow_197 (by decide) ?_
        exact hVH _ (oH_some (P := fun z => Sum.elim VH VE z) h)
theorem s_X9_layRow_L117 {X : oX} {e : Nat} (he : 2 ≤ e) (hR : oRoom X (e + 1)) {zv1 : Int32}  {VE : oS → Prop} (hVE : ∀ z, VE z → oVv X mX9_layRow 200 [] [] z) (n : Nat) (w : Int32 × oS) (h : oH (oLp (f_X9_layRow_L117 zv1) n w) VE) : oVv X mX9_layRow 117 [(0, orf 1000 0), (1, oi zv1), (4, oi w.1)] [] w.2 :=
  oLp_s (VH := fun w => oVv X mX9_layRow 117 [(0, orf 1000 0), (1, oi zv1), (4, oi w.1)] [] w.2) (fun w h => s_X9_layRow_L117b he hR  (fun _ h => h) hVE h) n w h
def f_X9_layRow  (za1 : Int32) (S : oS) : Option (oS) :=
  (oLp (f_X9_layRow_L2 za1) oFu ((0 : Int32), S)).bind fun zz3 =>
  oLet ((((Int32.toInt64 (zz3.1 1000 0 38)) + (Int32.toInt64 za1)) - ((Int32.toInt64 (zz3.1 1000 0 38)) + (Int32.toInt64 za1)) / (2147483648 : Int64) * (2147483648 : Int64))) fun zx4 =>
  oLet (((zz3.1 1000 0 36) - (1 : Int32))) fun zx5 =>
  (oLp (f_X9_layRow_L62 za1) oFu (zx4, zx5, zz3)).bind fun zz9 =>
  (oLp (f_X9_layRow_L117 za1) oFu ((0 : Int32), zz9)).bind fun zz17 =>
  some zz17
set_option maxHeartbeats 4000000 in
theorem s_X9_layRow {G : oG} {r : oR} (d : Nat) (hd : 3 ≤ d) {za1 : Int32}  {S : oS} {P : oS → Prop} (h : oH (f_X9_layRow za1 S) P) : oCt G r d yX9_layRow mX9_layRow [orf 1000 0, oi za1] S (oQv P) := by
  unfold f_X9_layRow at h
  refine oCt_of (by decide) rfl (Nat.le_of_ble_eq_true rfl) ?_
  intro X hG hr hE0 hR
  subst hG; subst hr
  obtain ⟨e, rfl⟩ : ∃ e, d = e + 1 := ⟨d - 1, by omega⟩
  have he : 2 ≤ e := by omega
  have hE := oEV_of hE0 rfl
  clear hE0 hd
  show oVv X mX9_layRow 0 [(0, orf 1000 0), (1, oi za1)] [] S
  refine o_iconst (v := 0) (pc := 0) dX9_layRow_0 (by decide) ?_
  refine o_istore_n (lv1 := [(0, orf 1000 0), (1, oi za1), (2, oi (0 : Int32))]) (pc := 1) dX9_layRow_1 rfl (by decide) rfl ?_
  have h := oH_bind h
  refine s_X9_layRow_L2 he hR  (fun zz3 h => ?_) _ ((0 : Int32), S) h
  refine o_aload_n (pc := 41) dX9_layRow_41 rfl 0 rfl ?_
  refine o_getI (pc := 42) fd_RX9_343 ft_1000_38 j_1000 dX9_layRow_42 ?_
  refine o_i2l (pc := 45) dX9_layRow_45 ?_
  refine o_iload_n (pc := 46) dX9_layRow_46 rfl 1 rfl ?_
  refine o_i2l (pc := 47) dX9_layRow_47 ?_
  refine o_ladd (pc := 48) dX9_layRow_48 ?_
  refine o_ldc2 (v := 2147483648) (pc := 49) dX9_layRow_49 wd_1316 ?_
  refine o_lrem (pc := 52) dX9_layRow_52 (by decide) ?_
  refine o_nmL (fun zx4 hx => ?_)
  have h := oH_let h zx4 hx
  clear hx
  refine o_lstore_n (lv1 := [(0, orf 1000 0), (1, oi za1), (2, ol zx4)]) (pc := 53) dX9_layRow_53 rfl (by decide) rfl ?_
  refine o_aload_n (pc := 54) dX9_layRow_54 rfl 0 rfl ?_
  refine o_getI (pc := 55) fd_RX9_85 ft_1000_36 j_1000 dX9_layRow_55 ?_
  refine o_iconst (v := 1) (pc := 58) dX9_layRow_58 (by decide) ?_
  refine o_isub (pc := 59) dX9_layRow_59 ?_
  refine o_nmI (fun zx5 hx => ?_)
  have h := oH_let h zx5 hx
  clear hx
  refine o_istore (lv1 := [(0, orf 1000 0), (1, oi za1), (2, ol zx4), (4, oi zx5)]) (pc := 60) dX9_layRow_60 (by decide) rfl ?_
  have h := oH_bind h
  refine s_X9_layRow_L62 he hR  (fun zz9 h => ?_) _ (zx4, zx5, zz3) h
  refine o_iconst (v := 0) (pc := 114) dX9_layRow_114 (by decide) ?_
  refine o_istore (lv1 := [(0, orf 1000 0), (1, oi za1), (4, oi (0 : Int32))]) (pc := 115) dX9_layRow_115 (by decide) rfl ?_
  have h := oH_bind h
  refine s_X9_layRow_L117 he hR  (fun zz17 h => ?_) _ ((0 : Int32), zz9) h
  exact hE _ _ _ dX9_layRow_200 (oH_some h)
def f_X9_at  (za1 : Int32) (za2 : Int32) (S : oS) : Option (Int32 × oS) :=
  (f_X9_isWeek za1 S).bind fun zz1 =>
  if zz1.1 = 0 then (
  some ((-2 : Int32), zz1.2)) else (
  (f_X9_in za2 (0 : Int32) ((zz1.2.1 1000 0 36) - (1 : Int32)) zz1.2).bind fun zz2 =>
  if zz2.1 = 0 then (
  some ((-2 : Int32), zz2.2)) else (
  (f_X9_layRow za1 zz2.2).bind fun zz3 =>
  if oIn za2 8 then (
  some (zz3.1 1065 0 (Int32.toNatClampNeg za2), zz3)) else none))
set_option maxHeartbeats 4000000 in
theorem s_X9_at {G : oG} {r : oR} (d : Nat) (hd : 4 ≤ d) {za1 : Int32} {za2 : Int32}  {S : oS} {P : Int32 × oS → Prop} (h : oH (f_X9_at za1 za2 S) P) : oCt G r d yX9_at mX9_at [orf 1000 0, oi za1, oi za2] S (oQi P) := by
  unfold f_X9_at at h
  refine oCt_of (by decide) rfl (Nat.le_of_ble_eq_true rfl) ?_
  intro X hG hr hE0 hR
  subst hG; subst hr
  obtain ⟨e, rfl⟩ : ∃ e, d = e + 1 := ⟨d - 1, by omega⟩
  have he : 3 ≤ e := by omega
  have hE := oEI_of hE0 rfl
  clear hE0 hd
  show oVv X mX9_at 0 [(0, orf 1000 0), (1, oi za1), (2, oi za2)] [] S
  refine o_iload_n (pc := 0) dX9_at_0 rfl 1 rfl ?_
  have h := oH_bind h
  refine o_callSi (pc := 1) (st := []) [oi za1] hR md_X9_isWeek wd_1297 wd_1298 rfl (Nat.le_of_ble_eq_true rfl) rfl dX9_at_1 (s_X9_isWeek e (by omega)  h) (fun zz1 h => ?_)
  refine o_if_eq 21 (pc := 4) dX9_at_4 (by decide) (fun hc => ?_) (fun hc => ?_)
  · have h := oH_T hc h
    refine o_bipush (v := -2) (pc := 21) dX9_at_21 (by decide) ?_
    exact hE _ _ _ _ dX9_at_23 (oH_some h)
  · have h := oH_F hc h
    refine o_iload_n (pc := 7) dX9_at_7 rfl 2 rfl ?_
    refine o_iconst (v := 0) (pc := 8) dX9_at_8 (by decide) ?_
    refine o_aload_n (pc := 9) dX9_at_9 rfl 0 rfl ?_
    refine o_getI (pc := 10) fd_RX9_85 ft_1000_36 j_1000 dX9_at_10 ?_
    refine o_iconst (v := 1) (pc := 13) dX9_at_13 (by decide) ?_
    refine o_isub (pc := 14) dX9_at_14 ?_
    have h := oH_bind h
    refine o_callSi (pc := 15) (st := []) [oi za2, oi (0 : Int32), oi ((zz1.2.1 1000 0 36) - (1 : Int32))] hR md_X9_in wd_1061 wd_1062 rfl (Nat.le_of_ble_eq_true rfl) rfl dX9_at_15 (s_X9_in e (by omega)  h) (fun zz2 h => ?_)
    refine o_if_ne 24 (pc := 18) dX9_at_18 (by decide) (fun hc => ?_) (fun hc => ?_)
    · have h := oH_F hc h
      refine o_aload_n (pc := 24) dX9_at_24 rfl 0 rfl ?_
      refine o_iload_n (pc := 25) dX9_at_25 rfl 1 rfl ?_
      have h := oH_bind h
      refine o_callVv (pc := 26) (st := []) [oi za1] hR md_X9_layRow wd_1312 wd_1314 ws_51 tc_1000 j_1000 rfl (Nat.le_of_ble_eq_true rfl) rfl dX9_at_26 (s_X9_layRow e (by omega)  h) (fun zz3 h => ?_)
      refine o_aload_n (pc := 29) dX9_at_29 rfl 0 rfl ?_
      refine o_getA (pc := 30) fd_RX9_139 ft_1000_64 j_1000 dX9_at_30 ?_
      refine o_iload_n (pc := 33) dX9_at_33 rfl 2 rfl ?_
      obtain ⟨hg, h⟩ := oH_G h
      refine o_iald (pc := 34) kd_1065 j_1065 hg dX9_at_34 ?_
      exact hE _ _ _ _ dX9_at_35 (oH_some h)
    · have h := oH_T hc h
      refine o_bipush (v := -2) (pc := 21) dX9_at_21 (by decide) ?_
      exact hE _ _ _ _ dX9_at_23 (oH_some h)
def f_X9_isInside  (za1 : Int32) (S : oS) : Option (Int32 × oS) :=
  if oIn za1 200 then (
  if (S.1 1027 0 (Int32.toNatClampNeg za1)) = (-1 : Int32) then (
  some ((0 : Int32), S)) else (
  some ((1 : Int32), S))) else none
set_option maxHeartbeats 4000000 in
theorem s_X9_isInside {G : oG} {r : oR} (d : Nat) (hd : 1 ≤ d) {za1 : Int32}  {S : oS} {P : Int32 × oS → Prop} (h : oH (f_X9_isInside za1 S) P) : oCt G r d yX9_isInside mX9_isInside [orf 1000 0, oi za1] S (oQi P) := by
  unfold f_X9_isInside at h
  refine oCt_of (by decide) rfl (Nat.le_of_ble_eq_true rfl) ?_
  intro X hG hr hE0 hR
  subst hG; subst hr
  obtain ⟨e, rfl⟩ : ∃ e, d = e + 1 := ⟨d - 1, by omega⟩
  have he : 0 ≤ e := by omega
  have hE := oEZ_of hE0 rfl
  clear hE0 hd
  show oVv X mX9_isInside 0 [(0, orf 1000 0), (1, oi za1)] [] S
  refine o_aload_n (pc := 0) dX9_isInside_0 rfl 0 rfl ?_
  refine o_getA (pc := 1) fd_RX9_64 ft_1000_26 j_1000 dX9_isInside_1 ?_
  refine o_iload_n (pc := 4) dX9_isInside_4 rfl 1 rfl ?_
  obtain ⟨hg, h⟩ := oH_G h
  refine o_iald (pc := 5) kd_1027 j_1027 hg dX9_isInside_5 ?_
  refine o_iconst (v := -1) (pc := 6) dX9_isInside_6 (by decide) ?_
  refine o_icmp_eq 14 (pc := 7) dX9_isInside_7 (by decide) (fun hc => ?_) (fun hc => ?_)
  · have h := oH_T hc h
    refine o_iconst (v := 0) (pc := 14) dX9_isInside_14 (by decide) ?_
    exact hE _ _ _ _ dX9_isInside_15 (by decide) (oH_some h)
  · have h := oH_F hc h
    refine o_iconst (v := 1) (pc := 10) dX9_isInside_10 (by decide) ?_
    refine o_goto 15 (pc := 11) dX9_isInside_11 (by decide) ?_
    exact hE _ _ _ _ dX9_isInside_15 (by decide) (oH_some h)
def f_X9_cellOf  (za0 : Int32) (za1 : Int32) (S : oS) : Option (Int32 × oS) :=
  some ((((3 : Int32) * za0) + za1), S)
set_option maxHeartbeats 4000000 in
theorem s_X9_cellOf {G : oG} {r : oR} (d : Nat) (hd : 1 ≤ d) {za0 : Int32} {za1 : Int32}  {S : oS} {P : Int32 × oS → Prop} (h : oH (f_X9_cellOf za0 za1 S) P) : oCt G r d yX9_cellOf mX9_cellOf [oi za0, oi za1] S (oQi P) := by
  unfold f_X9_cellOf at h
  refine oCt_of (by decide) rfl (Nat.le_of_ble_eq_true rfl) ?_
  intro X hG hr hE0 hR
  subst hG; subst hr
  obtain ⟨e, rfl⟩ : ∃ e, d = e + 1 := ⟨d - 1, by omega⟩
  have he : 0 ≤ e := by omega
  have hE := oEI_of hE0 rfl
  clear hE0 hd
  show oVv X mX9_cellOf 0 [(0, oi za0), (1, oi za1)] [] S
  refine o_iconst (v := 3) (pc := 0) dX9_cellOf_0 (by decide) ?_
  refine o_iload_n (pc := 1) dX9_cellOf_1 rfl 0 rfl ?_
  refine o_imul (pc := 2) dX9_cellOf_2 ?_
  refine o_iload_n (pc := 3) dX9_cellOf_3 rfl 1 rfl ?_
  refine o_iadd (pc := 4) dX9_cellOf_4 ?_
  exact hE _ _ _ _ dX9_cellOf_5 (oH_some h)
def f_X9_faceOf  (za1 : Int32) (S : oS) : Option (Int64 × oS) :=
  (f_X9_cellOf za1 (0 : Int32) S).bind fun zz1 =>
  if oIn zz1.1 12 then (
  some (((zz1.2.2 1050 0 (Int32.toNatClampNeg zz1.1)) / (10 : Int64)), zz1.2)) else none
set_option maxHeartbeats 4000000 in
theorem s_X9_faceOf {G : oG} {r : oR} (d : Nat) (hd : 2 ≤ d) {za1 : Int32}  {S : oS} {P : Int64 × oS → Prop} (h : oH (f_X9_faceOf za1 S) P) : oCt G r d yX9_faceOf mX9_faceOf [orf 1000 0, oi za1] S (oQl P) := by
  unfold f_X9_faceOf at h
  refine oCt_of (by decide) rfl (Nat.le_of_ble_eq_true rfl) ?_
  intro X hG hr hE0 hR
  subst hG; subst hr
  obtain ⟨e, rfl⟩ : ∃ e, d = e + 1 := ⟨d - 1, by omega⟩
  have he : 1 ≤ e := by omega
  have hE := oEL_of hE0 rfl
  clear hE0 hd
  show oVv X mX9_faceOf 0 [(0, orf 1000 0), (1, oi za1)] [] S
  refine o_aload_n (pc := 0) dX9_faceOf_0 rfl 0 rfl ?_
  refine o_getA (pc := 1) fd_RX9_112 ft_1000_49 j_1000 dX9_faceOf_1 ?_
  refine o_iload_n (pc := 4) dX9_faceOf_4 rfl 1 rfl ?_
  refine o_iconst (v := 0) (pc := 5) dX9_faceOf_5 (by decide) ?_
  have h := oH_bind h
  refine o_callSi (pc := 6) (st := [orf 1050 0]) [oi za1, oi (0 : Int32)] hR md_X9_cellOf wd_1106 wd_1107 rfl (Nat.le_of_ble_eq_true rfl) rfl dX9_faceOf_6 (s_X9_cellOf e (by omega)  h) (fun zz1 h => ?_)
  obtain ⟨hg, h⟩ := oH_G h
  refine o_lald (pc := 9) kd_1050 j_1050 hg dX9_faceOf_9 ?_
  refine o_ldc2 (v := 10) (pc := 10) dX9_faceOf_10 wd_857 ?_
  refine o_ldiv (pc := 13) dX9_faceOf_13 (by decide) ?_
  exact hE _ _ _ _ dX9_faceOf_14 (oH_some h)
def f_X9_sortOf_K68 (zv3 : Int64) (zv6 : Int32) (zs0 : Int32) (S : oS) : Option (Int32 × oS) :=
  if (Int32.toInt64 zv6) ≤ zv3 then (
  if zv3 ≤ (Int32.toInt64 zs0) then (
  some ((1 : Int32), S)) else (
  some ((2 : Int32), S))) else (
  some ((0 : Int32), S))
set_option maxHeartbeats 4000000 in
theorem s_X9_sortOf_K68 {X : oX} {e : Nat} (he : 0 ≤ e) (hR : oRoom X (e + 1)) {zv3 : Int64} {zv6 : Int32} {zs0 : Int32} {P : Int32 × oS → Prop} (hE : oEI X mX9_sortOf P) {S : oS} (h : oH (f_X9_sortOf_K68 zv3 zv6 zs0 S) P) : oVv X mX9_sortOf 68 [(3, ol zv3), (6, oi zv6)] [oi zs0] S := by
  unfold f_X9_sortOf_K68 at h
  refine o_istore (lv1 := [(3, ol zv3), (6, oi zv6), (7, oi zs0)]) (pc := 68) dX9_sortOf_68 (by decide) rfl ?_
  refine o_lload_n (pc := 70) dX9_sortOf_70 rfl 0 rfl ?_
  refine o_iload (pc := 71) dX9_sortOf_71 1 rfl ?_
  refine o_i2l (pc := 73) dX9_sortOf_73 ?_
  refine o_lcmp_ge 82 (pc := 74) dX9_sortOf_74 dX9_sortOf_75 (by decide) (fun hc => ?_) (fun hc => ?_)
  · have h := oH_T hc h
    refine o_lload_n (pc := 82) dX9_sortOf_82 rfl 0 rfl ?_
    refine o_iload (pc := 83) dX9_sortOf_83 2 rfl ?_
    refine o_i2l (pc := 85) dX9_sortOf_85 ?_
    refine o_lcmp_le 94 (pc := 86) dX9_sortOf_86 dX9_sortOf_87 (by decide) (fun hc => ?_) (fun hc => ?_)
    · have h := oH_T hc h
      refine o_iconst (v := 1) (pc := 94) dX9_sortOf_94 (by decide) ?_
      exact hE _ _ _ _ dX9_sortOf_95 (oH_some h)
    · have h := oH_F hc h
      refine o_iconst (v := 2) (pc := 90) dX9_sortOf_90 (by decide) ?_
      refine o_goto 95 (pc := 91) dX9_sortOf_91 (by decide) ?_
      exact hE _ _ _ _ dX9_sortOf_95 (oH_some h)
  · have h := oH_F hc h
    refine o_iconst (v := 0) (pc := 78) dX9_sortOf_78 (by decide) ?_
    refine o_goto 95 (pc := 79) dX9_sortOf_79 (by decide) ?_
    exact hE _ _ _ _ dX9_sortOf_95 (oH_some h)
def f_X9_sortOf_K46 (zv1 : Int32) (zv3 : Int64) (zv5 : Int32) (zs0 : Int32) (S : oS) : Option (Int32 × oS) :=
  if zv5 = 0 then (
  if oIn zv1 8 then (
  f_X9_sortOf_K68 zv3 zs0 (S.1 1020 0 (Int32.toNatClampNeg zv1)) S) else none) else (
  if oIn zv1 8 then (
  f_X9_sortOf_K68 zv3 zs0 (S.1 1024 0 (Int32.toNatClampNeg zv1)) S) else none)
set_option maxHeartbeats 4000000 in
theorem s_X9_sortOf_K46 {X : oX} {e : Nat} (he : 0 ≤ e) (hR : oRoom X (e + 1)) {zv1 : Int32} {zv3 : Int64} {zv5 : Int32} {zs0 : Int32} {P : Int32 × oS → Prop} (hE : oEI X mX9_sortOf P) {S : oS} (h : oH (f_X9_sortOf_K46 zv1 zv3 zv5 zs0 S) P) : oVv X mX9_sortOf 46 [(0, orf 1000 0), (1, oi zv1), (3, ol zv3), (5, oi zv5)] [oi zs0] S := by
  unfold f_X9_sortOf_K46 at h
  refine o_istore (lv1 := [(0, orf 1000 0), (1, oi zv1), (3, ol zv3), (5, oi zv5), (6, oi zs0)]) (pc := 46) dX9_sortOf_46 (by decide) rfl ?_
  refine o_iload (pc := 48) dX9_sortOf_48 3 rfl ?_
  refine o_if_eq 62 (pc := 50) dX9_sortOf_50 (by decide) (fun hc => ?_) (fun hc => ?_)
  · have h := oH_T hc h
    refine o_aload_n (pc := 62) dX9_sortOf_62 rfl 0 rfl ?_
    refine o_getA (pc := 63) fd_RX9_46 ft_1000_19 j_1000 dX9_sortOf_63 ?_
    refine o_iload_n (pc := 66) dX9_sortOf_66 rfl 1 rfl ?_
    obtain ⟨hg, h⟩ := oH_G h
    refine o_iald (pc := 67) kd_1020 j_1020 hg dX9_sortOf_67 ?_
    refine o_weak [2, 4] rfl ?_
    exact s_X9_sortOf_K68 he hR  hE h
  · have h := oH_F hc h
    refine o_aload_n (pc := 53) dX9_sortOf_53 rfl 0 rfl ?_
    refine o_getA (pc := 54) fd_RX9_58 ft_1000_23 j_1000 dX9_sortOf_54 ?_
    refine o_iload_n (pc := 57) dX9_sortOf_57 rfl 1 rfl ?_
    obtain ⟨hg, h⟩ := oH_G h
    refine o_iald (pc := 58) kd_1024 j_1024 hg dX9_sortOf_58 ?_
    refine o_goto 68 (pc := 59) dX9_sortOf_59 (by decide) ?_
    refine o_weak [2, 4] rfl ?_
    exact s_X9_sortOf_K68 he hR  hE h
def f_X9_sortOf_K24 (zv1 : Int32) (zv3 : Int64) (zs0 : Int32) (S : oS) : Option (Int32 × oS) :=
  if zs0 = 0 then (
  if oIn zv1 8 then (
  f_X9_sortOf_K46 zv1 zv3 zs0 (S.1 1019 0 (Int32.toNatClampNeg zv1)) S) else none) else (
  if oIn zv1 8 then (
  f_X9_sortOf_K46 zv1 zv3 zs0 (S.1 1023 0 (Int32.toNatClampNeg zv1)) S) else none)
set_option maxHeartbeats 4000000 in
theorem s_X9_sortOf_K24 {X : oX} {e : Nat} (he : 0 ≤ e) (hR : oRoom X (e + 1)) {zv1 : Int32} {zv3 : Int64} {zs0 : Int32} {P : Int32 × oS → Prop} (hE : oEI X mX9_sortOf P) {S : oS} (h : oH (f_X9_sortOf_K24 zv1 zv3 zs0 S) P) : oVv X mX9_sortOf 24 [(0, orf 1000 0), (1, oi zv1), (3, ol zv3)] [oi zs0] S := by
  unfold f_X9_sortOf_K24 at h
  refine o_istore (lv1 := [(0, orf 1000 0), (1, oi zv1), (3, ol zv3), (5, oi zs0)]) (pc := 24) dX9_sortOf_24 (by decide) rfl ?_
  refine o_iload (pc := 26) dX9_sortOf_26 3 rfl ?_
  refine o_if_eq 40 (pc := 28) dX9_sortOf_28 (by decide) (fun hc => ?_) (fun hc => ?_)
  · have h := oH_T hc h
    refine o_aload_n (pc := 40) dX9_sortOf_40 rfl 0 rfl ?_
    refine o_getA (pc := 41) fd_RX9_43 ft_1000_18 j_1000 dX9_sortOf_41 ?_
    refine o_iload_n (pc := 44) dX9_sortOf_44 rfl 1 rfl ?_
    obtain ⟨hg, h⟩ := oH_G h
    refine o_iald (pc := 45) kd_1019 j_1019 hg dX9_sortOf_45 ?_
    exact s_X9_sortOf_K46 he hR  hE h
  · have h := oH_F hc h
    refine o_aload_n (pc := 31) dX9_sortOf_31 rfl 0 rfl ?_
    refine o_getA (pc := 32) fd_RX9_55 ft_1000_22 j_1000 dX9_sortOf_32 ?_
    refine o_iload_n (pc := 35) dX9_sortOf_35 rfl 1 rfl ?_
    obtain ⟨hg, h⟩ := oH_G h
    refine o_iald (pc := 36) kd_1023 j_1023 hg dX9_sortOf_36 ?_
    refine o_goto 46 (pc := 37) dX9_sortOf_37 (by decide) ?_
    exact s_X9_sortOf_K46 he hR  hE h
def f_X9_sortOf_K23 (zv1 : Int32) (zv3 : Int64) (S : oS) : Option (Int32 × oS) :=
  f_X9_sortOf_K24 zv1 zv3 (0 : Int32) S
set_option maxHeartbeats 4000000 in
theorem s_X9_sortOf_K23 {X : oX} {e : Nat} (he : 0 ≤ e) (hR : oRoom X (e + 1)) {zv1 : Int32} {zv3 : Int64} {P : Int32 × oS → Prop} (hE : oEI X mX9_sortOf P) {S : oS} (h : oH (f_X9_sortOf_K23 zv1 zv3 S) P) : oVv X mX9_sortOf 23 [(0, orf 1000 0), (1, oi zv1), (3, ol zv3)] [] S := by
  unfold f_X9_sortOf_K23 at h
  refine o_iconst (v := 0) (pc := 23) dX9_sortOf_23 (by decide) ?_
  exact s_X9_sortOf_K24 he hR  hE h
def f_X9_sortOf  (za1 : Int32) (za2 : Int32) (za3 : Int64) (S : oS) : Option (Int32 × oS) :=
  if oIn za1 8 then (
  if (S.1 1022 0 (Int32.toNatClampNeg za1)) ≤ 0 then (
  f_X9_sortOf_K23 za1 za3 S) else (
  if oIn za1 8 then (
  if za2 ≤ (S.1 1022 0 (Int32.toNatClampNeg za1)) then (
  f_X9_sortOf_K23 za1 za3 S) else (
  f_X9_sortOf_K24 za1 za3 (1 : Int32) S)) else none)) else none
set_option maxHeartbeats 4000000 in
theorem s_X9_sortOf {G : oG} {r : oR} (d : Nat) (hd : 1 ≤ d) {za1 : Int32} {za2 : Int32} {za3 : Int64}  {S : oS} {P : Int32 × oS → Prop} (h : oH (f_X9_sortOf za1 za2 za3 S) P) : oCt G r d yX9_sortOf mX9_sortOf [orf 1000 0, oi za1, oi za2, ol za3] S (oQi P) := by
  unfold f_X9_sortOf at h
  refine oCt_of (by decide) rfl (Nat.le_of_ble_eq_true rfl) ?_
  intro X hG hr hE0 hR
  subst hG; subst hr
  obtain ⟨e, rfl⟩ : ∃ e, d = e + 1 := ⟨d - 1, by omega⟩
  have he : 0 ≤ e := by omega
  have hE := oEI_of hE0 rfl
  clear hE0 hd
  show oVv X mX9_sortOf 0 [(0, orf 1000 0), (1, oi za1), (2, oi za2), (3, ol za3)] [] S
  refine o_aload_n (pc := 0) dX9_sortOf_0 rfl 0 rfl ?_
  refine o_getA (pc := 1) fd_RX9_52 ft_1000_21 j_1000 dX9_sortOf_1 ?_
  refine o_iload_n (pc := 4) dX9_sortOf_4 rfl 1 rfl ?_
  obtain ⟨hg, h⟩ := oH_G h
  refine o_iald (pc := 5) kd_1022 j_1022 hg dX9_sortOf_5 ?_
  refine o_if_le 23 (pc := 6) dX9_sortOf_6 (by decide) (fun hc => ?_) (fun hc => ?_)
  · have h := oH_T hc h
    refine o_weak [0, 1, 3] rfl ?_
    exact s_X9_sortOf_K23 he hR  hE h
  · have h := oH_F hc h
    refine o_iload_n (pc := 9) dX9_sortOf_9 rfl 2 rfl ?_
    refine o_aload_n (pc := 10) dX9_sortOf_10 rfl 0 rfl ?_
    refine o_getA (pc := 11) fd_RX9_52 ft_1000_21 j_1000 dX9_sortOf_11 ?_
    refine o_iload_n (pc := 14) dX9_sortOf_14 rfl 1 rfl ?_
    obtain ⟨hg, h⟩ := oH_G h
    refine o_iald (pc := 15) kd_1022 j_1022 hg dX9_sortOf_15 ?_
    refine o_icmp_le 23 (pc := 16) dX9_sortOf_16 (by decide) (fun hc => ?_) (fun hc => ?_)
    · have h := oH_T hc h
      refine o_weak [0, 1, 3] rfl ?_
      exact s_X9_sortOf_K23 he hR  hE h
    · have h := oH_F hc h
      refine o_iconst (v := 1) (pc := 19) dX9_sortOf_19 (by decide) ?_
      refine o_goto 24 (pc := 20) dX9_sortOf_20 (by decide) ?_
      refine o_weak [0, 1, 3] rfl ?_
      exact s_X9_sortOf_K24 he hR  hE h
def f_X9_bake_K66 (zv1 : Int32) (zv2 : Int32) (zs0 : Int64) (S : oS) : Option ((Int32 × oS) ⊕ (oS)) :=
  if oIn zv2 12 then (
  if oIn zv2 12 then (
  oLet (oStL S 1050 0 (Int32.toNatClampNeg zv2) ((S.2 1050 0 (Int32.toNatClampNeg zv2)) - zs0)) fun zS4 =>
  oLet (oStL zS4 1000 0 10 ((zS4.2 1000 0 10) + zs0)) fun zS5 =>
  oLet (zv1 + (1 : Int32)) fun zx6 =>
  some (Sum.inl (zx6, zS5))) else none) else none
set_option maxHeartbeats 4000000 in
theorem s_X9_bake_K66 {X : oX} {e : Nat} (he : 2 ≤ e) (hR : oRoom X (e + 1)) {zv1 : Int32} {zv2 : Int32} {zs0 : Int64} {VH : Int32 × oS → Prop} {VE : oS → Prop} (hVH : ∀ z, VH z → oVv X mX9_bake 2 [(0, orf 1000 0), (1, oi z.1)] [] z.2) (hVE : ∀ z, VE z → oVv X mX9_bake 93 [(0, orf 1000 0)] [] z) {S : oS} (h : oH (f_X9_bake_K66 zv1 zv2 zs0 S) (fun z => Sum.elim VH VE z)) : oVv X mX9_bake 66 [(0, orf 1000 0), (1, oi zv1), (2, oi zv2)] [ol zs0] S := by
  unfold f_X9_bake_K66 at h
  refine o_lstore_n (lv1 := [(0, orf 1000 0), (1, oi zv1), (2, oi zv2), (3, ol zs0)]) (pc := 66) dX9_bake_66 rfl (by decide) rfl ?_
  refine o_aload_n (pc := 67) dX9_bake_67 rfl 0 rfl ?_
  refine o_getA (pc := 68) fd_RX9_112 ft_1000_49 j_1000 dX9_bake_68 ?_
  refine o_iload_n (pc := 71) dX9_bake_71 rfl 2 rfl ?_
  refine o_dup2 (pc := 72) dX9_bake_72 rfl rfl ?_
  obtain ⟨hg, h⟩ := oH_G h
  refine o_lald (pc := 73) kd_1050 j_1050 hg dX9_bake_73 ?_
  refine o_lload_n (pc := 74) dX9_bake_74 rfl 3 rfl ?_
  refine o_lsub (pc := 75) dX9_bake_75 ?_
  obtain ⟨hg, h⟩ := oH_G h
  have hgi := hg
  refine o_last (pc := 76) kd_1050 j_1050 hgi dX9_bake_76 ?_
  refine o_nmS (fun zS4 hx => ?_)
  have h := oH_let h zS4 hx
  clear hx
  refine o_aload_n (pc := 77) dX9_bake_77 rfl 0 rfl ?_
  refine o_dup (pc := 78) dX9_bake_78 rfl ?_
  refine o_getL (pc := 79) fd_RX9_201 ft_1000_10 j_1000 dX9_bake_79 ?_
  refine o_lload_n (pc := 82) dX9_bake_82 rfl 3 rfl ?_
  refine o_ladd (pc := 83) dX9_bake_83 ?_
  refine o_putL (pc := 84) fd_RX9_201 fp_1000_10 ft_1000_10 j_1000 dX9_bake_84 ?_
  refine o_nmS (fun zS5 hx => ?_)
  have h := oH_let h zS5 hx
  clear hx
  obtain ⟨zx6, hx⟩ : ∃ y : Int32, y = zv1 + (1 : Int32) := ⟨_, rfl⟩
  have h := oH_let h zx6 hx
  refine o_iinc (lv1 := [(0, orf 1000 0), (1, oi zx6), (2, oi zv2), (3, ol zs0)]) (pc := 87) dX9_bake_87 1 rfl hx.symm (by decide) rfl ?_
  clear hx
  refine o_goto 2 (pc := 90) dX9_bake_90 (by decide) ?_
  refine o_weak [0, 1] rfl ?_
  exact hVH _ (oH_some (P := fun z => Sum.elim VH VE z) h)
def f_X9_bake_K54 (zv1 : Int32) (zv2 : Int32) (zs0 : Int64) (S : oS) : Option ((Int32 × oS) ⊕ (oS)) :=
  if (0 : Int64) ≤ zs0 then (
  f_X9_bake_K66 zv1 zv2 zs0 S) else (
  f_X9_bake_K66 zv1 zv2 (0 : Int64) S)
set_option maxHeartbeats 4000000 in
theorem s_X9_bake_K54 {X : oX} {e : Nat} (he : 2 ≤ e) (hR : oRoom X (e + 1)) {zv1 : Int32} {zv2 : Int32} {zs0 : Int64} {VH : Int32 × oS → Prop} {VE : oS → Prop} (hVH : ∀ z, VH z → oVv X mX9_bake 2 [(0, orf 1000 0), (1, oi z.1)] [] z.2) (hVE : ∀ z, VE z → oVv X mX9_bake 93 [(0, orf 1000 0)] [] z) {S : oS} (h : oH (f_X9_bake_K54 zv1 zv2 zs0 S) (fun z => Sum.elim VH VE z)) : oVv X mX9_bake 54 [(0, orf 1000 0), (1, oi zv1), (2, oi zv2)] [ol zs0] S := by
  unfold f_X9_bake_K54 at h
  refine o_lstore_n (lv1 := [(0, orf 1000 0), (1, oi zv1), (2, oi zv2), (3, ol zs0)]) (pc := 54) dX9_bake_54 rfl (by decide) rfl ?_
  refine o_lload_n (pc := 55) dX9_bake_55 rfl 3 rfl ?_
  refine o_lconst (v := 0) (pc := 56) dX9_bake_56 (by decide) ?_
  refine o_lcmp_ge 65 (pc := 57) dX9_bake_57 dX9_bake_58 (by decide) (fun hc => ?_) (fun hc => ?_)
  · have h := oH_T hc h
    refine o_lload_n (pc := 65) dX9_bake_65 rfl 3 rfl ?_
    refine o_weak [0, 1, 2] rfl ?_
    exact s_X9_bake_K66 he hR  hVH hVE h
  · have h := oH_F hc h
    refine o_lconst (v := 0) (pc := 61) dX9_bake_61 (by decide) ?_
    refine o_goto 66 (pc := 62) dX9_bake_62 (by decide) ?_
    refine o_weak [0, 1, 2] rfl ?_
    exact s_X9_bake_K66 he hR  hVH hVE h
def f_X9_bake_L2  : Int32 × oS → Option ((Int32 × oS) ⊕ (oS)) := fun w =>
  match w with
  | (zv1, S) =>
    if (S.1 1000 0 24) ≤ zv1 then (
    some (Sum.inr S)) else (
    (f_X9_isInside zv1 S).bind fun zz1 =>
    if zz1.1 = 0 then (
    oLet (zv1 + (1 : Int32)) fun zx2 =>
    some (Sum.inl (zx2, zz1.2))) else (
    if oIn zv1 200 then (
    (f_X9_cellOf (zz1.2.1 1027 0 (Int32.toNatClampNeg zv1)) (0 : Int32) zz1.2).bind fun zz3 =>
    if oIn zz3.1 12 then (
    if (15 : Int64) ≤ (zz3.2.2 1050 0 (Int32.toNatClampNeg zz3.1)) then (
    f_X9_bake_K54 zv1 zz3.1 (15 : Int64) zz3.2) else (
    if oIn zz3.1 12 then (
    f_X9_bake_K54 zv1 zz3.1 (zz3.2.2 1050 0 (Int32.toNatClampNeg zz3.1)) zz3.2) else none)) else none) else none))
set_option maxHeartbeats 4000000 in
theorem s_X9_bake_L2b {X : oX} {e : Nat} (he : 2 ≤ e) (hR : oRoom X (e + 1))  {VH : Int32 × oS → Prop} {VE : oS → Prop} (hVH : ∀ z, VH z → oVv X mX9_bake 2 [(0, orf 1000 0), (1, oi z.1)] [] z.2) (hVE : ∀ z, VE z → oVv X mX9_bake 93 [(0, orf 1000 0)] [] z) {zv1 : Int32} {S : oS} (h : oH (f_X9_bake_L2 (zv1, S)) (fun z => Sum.elim VH VE z)) : oVv X mX9_bake 2 [(0, orf 1000 0), (1, oi zv1)] [] S := by
  dsimp only [f_X9_bake_L2] at h
  refine o_iload_n (pc := 2) dX9_bake_2 rfl 1 rfl ?_
  refine o_aload_n (pc := 3) dX9_bake_3 rfl 0 rfl ?_
  refine o_getI (pc := 4) fd_RX9_193 ft_1000_24 j_1000 dX9_bake_4 ?_
  refine o_icmp_ge 93 (pc := 7) dX9_bake_7 (by decide) (fun hc => ?_) (fun hc => ?_)
  · have h := oH_T hc h
    refine o_weak [0] rfl ?_
    exact hVE _ (oH_some (P := fun z => Sum.elim VH VE z) h)
  · have h := oH_F hc h
    refine o_aload_n (pc := 10) dX9_bake_10 rfl 0 rfl ?_
    refine o_iload_n (pc := 11) dX9_bake_11 rfl 1 rfl ?_
    have h := oH_bind h
    refine o_callVi (pc := 12) (st := []) [oi zv1] hR md_X9_isInside wd_1128 wd_1130 ws_29 tc_1000 j_1000 rfl (Nat.le_of_ble_eq_true rfl) rfl dX9_bake_12 (s_X9_isInside e (by omega)  h) (fun zz1 h => ?_)
    refine o_if_eq 87 (pc := 15) dX9_bake_15 (by decide) (fun hc => ?_) (fun hc => ?_)
    · have h := oH_T hc h
      obtain ⟨zx2, hx⟩ : ∃ y : Int32, y = zv1 + (1 : Int32) := ⟨_, rfl⟩
      have h := oH_let h zx2 hx
      refine o_iinc (lv1 := [(0, orf 1000 0), (1, oi zx2)]) (pc := 87) dX9_bake_87 1 rfl hx.symm (by decide) rfl ?_
      clear hx
      refine o_goto 2 (pc := 90) dX9_bake_90 (by decide) ?_
      exact hVH _ (oH_some (P := fun z => Sum.elim VH VE z) h)
    · have h := oH_F hc h
      refine o_aload_n (pc := 18) dX9_bake_18 rfl 0 rfl ?_
      refine o_getA (pc := 19) fd_RX9_64 ft_1000_26 j_1000 dX9_bake_19 ?_
      refine o_iload_n (pc := 22) dX9_bake_22 rfl 1 rfl ?_
      obtain ⟨hg, h⟩ := oH_G h
      refine o_iald (pc := 23) kd_1027 j_1027 hg dX9_bake_23 ?_
      refine o_iconst (v := 0) (pc := 24) dX9_bake_24 (by decide) ?_
      have h := oH_bind h
      refine o_callSi (pc := 25) (st := []) [oi (zz1.2.1 1027 0 (Int32.toNatClampNeg zv1)), oi (0 : Int32)] hR md_X9_cellOf wd_1106 wd_1107 rfl (Nat.le_of_ble_eq_true rfl) rfl dX9_bake_25 (s_X9_cellOf e (by omega)  h) (fun zz3 h => ?_)
      refine o_istore_n (lv1 := [(0, orf 1000 0), (1, oi zv1), (2, oi zz3.1)]) (pc := 28) dX9_bake_28 rfl (by decide) rfl ?_
      refine o_aload_n (pc := 29) dX9_bake_29 rfl 0 rfl ?_
      refine o_getA (pc := 30) fd_RX9_112 ft_1000_49 j_1000 dX9_bake_30 ?_
      refine o_iload_n (pc := 33) dX9_bake_33 rfl 2 rfl ?_
      obtain ⟨hg, h⟩ := oH_G h
      refine o_lald (pc := 34) kd_1050 j_1050 hg dX9_bake_34 ?_
      refine o_ldc2 (v := 15) (pc := 35) dX9_bake_35 wd_1132 ?_
      refine o_lcmp_ge 51 (pc := 38) dX9_bake_38 dX9_bake_39 (by decide) (fun hc => ?_) (fun hc => ?_)
      · have h := oH_T hc h
        refine o_ldc2 (v := 15) (pc := 51) dX9_bake_51 wd_1132 ?_
        exact s_X9_bake_K54 he hR  hVH hVE h
      · have h := oH_F hc h
        refine o_aload_n (pc := 42) dX9_bake_42 rfl 0 rfl ?_
        refine o_getA (pc := 43) fd_RX9_112 ft_1000_49 j_1000 dX9_bake_43 ?_
        refine o_iload_n (pc := 46) dX9_bake_46 rfl 2 rfl ?_
        obtain ⟨hg, h⟩ := oH_G h
        refine o_lald (pc := 47) kd_1050 j_1050 hg dX9_bake_47 ?_
        refine o_goto 54 (pc := 48) dX9_bake_48 (by decide) ?_
        exact s_X9_bake_K54 he hR  hVH hVE h
theorem s_X9_bake_L2 {X : oX} {e : Nat} (he : 2 ≤ e) (hR : oRoom X (e + 1))   {VE : oS → Prop} (hVE : ∀ z, VE z → oVv X mX9_bake 93 [(0, orf 1000 0)] [] z) (n : Nat) (w : Int32 × oS) (h : oH (oLp (f_X9_bake_L2) n w) VE) : oVv X mX9_bake 2 [(0, orf 1000 0), (1, oi w.1)] [] w.2 :=
  oLp_s (VH := fun w => oVv X mX9_bake 2 [(0, orf 1000 0), (1, oi w.1)] [] w.2) (fun w h => s_X9_bake_L2b he hR  (fun _ h => h) hVE h) n w h
def f_X9_bake_K202 (zv1 : Int32) (zs1 : Int32) (zs2 : Int32) (zs3 : Int32) (S : oS) : Option ((Int32 × oS) ⊕ (oS)) :=
  if oIn zs1 200 then (
  oLet (oStI S 1031 0 (Int32.toNatClampNeg zs1) (zs2 + zs3)) fun zS15 =>
  oLet (zv1 + (1 : Int32)) fun zx16 =>
  some (Sum.inl (zx16, zS15))) else none
set_option maxHeartbeats 4000000 in
theorem s_X9_bake_K202 {X : oX} {e : Nat} (he : 2 ≤ e) (hR : oRoom X (e + 1)) {zv1 : Int32} {zs1 : Int32} {zs2 : Int32} {zs3 : Int32} {VH : Int32 × oS → Prop} {VE : oS → Prop} (hVH : ∀ z, VH z → oVv X mX9_bake 95 [(0, orf 1000 0), (1, oi z.1)] [] z.2) (hVE : ∀ z, VE z → oVv X mX9_bake 210 [] [] z) {S : oS} (h : oH (f_X9_bake_K202 zv1 zs1 zs2 zs3 S) (fun z => Sum.elim VH VE z)) : oVv X mX9_bake 202 [(0, orf 1000 0), (1, oi zv1)] [oi zs3, oi zs2, oi zs1, orf 1031 0] S := by
  unfold f_X9_bake_K202 at h
  refine o_iadd (pc := 202) dX9_bake_202 ?_
  obtain ⟨hg, h⟩ := oH_G h
  have hgi := hg
  refine o_iast (pc := 203) kd_1031 j_1031 hgi dX9_bake_203 ?_
  refine o_nmS (fun zS15 hx => ?_)
  have h := oH_let h zS15 hx
  clear hx
  obtain ⟨zx16, hx⟩ : ∃ y : Int32, y = zv1 + (1 : Int32) := ⟨_, rfl⟩
  have h := oH_let h zx16 hx
  refine o_iinc (lv1 := [(0, orf 1000 0), (1, oi zx16)]) (pc := 204) dX9_bake_204 1 rfl hx.symm (by decide) rfl ?_
  clear hx
  refine o_goto 95 (pc := 207) dX9_bake_207 (by decide) ?_
  exact hVH _ (oH_some (P := fun z => Sum.elim VH VE z) h)
def f_X9_bake_K184 (zv1 : Int32) (zv2 : Int32) (zs1 : Int32) (zs2 : Int32) (zs3 : Int32) (S : oS) : Option ((Int32 × oS) ⊕ (oS)) :=
  if oIn zs1 200 then (
  oLet (oStI S 1030 0 (Int32.toNatClampNeg zs1) (zs2 + zs3)) fun zS14 =>
  if oIn zv1 200 then (
  if zv2 = 0 then (
  f_X9_bake_K202 zv1 zv1 (zS14.1 1031 0 (Int32.toNatClampNeg zv1)) (1 : Int32) zS14) else (
  f_X9_bake_K202 zv1 zv1 (zS14.1 1031 0 (Int32.toNatClampNeg zv1)) (0 : Int32) zS14)) else none) else none
set_option maxHeartbeats 4000000 in
theorem s_X9_bake_K184 {X : oX} {e : Nat} (he : 2 ≤ e) (hR : oRoom X (e + 1)) {zv1 : Int32} {zv2 : Int32} {zs1 : Int32} {zs2 : Int32} {zs3 : Int32} {VH : Int32 × oS → Prop} {VE : oS → Prop} (hVH : ∀ z, VH z → oVv X mX9_bake 95 [(0, orf 1000 0), (1, oi z.1)] [] z.2) (hVE : ∀ z, VE z → oVv X mX9_bake 210 [] [] z) {S : oS} (h : oH (f_X9_bake_K184 zv1 zv2 zs1 zs2 zs3 S) (fun z => Sum.elim VH VE z)) : oVv X mX9_bake 184 [(0, orf 1000 0), (1, oi zv1), (2, oi zv2)] [oi zs3, oi zs2, oi zs1, orf 1030 0] S := by
  unfold f_X9_bake_K184 at h
  refine o_iadd (pc := 184) dX9_bake_184 ?_
  obtain ⟨hg, h⟩ := oH_G h
  have hgi := hg
  refine o_iast (pc := 185) kd_1030 j_1030 hgi dX9_bake_185 ?_
  refine o_nmS (fun zS14 hx => ?_)
  have h := oH_let h zS14 hx
  clear hx
  refine o_aload_n (pc := 186) dX9_bake_186 rfl 0 rfl ?_
  refine o_getA (pc := 187) fd_RX9_76 ft_1000_30 j_1000 dX9_bake_187 ?_
  refine o_iload_n (pc := 190) dX9_bake_190 rfl 1 rfl ?_
  refine o_dup2 (pc := 191) dX9_bake_191 rfl rfl ?_
  obtain ⟨hg, h⟩ := oH_G h
  refine o_iald (pc := 192) kd_1031 j_1031 hg dX9_bake_192 ?_
  refine o_iload_n (pc := 193) dX9_bake_193 rfl 2 rfl ?_
  refine o_if_ne 201 (pc := 194) dX9_bake_194 (by decide) (fun hc => ?_) (fun hc => ?_)
  · have h := oH_F hc h
    refine o_iconst (v := 0) (pc := 201) dX9_bake_201 (by decide) ?_
    refine o_weak [0, 1] rfl ?_
    exact s_X9_bake_K202 he hR  hVH hVE h
  · have h := oH_T hc h
    refine o_iconst (v := 1) (pc := 197) dX9_bake_197 (by decide) ?_
    refine o_goto 202 (pc := 198) dX9_bake_198 (by decide) ?_
    refine o_weak [0, 1] rfl ?_
    exact s_X9_bake_K202 he hR  hVH hVE h
def f_X9_bake_K165 (zv1 : Int32) (zv2 : Int32) (zs1 : Int32) (zs2 : Int32) (zs3 : Int32) (S : oS) : Option ((Int32 × oS) ⊕ (oS)) :=
  if oIn zs1 200 then (
  oLet (oStI S 1029 0 (Int32.toNatClampNeg zs1) (zs2 + zs3)) fun zS13 =>
  if oIn zv1 200 then (
  if zv2 = (2 : Int32) then (
  f_X9_bake_K184 zv1 zv2 zv1 (zS13.1 1030 0 (Int32.toNatClampNeg zv1)) (1 : Int32) zS13) else (
  f_X9_bake_K184 zv1 zv2 zv1 (zS13.1 1030 0 (Int32.toNatClampNeg zv1)) (0 : Int32) zS13)) else none) else none
set_option maxHeartbeats 4000000 in
theorem s_X9_bake_K165 {X : oX} {e : Nat} (he : 2 ≤ e) (hR : oRoom X (e + 1)) {zv1 : Int32} {zv2 : Int32} {zs1 : Int32} {zs2 : Int32} {zs3 : Int32} {VH : Int32 × oS → Prop} {VE : oS → Prop} (hVH : ∀ z, VH z → oVv X mX9_bake 95 [(0, orf 1000 0), (1, oi z.1)] [] z.2) (hVE : ∀ z, VE z → oVv X mX9_bake 210 [] [] z) {S : oS} (h : oH (f_X9_bake_K165 zv1 zv2 zs1 zs2 zs3 S) (fun z => Sum.elim VH VE z)) : oVv X mX9_bake 165 [(0, orf 1000 0), (1, oi zv1), (2, oi zv2)] [oi zs3, oi zs2, oi zs1, orf 1029 0] S := by
  unfold f_X9_bake_K165 at h
  refine o_iadd (pc := 165) dX9_bake_165 ?_
  obtain ⟨hg, h⟩ := oH_G h
  have hgi := hg
  refine o_iast (pc := 166) kd_1029 j_1029 hgi dX9_bake_166 ?_
  refine o_nmS (fun zS13 hx => ?_)
  have h := oH_let h zS13 hx
  clear hx
  refine o_aload_n (pc := 167) dX9_bake_167 rfl 0 rfl ?_
  refine o_getA (pc := 168) fd_RX9_73 ft_1000_29 j_1000 dX9_bake_168 ?_
  refine o_iload_n (pc := 171) dX9_bake_171 rfl 1 rfl ?_
  refine o_dup2 (pc := 172) dX9_bake_172 rfl rfl ?_
  obtain ⟨hg, h⟩ := oH_G h
  refine o_iald (pc := 173) kd_1030 j_1030 hg dX9_bake_173 ?_
  refine o_iload_n (pc := 174) dX9_bake_174 rfl 2 rfl ?_
  refine o_iconst (v := 2) (pc := 175) dX9_bake_175 (by decide) ?_
  refine o_icmp_ne 183 (pc := 176) dX9_bake_176 (by decide) (fun hc => ?_) (fun hc => ?_)
  · have h := oH_F hc h
    refine o_iconst (v := 0) (pc := 183) dX9_bake_183 (by decide) ?_
    exact s_X9_bake_K184 he hR  hVH hVE h
  · have h := oH_T hc h
    refine o_iconst (v := 1) (pc := 179) dX9_bake_179 (by decide) ?_
    refine o_goto 184 (pc := 180) dX9_bake_180 (by decide) ?_
    exact s_X9_bake_K184 he hR  hVH hVE h
def f_X9_bake_L95  : Int32 × oS → Option ((Int32 × oS) ⊕ (oS)) := fun w =>
  match w with
  | (zv1, S) =>
    if (S.1 1000 0 24) ≤ zv1 then (
    some (Sum.inr S)) else (
    (f_X9_isInside zv1 S).bind fun zz8 =>
    if zz8.1 = 0 then (
    oLet (zv1 + (1 : Int32)) fun zx9 =>
    some (Sum.inl (zx9, zz8.2))) else (
    if oIn zv1 200 then (
    if oIn zv1 200 then (
    oLet (oStI zz8.2 1028 0 (Int32.toNatClampNeg zv1) ((zz8.2.1 1028 0 (Int32.toNatClampNeg zv1)) + (1 : Int32))) fun zS10 =>
    if oIn zv1 200 then (
    if oIn zv1 200 then (
    if oIn zv1 200 then (
    (f_X9_faceOf (zS10.1 1027 0 (Int32.toNatClampNeg zv1)) zS10).bind fun zz11 =>
    (f_X9_sortOf (zS10.1 1026 0 (Int32.toNatClampNeg zv1)) (zS10.1 1028 0 (Int32.toNatClampNeg zv1)) zz11.1 zz11.2).bind fun zz12 =>
    if oIn zv1 200 then (
    if zz12.1 = (1 : Int32) then (
    f_X9_bake_K165 zv1 zz12.1 zv1 (zz12.2.1 1029 0 (Int32.toNatClampNeg zv1)) (1 : Int32) zz12.2) else (
    f_X9_bake_K165 zv1 zz12.1 zv1 (zz12.2.1 1029 0 (Int32.toNatClampNeg zv1)) (0 : Int32) zz12.2)) else none) else none) else none) else none) else none) else none))
set_option maxHeartbeats 4000000 in
theorem s_X9_bake_L95b {X : oX} {e : Nat} (he : 2 ≤ e) (hR : oRoom X (e + 1))  {VH : Int32 × oS → Prop} {VE : oS → Prop} (hVH : ∀ z, VH z → oVv X mX9_bake 95 [(0, orf 1000 0), (1, oi z.1)] [] z.2) (hVE : ∀ z, VE z → oVv X mX9_bake 210 [] [] z) {zv1 : Int32} {S : oS} (h : oH (f_X9_bake_L95 (zv1, S)) (fun z => Sum.elim VH VE z)) : oVv X mX9_bake 95 [(0, orf 1000 0), (1, oi zv1)] [] S := by
  dsimp only [f_X9_bake_L95] at h
  refine o_iload_n (pc := 95) dX9_bake_95 rfl 1 rfl ?_
  refine o_aload_n (pc := 96) dX9_bake_96 rfl 0 rfl ?_
  refine o_getI (pc := 97) fd_RX9_193 ft_1000_24 j_1000 dX9_bake_97 ?_
  refine o_icmp_ge 210 (pc := 100) dX9_bake_100 (by decide) (fun hc => ?_) (fun hc => ?_)
  · have h := oH_T hc h
    refine o_weak [] rfl ?_
    exact hVE _ (oH_some (P := fun z => Sum.elim VH VE z) h)
  · have h := oH_F hc h
    refine o_aload_n (pc := 103) dX9_bake_103 rfl 0 rfl ?_
    refine o_iload_n (pc := 104) dX9_bake_104 rfl 1 rfl ?_
    have h := oH_bind h
    refine o_callVi (pc := 105) (st := []) [oi zv1] hR md_X9_isInside wd_1128 wd_1130 ws_29 tc_1000 j_1000 rfl (Nat.le_of_ble_eq_true rfl) rfl dX9_bake_105 (s_X9_isInside e (by omega)  h) (fun zz8 h => ?_)
    refine o_if_eq 204 (pc := 108) dX9_bake_108 (by decide) (fun hc => ?_) (fun hc => ?_)
    · have h := oH_T hc h
      obtain ⟨zx9, hx⟩ : ∃ y : Int32, y = zv1 + (1 : Int32) := ⟨_, rfl⟩
      have h := oH_let h zx9 hx
      refine o_iinc (lv1 := [(0, orf 1000 0), (1, oi zx9)]) (pc := 204) dX9_bake_204 1 rfl hx.symm (by decide) rfl ?_
      clear hx
      refine o_goto 95 (pc := 207) dX9_bake_207 (by decide) ?_
      exact hVH _ (oH_some (P := fun z => Sum.elim VH VE z) h)
    · have h := oH_F hc h
      refine o_aload_n (pc := 111) dX9_bake_111 rfl 0 rfl ?_
      refine o_getA (pc := 112) fd_RX9_67 ft_1000_27 j_1000 dX9_bake_112 ?_
      refine o_iload_n (pc := 115) dX9_bake_115 rfl 1 rfl ?_
      refine o_dup2 (pc := 116) dX9_bake_116 rfl rfl ?_
      obtain ⟨hg, h⟩ := oH_G h
      refine o_iald (pc := 117) kd_1028 j_1028 hg dX9_bake_117 ?_
      refine o_iconst (v := 1) (pc := 118) dX9_bake_118 (by decide) ?_
      refine o_iadd (pc := 119) dX9_bake_119 ?_
      obtain ⟨hg, h⟩ := oH_G h
      have hgi := hg
      refine o_iast (pc := 120) kd_1028 j_1028 hgi dX9_bake_120 ?_
      refine o_nmS (fun zS10 hx => ?_)
      have h := oH_let h zS10 hx
      clear hx
      refine o_aload_n (pc := 121) dX9_bake_121 rfl 0 rfl ?_
      refine o_aload_n (pc := 122) dX9_bake_122 rfl 0 rfl ?_
      refine o_getA (pc := 123) fd_RX9_61 ft_1000_25 j_1000 dX9_bake_123 ?_
      refine o_iload_n (pc := 126) dX9_bake_126 rfl 1 rfl ?_
      obtain ⟨hg, h⟩ := oH_G h
      refine o_iald (pc := 127) kd_1026 j_1026 hg dX9_bake_127 ?_
      refine o_aload_n (pc := 128) dX9_bake_128 rfl 0 rfl ?_
      refine o_getA (pc := 129) fd_RX9_67 ft_1000_27 j_1000 dX9_bake_129 ?_
      refine o_iload_n (pc := 132) dX9_bake_132 rfl 1 rfl ?_
      obtain ⟨hg, h⟩ := oH_G h
      refine o_iald (pc := 133) kd_1028 j_1028 hg dX9_bake_133 ?_
      refine o_aload_n (pc := 134) dX9_bake_134 rfl 0 rfl ?_
      refine o_aload_n (pc := 135) dX9_bake_135 rfl 0 rfl ?_
      refine o_getA (pc := 136) fd_RX9_64 ft_1000_26 j_1000 dX9_bake_136 ?_
      refine o_iload_n (pc := 139) dX9_bake_139 rfl 1 rfl ?_
      obtain ⟨hg, h⟩ := oH_G h
      refine o_iald (pc := 140) kd_1027 j_1027 hg dX9_bake_140 ?_
      have h := oH_bind h
      refine o_callVl (pc := 141) (st := [oi (zS10.1 1028 0 (Int32.toNatClampNeg zv1)), oi (zS10.1 1026 0 (Int32.toNatClampNeg zv1)), orf 1000 0]) [oi (zS10.1 1027 0 (Int32.toNatClampNeg zv1))] hR md_X9_faceOf wd_1133 wd_1135 ws_30 tc_1000 j_1000 rfl (Nat.le_of_ble_eq_true rfl) rfl dX9_bake_141 (s_X9_faceOf e (by omega)  h) (fun zz11 h => ?_)
      have h := oH_bind h
      refine o_callVi (pc := 144) (st := []) [oi (zS10.1 1026 0 (Int32.toNatClampNeg zv1)), oi (zS10.1 1028 0 (Int32.toNatClampNeg zv1)), ol zz11.1] hR md_X9_sortOf wd_1137 wd_1139 ws_31 tc_1000 j_1000 rfl (Nat.le_of_ble_eq_true rfl) rfl dX9_bake_144 (s_X9_sortOf e (by omega)  h) (fun zz12 h => ?_)
      refine o_istore_n (lv1 := [(0, orf 1000 0), (1, oi zv1), (2, oi zz12.1)]) (pc := 147) dX9_bake_147 rfl (by decide) rfl ?_
      refine o_aload_n (pc := 148) dX9_bake_148 rfl 0 rfl ?_
      refine o_getA (pc := 149) fd_RX9_70 ft_1000_28 j_1000 dX9_bake_149 ?_
      refine o_iload_n (pc := 152) dX9_bake_152 rfl 1 rfl ?_
      refine o_dup2 (pc := 153) dX9_bake_153 rfl rfl ?_
      obtain ⟨hg, h⟩ := oH_G h
      refine o_iald (pc := 154) kd_1029 j_1029 hg dX9_bake_154 ?_
      refine o_iload_n (pc := 155) dX9_bake_155 rfl 2 rfl ?_
      refine o_iconst (v := 1) (pc := 156) dX9_bake_156 (by decide) ?_
      refine o_icmp_ne 164 (pc := 157) dX9_bake_157 (by decide) (fun hc => ?_) (fun hc => ?_)
      · have h := oH_F hc h
        refine o_iconst (v := 0) (pc := 164) dX9_bake_164 (by decide) ?_
        exact s_X9_bake_K165 he hR  hVH hVE h
      · have h := oH_T hc h
        refine o_iconst (v := 1) (pc := 160) dX9_bake_160 (by decide) ?_
        refine o_goto 165 (pc := 161) dX9_bake_161 (by decide) ?_
        exact s_X9_bake_K165 he hR  hVH hVE h
theorem s_X9_bake_L95 {X : oX} {e : Nat} (he : 2 ≤ e) (hR : oRoom X (e + 1))   {VE : oS → Prop} (hVE : ∀ z, VE z → oVv X mX9_bake 210 [] [] z) (n : Nat) (w : Int32 × oS) (h : oH (oLp (f_X9_bake_L95) n w) VE) : oVv X mX9_bake 95 [(0, orf 1000 0), (1, oi w.1)] [] w.2 :=
  oLp_s (VH := fun w => oVv X mX9_bake 95 [(0, orf 1000 0), (1, oi w.1)] [] w.2) (fun w h => s_X9_bake_L95b he hR  (fun _ h => h) hVE h) n w h
def f_X9_bake   (S : oS) : Option (oS) :=
  (oLp (f_X9_bake_L2) oFu ((0 : Int32), S)).bind fun zz7 =>
  (oLp (f_X9_bake_L95) oFu ((0 : Int32), zz7)).bind fun zz17 =>
  some zz17
set_option maxHeartbeats 4000000 in
theorem s_X9_bake {G : oG} {r : oR} (d : Nat) (hd : 3 ≤ d)   {S : oS} {P : oS → Prop} (h : oH (f_X9_bake  S) P) : oCt G r d yX9_bake mX9_bake [orf 1000 0] S (oQv P) := by
  unfold f_X9_bake at h
  refine oCt_of (by decide) rfl (Nat.le_of_ble_eq_true rfl) ?_
  intro X hG hr hE0 hR
  subst hG; subst hr
  obtain ⟨e, rfl⟩ : ∃ e, d = e + 1 := ⟨d - 1, by omega⟩
  have he : 2 ≤ e := by omega
  have hE := oEV_of hE0 rfl
  clear hE0 hd
  show oVv X mX9_bake 0 [(0, orf 1000 0)] [] S
  refine o_iconst (v := 0) (pc := 0) dX9_bake_0 (by decide) ?_
  refine o_istore_n (lv1 := [(0, orf 1000 0), (1, oi (0 : Int32))]) (pc := 1) dX9_bake_1 rfl (by decide) rfl ?_
  have h := oH_bind h
  refine s_X9_bake_L2 he hR  (fun zz7 h => ?_) _ ((0 : Int32), S) h
  refine o_iconst (v := 0) (pc := 93) dX9_bake_93 (by decide) ?_
  refine o_istore_n (lv1 := [(0, orf 1000 0), (1, oi (0 : Int32))]) (pc := 94) dX9_bake_94 rfl (by decide) rfl ?_
  have h := oH_bind h
  refine s_X9_bake_L95 he hR  (fun zz17 h => ?_) _ ((0 : Int32), zz7) h
  exact hE _ _ _ dX9_bake_210 (oH_some h)
def f_X9_bakedMany_K31 (zv2 : Int32) (zs0 : Int32) (zs1 : Int32) (S : oS) : Option ((Int32 × Int32 × oS) ⊕ (Int32 × oS)) :=
  oLet ((zs0 + zs1)) fun zx1 =>
  oLet (zv2 + (1 : Int32)) fun zx2 =>
  some (Sum.inl (zx1, zx2, S))
set_option maxHeartbeats 4000000 in
theorem s_X9_bakedMany_K31 {X : oX} {e : Nat} (he : 0 ≤ e) (hR : oRoom X (e + 1)) {zv2 : Int32} {zs0 : Int32} {zs1 : Int32} {VH : Int32 × Int32 × oS → Prop} {VE : Int32 × oS → Prop} (hVH : ∀ z, VH z → oVv X mX9_bakedMany 4 [(0, orf 1000 0), (1, oi z.1), (2, oi z.2.1)] [] z.2.2) (hVE : ∀ z, VE z → oVv X mX9_bakedMany 39 [(1, oi z.1)] [] z.2) {S : oS} (h : oH (f_X9_bakedMany_K31 zv2 zs0 zs1 S) (fun z => Sum.elim VH VE z)) : oVv X mX9_bakedMany 31 [(0, orf 1000 0), (2, oi zv2)] [oi zs1, oi zs0] S := by
  unfold f_X9_bakedMany_K31 at h
  refine o_iadd (pc := 31) dX9_bakedMany_31 ?_
  refine o_nmI (fun zx1 hx => ?_)
  have h := oH_let h zx1 hx
  clear hx
  refine o_istore_n (lv1 := [(0, orf 1000 0), (1, oi zx1), (2, oi zv2)]) (pc := 32) dX9_bakedMany_32 rfl (by decide) rfl ?_
  obtain ⟨zx2, hx⟩ : ∃ y : Int32, y = zv2 + (1 : Int32) := ⟨_, rfl⟩
  have h := oH_let h zx2 hx
  refine o_iinc (lv1 := [(0, orf 1000 0), (1, oi zx1), (2, oi zx2)]) (pc := 33) dX9_bakedMany_33 2 rfl hx.symm (by decide) rfl ?_
  clear hx
  refine o_goto 4 (pc := 36) dX9_bakedMany_36 (by decide) ?_
  exact hVH _ (oH_some (P := fun z => Sum.elim VH VE z) h)
def f_X9_bakedMany_L4  : Int32 × Int32 × oS → Option ((Int32 × Int32 × oS) ⊕ (Int32 × oS)) := fun w =>
  match w with
  | (zv1, zv2, S) =>
    if (S.1 1000 0 32) ≤ zv2 then (
    some (Sum.inr (zv1, S))) else (
    if oIn zv2 4 then (
    if (S.1 1063 0 (Int32.toNatClampNeg zv2)) = (S.1 1000 0 57) then (
    f_X9_bakedMany_K31 zv2 zv1 (0 : Int32) S) else (
    f_X9_bakedMany_K31 zv2 zv1 (1 : Int32) S)) else none)
set_option maxHeartbeats 4000000 in
theorem s_X9_bakedMany_L4b {X : oX} {e : Nat} (he : 0 ≤ e) (hR : oRoom X (e + 1))  {VH : Int32 × Int32 × oS → Prop} {VE : Int32 × oS → Prop} (hVH : ∀ z, VH z → oVv X mX9_bakedMany 4 [(0, orf 1000 0), (1, oi z.1), (2, oi z.2.1)] [] z.2.2) (hVE : ∀ z, VE z → oVv X mX9_bakedMany 39 [(1, oi z.1)] [] z.2) {zv1 : Int32} {zv2 : Int32} {S : oS} (h : oH (f_X9_bakedMany_L4 (zv1, zv2, S)) (fun z => Sum.elim VH VE z)) : oVv X mX9_bakedMany 4 [(0, orf 1000 0), (1, oi zv1), (2, oi zv2)] [] S := by
  dsimp only [f_X9_bakedMany_L4] at h
  refine o_iload_n (pc := 4) dX9_bakedMany_4 rfl 2 rfl ?_
  refine o_aload_n (pc := 5) dX9_bakedMany_5 rfl 0 rfl ?_
  refine o_getI (pc := 6) fd_RX9_300 ft_1000_32 j_1000 dX9_bakedMany_6 ?_
  refine o_icmp_ge 39 (pc := 9) dX9_bakedMany_9 (by decide) (fun hc => ?_) (fun hc => ?_)
  · have h := oH_T hc h
    refine o_weak [1] rfl ?_
    exact hVE _ (oH_some (P := fun z => Sum.elim VH VE z) h)
  · have h := oH_F hc h
    refine o_iload_n (pc := 12) dX9_bakedMany_12 rfl 1 rfl ?_
    refine o_aload_n (pc := 13) dX9_bakedMany_13 rfl 0 rfl ?_
    refine o_getA (pc := 14) fd_RX9_136 ft_1000_62 j_1000 dX9_bakedMany_14 ?_
    refine o_iload_n (pc := 17) dX9_bakedMany_17 rfl 2 rfl ?_
    obtain ⟨hg, h⟩ := oH_G h
    refine o_iald (pc := 18) kd_1063 j_1063 hg dX9_bakedMany_18 ?_
    refine o_aload_n (pc := 19) dX9_bakedMany_19 rfl 0 rfl ?_
    refine o_getI (pc := 20) fd_RX9_312 ft_1000_57 j_1000 dX9_bakedMany_20 ?_
    refine o_icmp_ne 30 (pc := 23) dX9_bakedMany_23 (by decide) (fun hc => ?_) (fun hc => ?_)
    · have h := oH_F hc h
      refine o_iconst (v := 1) (pc := 30) dX9_bakedMany_30 (by decide) ?_
      refine o_weak [0, 2] rfl ?_
      exact s_X9_bakedMany_K31 he hR  hVH hVE h
    · have h := oH_T hc h
      refine o_iconst (v := 0) (pc := 26) dX9_bakedMany_26 (by decide) ?_
      refine o_goto 31 (pc := 27) dX9_bakedMany_27 (by decide) ?_
      refine o_weak [0, 2] rfl ?_
      exact s_X9_bakedMany_K31 he hR  hVH hVE h
theorem s_X9_bakedMany_L4 {X : oX} {e : Nat} (he : 0 ≤ e) (hR : oRoom X (e + 1))   {VE : Int32 × oS → Prop} (hVE : ∀ z, VE z → oVv X mX9_bakedMany 39 [(1, oi z.1)] [] z.2) (n : Nat) (w : Int32 × Int32 × oS) (h : oH (oLp (f_X9_bakedMany_L4) n w) VE) : oVv X mX9_bakedMany 4 [(0, orf 1000 0), (1, oi w.1), (2, oi w.2.1)] [] w.2.2 :=
  oLp_s (VH := fun w => oVv X mX9_bakedMany 4 [(0, orf 1000 0), (1, oi w.1), (2, oi w.2.1)] [] w.2.2) (fun w h => s_X9_bakedMany_L4b he hR  (fun _ h => h) hVE h) n w h
def f_X9_bakedMany   (S : oS) : Option (Int32 × oS) :=
  (oLp (f_X9_bakedMany_L4) oFu ((0 : Int32), (0 : Int32), S)).bind fun zz3 =>
  some (zz3.1, zz3.2)
set_option maxHeartbeats 4000000 in
theorem s_X9_bakedMany {G : oG} {r : oR} (d : Nat) (hd : 1 ≤ d)   {S : oS} {P : Int32 × oS → Prop} (h : oH (f_X9_bakedMany  S) P) : oCt G r d yX9_bakedMany mX9_bakedMany [orf 1000 0] S (oQi P) := by
  unfold f_X9_bakedMany at h
  refine oCt_of (by decide) rfl (Nat.le_of_ble_eq_true rfl) ?_
  intro X hG hr hE0 hR
  subst hG; subst hr
  obtain ⟨e, rfl⟩ : ∃ e, d = e + 1 := ⟨d - 1, by omega⟩
  have he : 0 ≤ e := by omega
  have hE := oEI_of hE0 rfl
  clear hE0 hd
  show oVv X mX9_bakedMany 0 [(0, orf 1000 0)] [] S
  refine o_iconst (v := 0) (pc := 0) dX9_bakedMany_0 (by decide) ?_
  refine o_istore_n (lv1 := [(0, orf 1000 0), (1, oi (0 : Int32))]) (pc := 1) dX9_bakedMany_1 rfl (by decide) rfl ?_
  refine o_iconst (v := 0) (pc := 2) dX9_bakedMany_2 (by decide) ?_
  refine o_istore_n (lv1 := [(0, orf 1000 0), (1, oi (0 : Int32)), (2, oi (0 : Int32))]) (pc := 3) dX9_bakedMany_3 rfl (by decide) rfl ?_
  have h := oH_bind h
  refine s_X9_bakedMany_L4 he hR  (fun zz3 h => ?_) _ ((0 : Int32), (0 : Int32), S) h
  refine o_iload_n (pc := 39) dX9_bakedMany_39 rfl 0 rfl ?_
  exact hE _ _ _ _ dX9_bakedMany_40 (oH_some h)
def f_X9_resultOf  (za1 : Int32) (za2 : Int32) (za3 : Int32) (za4 : Int32) (S : oS) : Option (Int32 × oS) :=
  if oIn za1 8 then (
  if za2 ≤ (S.1 1021 0 (Int32.toNatClampNeg za1)) then (
  if oIn za1 8 then (
  if (S.1 1017 0 (Int32.toNatClampNeg za1)) ≤ za3 then (
  if oIn za1 8 then (
  if za4 ≤ (S.1 1018 0 (Int32.toNatClampNeg za1)) then (
  some ((1 : Int32), S)) else (
  some ((3 : Int32), S))) else none) else (
  some ((0 : Int32), S))) else none) else (
  some ((2 : Int32), S))) else none
set_option maxHeartbeats 4000000 in
theorem s_X9_resultOf {G : oG} {r : oR} (d : Nat) (hd : 1 ≤ d) {za1 : Int32} {za2 : Int32} {za3 : Int32} {za4 : Int32}  {S : oS} {P : Int32 × oS → Prop} (h : oH (f_X9_resultOf za1 za2 za3 za4 S) P) : oCt G r d yX9_resultOf mX9_resultOf [orf 1000 0, oi za1, oi za2, oi za3, oi za4] S (oQi P) := by
  unfold f_X9_resultOf at h
  refine oCt_of (by decide) rfl (Nat.le_of_ble_eq_true rfl) ?_
  intro X hG hr hE0 hR
  subst hG; subst hr
  obtain ⟨e, rfl⟩ : ∃ e, d = e + 1 := ⟨d - 1, by omega⟩
  have he : 0 ≤ e := by omega
  have hE := oEI_of hE0 rfl
  clear hE0 hd
  show oVv X mX9_resultOf 0 [(0, orf 1000 0), (1, oi za1), (2, oi za2), (3, oi za3), (4, oi za4)] [] S
  refine o_iload_n (pc := 0) dX9_resultOf_0 rfl 2 rfl ?_
  refine o_aload_n (pc := 1) dX9_resultOf_1 rfl 0 rfl ?_
  refine o_getA (pc := 2) fd_RX9_49 ft_1000_20 j_1000 dX9_resultOf_2 ?_
  refine o_iload_n (pc := 5) dX9_resultOf_5 rfl 1 rfl ?_
  obtain ⟨hg, h⟩ := oH_G h
  refine o_iald (pc := 6) kd_1021 j_1021 hg dX9_resultOf_6 ?_
  refine o_icmp_le 14 (pc := 7) dX9_resultOf_7 (by decide) (fun hc => ?_) (fun hc => ?_)
  · have h := oH_T hc h
    refine o_iload_n (pc := 14) dX9_resultOf_14 rfl 3 rfl ?_
    refine o_aload_n (pc := 15) dX9_resultOf_15 rfl 0 rfl ?_
    refine o_getA (pc := 16) fd_RX9_37 ft_1000_16 j_1000 dX9_resultOf_16 ?_
    refine o_iload_n (pc := 19) dX9_resultOf_19 rfl 1 rfl ?_
    obtain ⟨hg, h⟩ := oH_G h
    refine o_iald (pc := 20) kd_1017 j_1017 hg dX9_resultOf_20 ?_
    refine o_icmp_ge 28 (pc := 21) dX9_resultOf_21 (by decide) (fun hc => ?_) (fun hc => ?_)
    · have h := oH_T hc h
      refine o_iload (pc := 28) dX9_resultOf_28 4 rfl ?_
      refine o_aload_n (pc := 30) dX9_resultOf_30 rfl 0 rfl ?_
      refine o_getA (pc := 31) fd_RX9_40 ft_1000_17 j_1000 dX9_resultOf_31 ?_
      refine o_iload_n (pc := 34) dX9_resultOf_34 rfl 1 rfl ?_
      obtain ⟨hg, h⟩ := oH_G h
      refine o_iald (pc := 35) kd_1018 j_1018 hg dX9_resultOf_35 ?_
      refine o_icmp_le 43 (pc := 36) dX9_resultOf_36 (by decide) (fun hc => ?_) (fun hc => ?_)
      · have h := oH_T hc h
        refine o_iconst (v := 1) (pc := 43) dX9_resultOf_43 (by decide) ?_
        exact hE _ _ _ _ dX9_resultOf_44 (oH_some h)
      · have h := oH_F hc h
        refine o_iconst (v := 3) (pc := 39) dX9_resultOf_39 (by decide) ?_
        refine o_goto 44 (pc := 40) dX9_resultOf_40 (by decide) ?_
        exact hE _ _ _ _ dX9_resultOf_44 (oH_some h)
    · have h := oH_F hc h
      refine o_iconst (v := 0) (pc := 24) dX9_resultOf_24 (by decide) ?_
      refine o_goto 44 (pc := 25) dX9_resultOf_25 (by decide) ?_
      exact hE _ _ _ _ dX9_resultOf_44 (oH_some h)
  · have h := oH_F hc h
    refine o_iconst (v := 2) (pc := 10) dX9_resultOf_10 (by decide) ?_
    refine o_goto 44 (pc := 11) dX9_resultOf_11 (by decide) ?_
    exact hE _ _ _ _ dX9_resultOf_44 (oH_some h)
def f_X9_bakesWell_K92 (zv1 : Int32) (zv2 : Int32) (zv3 : Int32) (zv5 : Int32) (zv6 : Int32) (zs0 : Int32) (zs1 : Int32) (S : oS) : Option ((Int32 × Int32 × Int32 × Int32 × oS) ⊕ (Int32 × Int32 × Int32 × oS)) :=
  oLet ((zs0 + zs1)) fun zx5 =>
  oLet (zv6 + (1 : Int32)) fun zx6 =>
  some (Sum.inl (zv3, zx5, zv5, zx6, S))
set_option maxHeartbeats 4000000 in
theorem s_X9_bakesWell_K92 {X : oX} {e : Nat} (he : 1 ≤ e) (hR : oRoom X (e + 1)) {zv1 : Int32} {zv2 : Int32} {zv3 : Int32} {zv5 : Int32} {zv6 : Int32} {zs0 : Int32} {zs1 : Int32} {VH : Int32 × Int32 × Int32 × Int32 × oS → Prop} {VE : Int32 × Int32 × Int32 × oS → Prop} (hVH : ∀ z, VH z → oVv X mX9_bakesWell 21 [(0, orf 1000 0), (1, oi zv1), (2, oi zv2), (3, oi z.1), (4, oi z.2.1), (5, oi z.2.2.1), (6, oi z.2.2.2.1)] [] z.2.2.2.2) (hVE : ∀ z, VE z → oVv X mX9_bakesWell 101 [(0, orf 1000 0), (1, oi zv1), (3, oi z.1), (4, oi z.2.1), (5, oi z.2.2.1)] [] z.2.2.2) {S : oS} (h : oH (f_X9_bakesWell_K92 zv1 zv2 zv3 zv5 zv6 zs0 zs1 S) (fun z => Sum.elim VH VE z)) : oVv X mX9_bakesWell 92 [(0, orf 1000 0), (1, oi zv1), (2, oi zv2), (3, oi zv3), (5, oi zv5), (6, oi zv6)] [oi zs1, oi zs0] S := by
  unfold f_X9_bakesWell_K92 at h
  refine o_iadd (pc := 92) dX9_bakesWell_92 ?_
  refine o_nmI (fun zx5 hx => ?_)
  have h := oH_let h zx5 hx
  clear hx
  refine o_istore (lv1 := [(0, orf 1000 0), (1, oi zv1), (2, oi zv2), (3, oi zv3), (4, oi zx5), (5, oi zv5), (6, oi zv6)]) (pc := 93) dX9_bakesWell_93 (by decide) rfl ?_
  obtain ⟨zx6, hx⟩ : ∃ y : Int32, y = zv6 + (1 : Int32) := ⟨_, rfl⟩
  have h := oH_let h zx6 hx
  refine o_iinc (lv1 := [(0, orf 1000 0), (1, oi zv1), (2, oi zv2), (3, oi zv3), (4, oi zx5), (5, oi zv5), (6, oi zx6)]) (pc := 95) dX9_bakesWell_95 6 rfl hx.symm (by decide) rfl ?_
  clear hx
  refine o_goto 21 (pc := 98) dX9_bakesWell_98 (by decide) ?_
  exact hVH _ (oH_some (P := fun z => Sum.elim VH VE z) h)
def f_X9_bakesWell_K77 (zv1 : Int32) (zv2 : Int32) (zv4 : Int32) (zv5 : Int32) (zv6 : Int32) (zv7 : Int32) (zs0 : Int32) (zs1 : Int32) (S : oS) : Option ((Int32 × Int32 × Int32 × Int32 × oS) ⊕ (Int32 × Int32 × Int32 × oS)) :=
  oLet ((zs0 + zs1)) fun zx4 =>
  if zv7 = (1 : Int32) then (
  f_X9_bakesWell_K92 zv1 zv2 zx4 zv5 zv6 zv4 (1 : Int32) S) else (
  f_X9_bakesWell_K92 zv1 zv2 zx4 zv5 zv6 zv4 (0 : Int32) S)
set_option maxHeartbeats 4000000 in
theorem s_X9_bakesWell_K77 {X : oX} {e : Nat} (he : 1 ≤ e) (hR : oRoom X (e + 1)) {zv1 : Int32} {zv2 : Int32} {zv4 : Int32} {zv5 : Int32} {zv6 : Int32} {zv7 : Int32} {zs0 : Int32} {zs1 : Int32} {VH : Int32 × Int32 × Int32 × Int32 × oS → Prop} {VE : Int32 × Int32 × Int32 × oS → Prop} (hVH : ∀ z, VH z → oVv X mX9_bakesWell 21 [(0, orf 1000 0), (1, oi zv1), (2, oi zv2), (3, oi z.1), (4, oi z.2.1), (5, oi z.2.2.1), (6, oi z.2.2.2.1)] [] z.2.2.2.2) (hVE : ∀ z, VE z → oVv X mX9_bakesWell 101 [(0, orf 1000 0), (1, oi zv1), (3, oi z.1), (4, oi z.2.1), (5, oi z.2.2.1)] [] z.2.2.2) {S : oS} (h : oH (f_X9_bakesWell_K77 zv1 zv2 zv4 zv5 zv6 zv7 zs0 zs1 S) (fun z => Sum.elim VH VE z)) : oVv X mX9_bakesWell 77 [(0, orf 1000 0), (1, oi zv1), (2, oi zv2), (4, oi zv4), (5, oi zv5), (6, oi zv6), (7, oi zv7)] [oi zs1, oi zs0] S := by
  unfold f_X9_bakesWell_K77 at h
  refine o_iadd (pc := 77) dX9_bakesWell_77 ?_
  refine o_nmI (fun zx4 hx => ?_)
  have h := oH_let h zx4 hx
  clear hx
  refine o_istore_n (lv1 := [(0, orf 1000 0), (1, oi zv1), (2, oi zv2), (3, oi zx4), (4, oi zv4), (5, oi zv5), (6, oi zv6), (7, oi zv7)]) (pc := 78) dX9_bakesWell_78 rfl (by decide) rfl ?_
  refine o_iload (pc := 79) dX9_bakesWell_79 4 rfl ?_
  refine o_iload (pc := 81) dX9_bakesWell_81 7 rfl ?_
  refine o_iconst (v := 1) (pc := 83) dX9_bakesWell_83 (by decide) ?_
  refine o_icmp_ne 91 (pc := 84) dX9_bakesWell_84 (by decide) (fun hc => ?_) (fun hc => ?_)
  · have h := oH_F hc h
    refine o_iconst (v := 0) (pc := 91) dX9_bakesWell_91 (by decide) ?_
    refine o_weak [0, 1, 2, 3, 5, 6] rfl ?_
    exact s_X9_bakesWell_K92 he hR  hVH hVE h
  · have h := oH_T hc h
    refine o_iconst (v := 1) (pc := 87) dX9_bakesWell_87 (by decide) ?_
    refine o_goto 92 (pc := 88) dX9_bakesWell_88 (by decide) ?_
    refine o_weak [0, 1, 2, 3, 5, 6] rfl ?_
    exact s_X9_bakesWell_K92 he hR  hVH hVE h
def f_X9_bakesWell_L21 (zv1 : Int32) (zv2 : Int32) : Int32 × Int32 × Int32 × Int32 × oS → Option ((Int32 × Int32 × Int32 × Int32 × oS) ⊕ (Int32 × Int32 × Int32 × oS)) := fun w =>
  match w with
  | (zv3, zv4, zv5, zv6, S) =>
    if oIn zv2 13 then (
    if oIn (S.1 1060 0 (Int32.toNatClampNeg zv2)) 4 then (
    if (S.1 1036 0 (Int32.toNatClampNeg (S.1 1060 0 (Int32.toNatClampNeg zv2)))) ≤ zv6 then (
    some (Sum.inr (zv3, zv4, zv5, S))) else (
    oLet (zv5 + (1 : Int32)) fun zx2 =>
    if oIn zv2 13 then (
    if oIn (((4 : Int32) * zv6) + (S.1 1061 0 (Int32.toNatClampNeg zv2))) 164 then (
    (f_X9_sortOf zv1 zx2 (S.2 1057 0 (Int32.toNatClampNeg (((4 : Int32) * zv6) + (S.1 1061 0 (Int32.toNatClampNeg zv2))))) S).bind fun zz3 =>
    if zz3.1 = (2 : Int32) then (
    f_X9_bakesWell_K77 zv1 zv2 zv4 zx2 zv6 zz3.1 zv3 (1 : Int32) zz3.2) else (
    f_X9_bakesWell_K77 zv1 zv2 zv4 zx2 zv6 zz3.1 zv3 (0 : Int32) zz3.2)) else none) else none)) else none) else none
set_option maxHeartbeats 4000000 in
theorem s_X9_bakesWell_L21b {X : oX} {e : Nat} (he : 1 ≤ e) (hR : oRoom X (e + 1)) {zv1 : Int32} {zv2 : Int32} {VH : Int32 × Int32 × Int32 × Int32 × oS → Prop} {VE : Int32 × Int32 × Int32 × oS → Prop} (hVH : ∀ z, VH z → oVv X mX9_bakesWell 21 [(0, orf 1000 0), (1, oi zv1), (2, oi zv2), (3, oi z.1), (4, oi z.2.1), (5, oi z.2.2.1), (6, oi z.2.2.2.1)] [] z.2.2.2.2) (hVE : ∀ z, VE z → oVv X mX9_bakesWell 101 [(0, orf 1000 0), (1, oi zv1), (3, oi z.1), (4, oi z.2.1), (5, oi z.2.2.1)] [] z.2.2.2) {zv3 : Int32} {zv4 : Int32} {zv5 : Int32} {zv6 : Int32} {S : oS} (h : oH (f_X9_bakesWell_L21 zv1 zv2 (zv3, zv4, zv5, zv6, S)) (fun z => Sum.elim VH VE z)) : oVv X mX9_bakesWell 21 [(0, orf 1000 0), (1, oi zv1), (2, oi zv2), (3, oi zv3), (4, oi zv4), (5, oi zv5), (6, oi zv6)] [] S := by
  dsimp only [f_X9_bakesWell_L21] at h
  refine o_iload (pc := 21) dX9_bakesWell_21 6 rfl ?_
  refine o_aload_n (pc := 23) dX9_bakesWell_23 rfl 0 rfl ?_
  refine o_getA (pc := 24) fd_RX9_82 ft_1000_35 j_1000 dX9_bakesWell_24 ?_
  refine o_aload_n (pc := 27) dX9_bakesWell_27 rfl 0 rfl ?_
  refine o_getA (pc := 28) fd_RX9_127 ft_1000_59 j_1000 dX9_bakesWell_28 ?_
  refine o_iload_n (pc := 31) dX9_bakesWell_31 rfl 2 rfl ?_
  obtain ⟨hg, h⟩ := oH_G h
  refine o_iald (pc := 32) kd_1060 j_1060 hg dX9_bakesWell_32 ?_
  obtain ⟨hg, h⟩ := oH_G h
  refine o_iald (pc := 33) kd_1036 j_1036 hg dX9_bakesWell_33 ?_
  refine o_icmp_ge 101 (pc := 34) dX9_bakesWell_34 (by decide) (fun hc => ?_) (fun hc => ?_)
  · have h := oH_T hc h
    refine o_weak [0, 1, 3, 4, 5] rfl ?_
    exact hVE _ (oH_some (P := fun z => Sum.elim VH VE z) h)
  · have h := oH_F hc h
    obtain ⟨zx2, hx⟩ : ∃ y : Int32, y = zv5 + (1 : Int32) := ⟨_, rfl⟩
    have h := oH_let h zx2 hx
    refine o_iinc (lv1 := [(0, orf 1000 0), (1, oi zv1), (2, oi zv2), (3, oi zv3), (4, oi zv4), (5, oi zx2), (6, oi zv6)]) (pc := 37) dX9_bakesWell_37 5 rfl hx.symm (by decide) rfl ?_
    clear hx
    refine o_aload_n (pc := 40) dX9_bakesWell_40 rfl 0 rfl ?_
    refine o_iload_n (pc := 41) dX9_bakesWell_41 rfl 1 rfl ?_
    refine o_iload (pc := 42) dX9_bakesWell_42 5 rfl ?_
    refine o_aload_n (pc := 44) dX9_bakesWell_44 rfl 0 rfl ?_
    refine o_getA (pc := 45) fd_RX9_121 ft_1000_56 j_1000 dX9_bakesWell_45 ?_
    refine o_iconst (v := 4) (pc := 48) dX9_bakesWell_48 (by decide) ?_
    refine o_iload (pc := 49) dX9_bakesWell_49 6 rfl ?_
    refine o_imul (pc := 51) dX9_bakesWell_51 ?_
    refine o_aload_n (pc := 52) dX9_bakesWell_52 rfl 0 rfl ?_
    refine o_getA (pc := 53) fd_RX9_130 ft_1000_60 j_1000 dX9_bakesWell_53 ?_
    refine o_iload_n (pc := 56) dX9_bakesWell_56 rfl 2 rfl ?_
    obtain ⟨hg, h⟩ := oH_G h
    refine o_iald (pc := 57) kd_1061 j_1061 hg dX9_bakesWell_57 ?_
    refine o_iadd (pc := 58) dX9_bakesWell_58 ?_
    obtain ⟨hg, h⟩ := oH_G h
    refine o_lald (pc := 59) kd_1057 j_1057 hg dX9_bakesWell_59 ?_
    have h := oH_bind h
    refine o_callVi (pc := 60) (st := []) [oi zv1, oi zx2, ol (S.2 1057 0 (Int32.toNatClampNeg (((4 : Int32) * zv6) + (S.1 1061 0 (Int32.toNatClampNeg zv2)))))] hR md_X9_sortOf wd_1137 wd_1139 ws_31 tc_1000 j_1000 rfl (Nat.le_of_ble_eq_true rfl) rfl dX9_bakesWell_60 (s_X9_sortOf e (by omega)  h) (fun zz3 h => ?_)
    refine o_istore (lv1 := [(0, orf 1000 0), (1, oi zv1), (2, oi zv2), (3, oi zv3), (4, oi zv4), (5, oi zx2), (6, oi zv6), (7, oi zz3.1)]) (pc := 63) dX9_bakesWell_63 (by decide) rfl ?_
    refine o_iload_n (pc := 65) dX9_bakesWell_65 rfl 3 rfl ?_
    refine o_iload (pc := 66) dX9_bakesWell_66 7 rfl ?_
    refine o_iconst (v := 2) (pc := 68) dX9_bakesWell_68 (by decide) ?_
    refine o_icmp_ne 76 (pc := 69) dX9_bakesWell_69 (by decide) (fun hc => ?_) (fun hc => ?_)
    · have h := oH_F hc h
      refine o_iconst (v := 0) (pc := 76) dX9_bakesWell_76 (by decide) ?_
      refine o_weak [0, 1, 2, 4, 5, 6, 7] rfl ?_
      exact s_X9_bakesWell_K77 he hR  hVH hVE h
    · have h := oH_T hc h
      refine o_iconst (v := 1) (pc := 72) dX9_bakesWell_72 (by decide) ?_
      refine o_goto 77 (pc := 73) dX9_bakesWell_73 (by decide) ?_
      refine o_weak [0, 1, 2, 4, 5, 6, 7] rfl ?_
      exact s_X9_bakesWell_K77 he hR  hVH hVE h
theorem s_X9_bakesWell_L21 {X : oX} {e : Nat} (he : 1 ≤ e) (hR : oRoom X (e + 1)) {zv1 : Int32} {zv2 : Int32}  {VE : Int32 × Int32 × Int32 × oS → Prop} (hVE : ∀ z, VE z → oVv X mX9_bakesWell 101 [(0, orf 1000 0), (1, oi zv1), (3, oi z.1), (4, oi z.2.1), (5, oi z.2.2.1)] [] z.2.2.2) (n : Nat) (w : Int32 × Int32 × Int32 × Int32 × oS) (h : oH (oLp (f_X9_bakesWell_L21 zv1 zv2) n w) VE) : oVv X mX9_bakesWell 21 [(0, orf 1000 0), (1, oi zv1), (2, oi zv2), (3, oi w.1), (4, oi w.2.1), (5, oi w.2.2.1), (6, oi w.2.2.2.1)] [] w.2.2.2.2 :=
  oLp_s (VH := fun w => oVv X mX9_bakesWell 21 [(0, orf 1000 0), (1, oi zv1), (2, oi zv2), (3, oi w.1), (4, oi w.2.1), (5, oi w.2.2.1), (6, oi w.2.2.2.1)] [] w.2.2.2.2) (fun w h => s_X9_bakesWell_L21b he hR  (fun _ h => h) hVE h) n w h
def f_X9_bakesWell  (za1 : Int32) (za2 : Int32) (S : oS) : Option (Int32 × oS) :=
  if oIn za2 13 then (
  if oIn (S.1 1059 0 (Int32.toNatClampNeg za2)) 4 then (
  oLet (S.1 1036 0 (Int32.toNatClampNeg (S.1 1059 0 (Int32.toNatClampNeg za2)))) fun zx1 =>
  (oLp (f_X9_bakesWell_L21 za1 za2) oFu ((0 : Int32), (0 : Int32), (0 : Int32), zx1, S)).bind fun zz7 =>
  (f_X9_resultOf za1 zz7.1 zz7.2.1 zz7.2.2.1 zz7.2.2.2).bind fun zz8 =>
  if zz8.1 = (1 : Int32) then (
  some ((1 : Int32), zz8.2)) else (
  some ((0 : Int32), zz8.2))) else none) else none
set_option maxHeartbeats 4000000 in
theorem s_X9_bakesWell {G : oG} {r : oR} (d : Nat) (hd : 2 ≤ d) {za1 : Int32} {za2 : Int32}  {S : oS} {P : Int32 × oS → Prop} (h : oH (f_X9_bakesWell za1 za2 S) P) : oCt G r d yX9_bakesWell mX9_bakesWell [orf 1000 0, oi za1, oi za2] S (oQi P) := by
  unfold f_X9_bakesWell at h
  refine oCt_of (by decide) rfl (Nat.le_of_ble_eq_true rfl) ?_
  intro X hG hr hE0 hR
  subst hG; subst hr
  obtain ⟨e, rfl⟩ : ∃ e, d = e + 1 := ⟨d - 1, by omega⟩
  have he : 1 ≤ e := by omega
  have hE := oEZ_of hE0 rfl
  clear hE0 hd
  show oVv X mX9_bakesWell 0 [(0, orf 1000 0), (1, oi za1), (2, oi za2)] [] S
  refine o_iconst (v := 0) (pc := 0) dX9_bakesWell_0 (by decide) ?_
  refine o_istore_n (lv1 := [(0, orf 1000 0), (1, oi za1), (2, oi za2), (3, oi (0 : Int32))]) (pc := 1) dX9_bakesWell_1 rfl (by decide) rfl ?_
  refine o_iconst (v := 0) (pc := 2) dX9_bakesWell_2 (by decide) ?_
  refine o_istore (lv1 := [(0, orf 1000 0), (1, oi za1), (2, oi za2), (3, oi (0 : Int32)), (4, oi (0 : Int32))]) (pc := 3) dX9_bakesWell_3 (by decide) rfl ?_
  refine o_iconst (v := 0) (pc := 5) dX9_bakesWell_5 (by decide) ?_
  refine o_istore (lv1 := [(0, orf 1000 0), (1, oi za1), (2, oi za2), (3, oi (0 : Int32)), (4, oi (0 : Int32)), (5, oi (0 : Int32))]) (pc := 6) dX9_bakesWell_6 (by decide) rfl ?_
  refine o_aload_n (pc := 8) dX9_bakesWell_8 rfl 0 rfl ?_
  refine o_getA (pc := 9) fd_RX9_82 ft_1000_35 j_1000 dX9_bakesWell_9 ?_
  refine o_aload_n (pc := 12) dX9_bakesWell_12 rfl 0 rfl ?_
  refine o_getA (pc := 13) fd_RX9_124 ft_1000_58 j_1000 dX9_bakesWell_13 ?_
  refine o_iload_n (pc := 16) dX9_bakesWell_16 rfl 2 rfl ?_
  obtain ⟨hg, h⟩ := oH_G h
  refine o_iald (pc := 17) kd_1059 j_1059 hg dX9_bakesWell_17 ?_
  obtain ⟨hg, h⟩ := oH_G h
  refine o_iald (pc := 18) kd_1036 j_1036 hg dX9_bakesWell_18 ?_
  refine o_nmI (fun zx1 hx => ?_)
  have h := oH_let h zx1 hx
  clear hx
  refine o_istore (lv1 := [(0, orf 1000 0), (1, oi za1), (2, oi za2), (3, oi (0 : Int32)), (4, oi (0 : Int32)), (5, oi (0 : Int32)), (6, oi zx1)]) (pc := 19) dX9_bakesWell_19 (by decide) rfl ?_
  have h := oH_bind h
  refine s_X9_bakesWell_L21 he hR  (fun zz7 h => ?_) _ ((0 : Int32), (0 : Int32), (0 : Int32), zx1, S) h
  refine o_aload_n (pc := 101) dX9_bakesWell_101 rfl 0 rfl ?_
  refine o_iload_n (pc := 102) dX9_bakesWell_102 rfl 1 rfl ?_
  refine o_iload_n (pc := 103) dX9_bakesWell_103 rfl 2 rfl ?_
  refine o_iload (pc := 104) dX9_bakesWell_104 3 rfl ?_
  refine o_iload (pc := 106) dX9_bakesWell_106 4 rfl ?_
  have h := oH_bind h
  refine o_callVi (pc := 108) (st := []) [oi za1, oi zz7.1, oi zz7.2.1, oi zz7.2.2.1] hR md_X9_resultOf wd_1213 wd_1215 ws_41 tc_1000 j_1000 rfl (Nat.le_of_ble_eq_true rfl) rfl dX9_bakesWell_108 (s_X9_resultOf e (by omega)  h) (fun zz8 h => ?_)
  refine o_iconst (v := 1) (pc := 111) dX9_bakesWell_111 (by decide) ?_
  refine o_icmp_ne 119 (pc := 112) dX9_bakesWell_112 (by decide) (fun hc => ?_) (fun hc => ?_)
  · have h := oH_F hc h
    refine o_iconst (v := 0) (pc := 119) dX9_bakesWell_119 (by decide) ?_
    exact hE _ _ _ _ dX9_bakesWell_120 (by decide) (oH_some h)
  · have h := oH_T hc h
    refine o_iconst (v := 1) (pc := 115) dX9_bakesWell_115 (by decide) ?_
    refine o_goto 120 (pc := 116) dX9_bakesWell_116 (by decide) ?_
    exact hE _ _ _ _ dX9_bakesWell_120 (by decide) (oH_some h)
def f_X9_renewed_K59 (zv1 : Int32) (zv2 : Int32) (zv4 : Int32) (zs0 : Int32) (S : oS) : Option ((Int32 × Int32 × oS) ⊕ (Int32 × oS)) :=
  oLet (zv4 + (1 : Int32)) fun zx1 =>
  some (Sum.inl (zs0, zx1, S))
set_option maxHeartbeats 4000000 in
theorem s_X9_renewed_K59 {X : oX} {e : Nat} (he : 0 ≤ e) (hR : oRoom X (e + 1)) {zv1 : Int32} {zv2 : Int32} {zv4 : Int32} {zs0 : Int32} {VH : Int32 × Int32 × oS → Prop} {VE : Int32 × oS → Prop} (hVH : ∀ z, VH z → oVv X mX9_renewed 6 [(0, orf 1000 0), (1, oi zv1), (2, oi zv2), (3, oi z.1), (4, oi z.2.1)] [] z.2.2) (hVE : ∀ z, VE z → oVv X mX9_renewed 66 [(3, oi z.1)] [] z.2) {S : oS} (h : oH (f_X9_renewed_K59 zv1 zv2 zv4 zs0 S) (fun z => Sum.elim VH VE z)) : oVv X mX9_renewed 59 [(0, orf 1000 0), (1, oi zv1), (2, oi zv2), (4, oi zv4)] [oi zs0] S := by
  unfold f_X9_renewed_K59 at h
  refine o_istore_n (lv1 := [(0, orf 1000 0), (1, oi zv1), (2, oi zv2), (3, oi zs0), (4, oi zv4)]) (pc := 59) dX9_renewed_59 rfl (by decide) rfl ?_
  obtain ⟨zx1, hx⟩ : ∃ y : Int32, y = zv4 + (1 : Int32) := ⟨_, rfl⟩
  have h := oH_let h zx1 hx
  refine o_iinc (lv1 := [(0, orf 1000 0), (1, oi zv1), (2, oi zv2), (3, oi zs0), (4, oi zx1)]) (pc := 60) dX9_renewed_60 4 rfl hx.symm (by decide) rfl ?_
  clear hx
  refine o_goto 6 (pc := 63) dX9_renewed_63 (by decide) ?_
  exact hVH _ (oH_some (P := fun z => Sum.elim VH VE z) h)
def f_X9_renewed_K58 (zv1 : Int32) (zv2 : Int32) (zv3 : Int32) (zv4 : Int32) (S : oS) : Option ((Int32 × Int32 × oS) ⊕ (Int32 × oS)) :=
  f_X9_renewed_K59 zv1 zv2 zv4 zv3 S
set_option maxHeartbeats 4000000 in
theorem s_X9_renewed_K58 {X : oX} {e : Nat} (he : 0 ≤ e) (hR : oRoom X (e + 1)) {zv1 : Int32} {zv2 : Int32} {zv3 : Int32} {zv4 : Int32} {VH : Int32 × Int32 × oS → Prop} {VE : Int32 × oS → Prop} (hVH : ∀ z, VH z → oVv X mX9_renewed 6 [(0, orf 1000 0), (1, oi zv1), (2, oi zv2), (3, oi z.1), (4, oi z.2.1)] [] z.2.2) (hVE : ∀ z, VE z → oVv X mX9_renewed 66 [(3, oi z.1)] [] z.2) {S : oS} (h : oH (f_X9_renewed_K58 zv1 zv2 zv3 zv4 S) (fun z => Sum.elim VH VE z)) : oVv X mX9_renewed 58 [(0, orf 1000 0), (1, oi zv1), (2, oi zv2), (3, oi zv3), (4, oi zv4)] [] S := by
  unfold f_X9_renewed_K58 at h
  refine o_iload_n (pc := 58) dX9_renewed_58 rfl 3 rfl ?_
  refine o_weak [0, 1, 2, 4] rfl ?_
  exact s_X9_renewed_K59 he hR  hVH hVE h
def f_X9_renewed_L6 (zv1 : Int32) (zv2 : Int32) : Int32 × Int32 × oS → Option ((Int32 × Int32 × oS) ⊕ (Int32 × oS)) := fun w =>
  match w with
  | (zv3, zv4, S) =>
    if (S.1 1000 0 46) ≤ zv4 then (
    some (Sum.inr (zv3, S))) else (
    if oIn zv4 10 then (
    if (S.1 1048 0 (Int32.toNatClampNeg zv4)) = zv1 then (
    if oIn zv4 10 then (
    if (S.1 1049 0 (Int32.toNatClampNeg zv4)) ≤ zv2 then (
    f_X9_renewed_K58 zv1 zv2 zv3 zv4 S) else (
    if oIn zv4 10 then (
    if zv3 ≤ (S.1 1049 0 (Int32.toNatClampNeg zv4)) then (
    f_X9_renewed_K58 zv1 zv2 zv3 zv4 S) else (
    if oIn zv4 10 then (
    f_X9_renewed_K59 zv1 zv2 zv4 (S.1 1049 0 (Int32.toNatClampNeg zv4)) S) else none)) else none)) else none) else (
    f_X9_renewed_K58 zv1 zv2 zv3 zv4 S)) else none)
set_option maxHeartbeats 4000000 in
theorem s_X9_renewed_L6b {X : oX} {e : Nat} (he : 0 ≤ e) (hR : oRoom X (e + 1)) {zv1 : Int32} {zv2 : Int32} {VH : Int32 × Int32 × oS → Prop} {VE : Int32 × oS → Prop} (hVH : ∀ z, VH z → oVv X mX9_renewed 6 [(0, orf 1000 0), (1, oi zv1), (2, oi zv2), (3, oi z.1), (4, oi z.2.1)] [] z.2.2) (hVE : ∀ z, VE z → oVv X mX9_renewed 66 [(3, oi z.1)] [] z.2) {zv3 : Int32} {zv4 : Int32} {S : oS} (h : oH (f_X9_renewed_L6 zv1 zv2 (zv3, zv4, S)) (fun z => Sum.elim VH VE z)) : oVv X mX9_renewed 6 [(0, orf 1000 0), (1, oi zv1), (2, oi zv2), (3, oi zv3), (4, oi zv4)] [] S := by
  dsimp only [f_X9_renewed_L6] at h
  refine o_iload (pc := 6) dX9_renewed_6 4 rfl ?_
  refine o_aload_n (pc := 8) dX9_renewed_8 rfl 0 rfl ?_
  refine o_getI (pc := 9) fd_RX9_375 ft_1000_46 j_1000 dX9_renewed_9 ?_
  refine o_icmp_ge 66 (pc := 12) dX9_renewed_12 (by decide) (fun hc => ?_) (fun hc => ?_)
  · have h := oH_T hc h
    refine o_weak [3] rfl ?_
    exact hVE _ (oH_some (P := fun z => Sum.elim VH VE z) h)
  · have h := oH_F hc h
    refine o_aload_n (pc := 15) dX9_renewed_15 rfl 0 rfl ?_
    refine o_getA (pc := 16) fd_RX9_106 ft_1000_47 j_1000 dX9_renewed_16 ?_
    refine o_iload (pc := 19) dX9_renewed_19 4 rfl ?_
    obtain ⟨hg, h⟩ := oH_G h
    refine o_iald (pc := 21) kd_1048 j_1048 hg dX9_renewed_21 ?_
    refine o_iload_n (pc := 22) dX9_renewed_22 rfl 1 rfl ?_
    refine o_icmp_ne 58 (pc := 23) dX9_renewed_23 (by decide) (fun hc => ?_) (fun hc => ?_)
    · have h := oH_F hc h
      exact s_X9_renewed_K58 he hR  hVH hVE h
    · have h := oH_T hc h
      refine o_aload_n (pc := 26) dX9_renewed_26 rfl 0 rfl ?_
      refine o_getA (pc := 27) fd_RX9_109 ft_1000_48 j_1000 dX9_renewed_27 ?_
      refine o_iload (pc := 30) dX9_renewed_30 4 rfl ?_
      obtain ⟨hg, h⟩ := oH_G h
      refine o_iald (pc := 32) kd_1049 j_1049 hg dX9_renewed_32 ?_
      refine o_iload_n (pc := 33) dX9_renewed_33 rfl 2 rfl ?_
      refine o_icmp_le 58 (pc := 34) dX9_renewed_34 (by decide) (fun hc => ?_) (fun hc => ?_)
      · have h := oH_T hc h
        exact s_X9_renewed_K58 he hR  hVH hVE h
      · have h := oH_F hc h
        refine o_aload_n (pc := 37) dX9_renewed_37 rfl 0 rfl ?_
        refine o_getA (pc := 38) fd_RX9_109 ft_1000_48 j_1000 dX9_renewed_38 ?_
        refine o_iload (pc := 41) dX9_renewed_41 4 rfl ?_
        obtain ⟨hg, h⟩ := oH_G h
        refine o_iald (pc := 43) kd_1049 j_1049 hg dX9_renewed_43 ?_
        refine o_iload_n (pc := 44) dX9_renewed_44 rfl 3 rfl ?_
        refine o_icmp_ge 58 (pc := 45) dX9_renewed_45 (by decide) (fun hc => ?_) (fun hc => ?_)
        · have h := oH_T hc h
          exact s_X9_renewed_K58 he hR  hVH hVE h
        · have h := oH_F hc h
          refine o_aload_n (pc := 48) dX9_renewed_48 rfl 0 rfl ?_
          refine o_getA (pc := 49) fd_RX9_109 ft_1000_48 j_1000 dX9_renewed_49 ?_
          refine o_iload (pc := 52) dX9_renewed_52 4 rfl ?_
          obtain ⟨hg, h⟩ := oH_G h
          refine o_iald (pc := 54) kd_1049 j_1049 hg dX9_renewed_54 ?_
          refine o_goto 59 (pc := 55) dX9_renewed_55 (by decide) ?_
          refine o_weak [0, 1, 2, 4] rfl ?_
          exact s_X9_renewed_K59 he hR  hVH hVE h
theorem s_X9_renewed_L6 {X : oX} {e : Nat} (he : 0 ≤ e) (hR : oRoom X (e + 1)) {zv1 : Int32} {zv2 : Int32}  {VE : Int32 × oS → Prop} (hVE : ∀ z, VE z → oVv X mX9_renewed 66 [(3, oi z.1)] [] z.2) (n : Nat) (w : Int32 × Int32 × oS) (h : oH (oLp (f_X9_renewed_L6 zv1 zv2) n w) VE) : oVv X mX9_renewed 6 [(0, orf 1000 0), (1, oi zv1), (2, oi zv2), (3, oi w.1), (4, oi w.2.1)] [] w.2.2 :=
  oLp_s (VH := fun w => oVv X mX9_renewed 6 [(0, orf 1000 0), (1, oi zv1), (2, oi zv2), (3, oi w.1), (4, oi w.2.1)] [] w.2.2) (fun w h => s_X9_renewed_L6b he hR  (fun _ h => h) hVE h) n w h
def f_X9_renewed  (za1 : Int32) (za2 : Int32) (S : oS) : Option (Int32 × oS) :=
  (oLp (f_X9_renewed_L6 za1 za2) oFu ((61 : Int32), (0 : Int32), S)).bind fun zz2 =>
  some (zz2.1, zz2.2)
set_option maxHeartbeats 4000000 in
theorem s_X9_renewed {G : oG} {r : oR} (d : Nat) (hd : 1 ≤ d) {za1 : Int32} {za2 : Int32}  {S : oS} {P : Int32 × oS → Prop} (h : oH (f_X9_renewed za1 za2 S) P) : oCt G r d yX9_renewed mX9_renewed [orf 1000 0, oi za1, oi za2] S (oQi P) := by
  unfold f_X9_renewed at h
  refine oCt_of (by decide) rfl (Nat.le_of_ble_eq_true rfl) ?_
  intro X hG hr hE0 hR
  subst hG; subst hr
  obtain ⟨e, rfl⟩ : ∃ e, d = e + 1 := ⟨d - 1, by omega⟩
  have he : 0 ≤ e := by omega
  have hE := oEI_of hE0 rfl
  clear hE0 hd
  show oVv X mX9_renewed 0 [(0, orf 1000 0), (1, oi za1), (2, oi za2)] [] S
  refine o_bipush (v := 61) (pc := 0) dX9_renewed_0 (by decide) ?_
  refine o_istore_n (lv1 := [(0, orf 1000 0), (1, oi za1), (2, oi za2), (3, oi (61 : Int32))]) (pc := 2) dX9_renewed_2 rfl (by decide) rfl ?_
  refine o_iconst (v := 0) (pc := 3) dX9_renewed_3 (by decide) ?_
  refine o_istore (lv1 := [(0, orf 1000 0), (1, oi za1), (2, oi za2), (3, oi (61 : Int32)), (4, oi (0 : Int32))]) (pc := 4) dX9_renewed_4 (by decide) rfl ?_
  have h := oH_bind h
  refine s_X9_renewed_L6 he hR  (fun zz2 h => ?_) _ ((61 : Int32), (0 : Int32), S) h
  refine o_iload_n (pc := 66) dX9_renewed_66 rfl 0 rfl ?_
  exact hE _ _ _ _ dX9_renewed_67 (oH_some h)
def f_X9_explained_K105 (zv1 : Int32) (zv2 : Int32) (zv3 : Int32) (zv5 : Int32) (zv6 : Int32) (zv7 : Int32) (zs0 : Int32) (zs1 : Int32) (S : oS) : Option ((Int32 × Int32 × oS) ⊕ (Int32 × oS)) :=
  oLet ((zs0 + zs1)) fun zx2 =>
  oLet (zv7 + (1 : Int32)) fun zx3 =>
  some (Sum.inl (zx2, zx3, S))
set_option maxHeartbeats 4000000 in
theorem s_X9_explained_K105 {X : oX} {e : Nat} (he : 1 ≤ e) (hR : oRoom X (e + 1)) {zv1 : Int32} {zv2 : Int32} {zv3 : Int32} {zv5 : Int32} {zv6 : Int32} {zv7 : Int32} {zs0 : Int32} {zs1 : Int32} {VH : Int32 × Int32 × oS → Prop} {VE : Int32 × oS → Prop} (hVH : ∀ z, VH z → oVv X mX9_explained 24 [(0, orf 1000 0), (1, oi zv1), (2, oi zv2), (3, oi zv3), (4, oi z.1), (5, oi zv5), (6, oi zv6), (7, oi z.2.1)] [] z.2.2) (hVE : ∀ z, VE z → oVv X mX9_explained 114 [(0, orf 1000 0), (1, oi zv1), (2, oi zv2), (3, oi zv3), (4, oi z.1), (5, oi zv5), (6, oi zv6)] [] z.2) {S : oS} (h : oH (f_X9_explained_K105 zv1 zv2 zv3 zv5 zv6 zv7 zs0 zs1 S) (fun z => Sum.elim VH VE z)) : oVv X mX9_explained 105 [(0, orf 1000 0), (1, oi zv1), (2, oi zv2), (3, oi zv3), (5, oi zv5), (6, oi zv6), (7, oi zv7)] [oi zs1, oi zs0] S := by
  unfold f_X9_explained_K105 at h
  refine o_iadd (pc := 105) dX9_explained_105 ?_
  refine o_nmI (fun zx2 hx => ?_)
  have h := oH_let h zx2 hx
  clear hx
  refine o_istore (lv1 := [(0, orf 1000 0), (1, oi zv1), (2, oi zv2), (3, oi zv3), (4, oi zx2), (5, oi zv5), (6, oi zv6), (7, oi zv7)]) (pc := 106) dX9_explained_106 (by decide) rfl ?_
  obtain ⟨zx3, hx⟩ : ∃ y : Int32, y = zv7 + (1 : Int32) := ⟨_, rfl⟩
  have h := oH_let h zx3 hx
  refine o_iinc (lv1 := [(0, orf 1000 0), (1, oi zv1), (2, oi zv2), (3, oi zv3), (4, oi zx2), (5, oi zv5), (6, oi zv6), (7, oi zx3)]) (pc := 108) dX9_explained_108 7 rfl hx.symm (by decide) rfl ?_
  clear hx
  refine o_goto 24 (pc := 111) dX9_explained_111 (by decide) ?_
  exact hVH _ (oH_some (P := fun z => Sum.elim VH VE z) h)
def f_X9_explained_K79 (zv1 : Int32) (zv2 : Int32) (zv3 : Int32) (zv4 : Int32) (zv5 : Int32) (zv6 : Int32) (zv7 : Int32) (zs0 : Int32) (S : oS) : Option ((Int32 × Int32 × oS) ⊕ (Int32 × oS)) :=
  if oIn (((4 : Int32) * zv6) + zv7) 244 then (
  if (S.1 1046 0 (Int32.toNatClampNeg (((4 : Int32) * zv6) + zv7))) = zs0 then (
  f_X9_explained_K105 zv1 zv2 zv3 zv5 zv6 zv7 zv4 (1 : Int32) S) else (
  f_X9_explained_K105 zv1 zv2 zv3 zv5 zv6 zv7 zv4 (0 : Int32) S)) else none
set_option maxHeartbeats 4000000 in
theorem s_X9_explained_K79 {X : oX} {e : Nat} (he : 1 ≤ e) (hR : oRoom X (e + 1)) {zv1 : Int32} {zv2 : Int32} {zv3 : Int32} {zv4 : Int32} {zv5 : Int32} {zv6 : Int32} {zv7 : Int32} {zs0 : Int32} {VH : Int32 × Int32 × oS → Prop} {VE : Int32 × oS → Prop} (hVH : ∀ z, VH z → oVv X mX9_explained 24 [(0, orf 1000 0), (1, oi zv1), (2, oi zv2), (3, oi zv3), (4, oi z.1), (5, oi zv5), (6, oi zv6), (7, oi z.2.1)] [] z.2.2) (hVE : ∀ z, VE z → oVv X mX9_explained 114 [(0, orf 1000 0), (1, oi zv1), (2, oi zv2), (3, oi zv3), (4, oi z.1), (5, oi zv5), (6, oi zv6)] [] z.2) {S : oS} (h : oH (f_X9_explained_K79 zv1 zv2 zv3 zv4 zv5 zv6 zv7 zs0 S) (fun z => Sum.elim VH VE z)) : oVv X mX9_explained 79 [(0, orf 1000 0), (1, oi zv1), (2, oi zv2), (3, oi zv3), (4, oi zv4), (5, oi zv5), (6, oi zv6), (7, oi zv7)] [oi zs0] S := by
  unfold f_X9_explained_K79 at h
  refine o_istore (lv1 := [(0, orf 1000 0), (1, oi zv1), (2, oi zv2), (3, oi zv3), (4, oi zv4), (5, oi zv5), (6, oi zv6), (7, oi zv7), (9, oi zs0)]) (pc := 79) dX9_explained_79 (by decide) rfl ?_
  refine o_iload (pc := 81) dX9_explained_81 4 rfl ?_
  refine o_aload_n (pc := 83) dX9_explained_83 rfl 0 rfl ?_
  refine o_getA (pc := 84) fd_RX9_103 ft_1000_45 j_1000 dX9_explained_84 ?_
  refine o_iconst (v := 4) (pc := 87) dX9_explained_87 (by decide) ?_
  refine o_iload (pc := 88) dX9_explained_88 6 rfl ?_
  refine o_imul (pc := 90) dX9_explained_90 ?_
  refine o_iload (pc := 91) dX9_explained_91 7 rfl ?_
  refine o_iadd (pc := 93) dX9_explained_93 ?_
  obtain ⟨hg, h⟩ := oH_G h
  refine o_iald (pc := 94) kd_1046 j_1046 hg dX9_explained_94 ?_
  refine o_iload (pc := 95) dX9_explained_95 8 rfl ?_
  refine o_icmp_ne 104 (pc := 97) dX9_explained_97 (by decide) (fun hc => ?_) (fun hc => ?_)
  · have h := oH_F hc h
    refine o_iconst (v := 0) (pc := 104) dX9_explained_104 (by decide) ?_
    refine o_weak [0, 1, 2, 3, 5, 6, 7] rfl ?_
    exact s_X9_explained_K105 he hR  hVH hVE h
  · have h := oH_T hc h
    refine o_iconst (v := 1) (pc := 100) dX9_explained_100 (by decide) ?_
    refine o_goto 105 (pc := 101) dX9_explained_101 (by decide) ?_
    refine o_weak [0, 1, 2, 3, 5, 6, 7] rfl ?_
    exact s_X9_explained_K105 he hR  hVH hVE h
def f_X9_explained_K58 (zv1 : Int32) (zv2 : Int32) (zv3 : Int32) (zv4 : Int32) (zv5 : Int32) (zv6 : Int32) (zv7 : Int32) (zs0 : Int32) (S : oS) : Option ((Int32 × Int32 × oS) ⊕ (Int32 × oS)) :=
  if zs0 = 0 then (
  f_X9_explained_K79 zv1 zv2 zv3 zv4 zv5 zv6 zv7 (1 : Int32) S) else (
  if zv1 = (1 : Int32) then (
  f_X9_explained_K79 zv1 zv2 zv3 zv4 zv5 zv6 zv7 (3 : Int32) S) else (
  f_X9_explained_K79 zv1 zv2 zv3 zv4 zv5 zv6 zv7 (2 : Int32) S))
set_option maxHeartbeats 4000000 in
theorem s_X9_explained_K58 {X : oX} {e : Nat} (he : 1 ≤ e) (hR : oRoom X (e + 1)) {zv1 : Int32} {zv2 : Int32} {zv3 : Int32} {zv4 : Int32} {zv5 : Int32} {zv6 : Int32} {zv7 : Int32} {zs0 : Int32} {VH : Int32 × Int32 × oS → Prop} {VE : Int32 × oS → Prop} (hVH : ∀ z, VH z → oVv X mX9_explained 24 [(0, orf 1000 0), (1, oi zv1), (2, oi zv2), (3, oi zv3), (4, oi z.1), (5, oi zv5), (6, oi zv6), (7, oi z.2.1)] [] z.2.2) (hVE : ∀ z, VE z → oVv X mX9_explained 114 [(0, orf 1000 0), (1, oi zv1), (2, oi zv2), (3, oi zv3), (4, oi z.1), (5, oi zv5), (6, oi zv6)] [] z.2) {S : oS} (h : oH (f_X9_explained_K58 zv1 zv2 zv3 zv4 zv5 zv6 zv7 zs0 S) (fun z => Sum.elim VH VE z)) : oVv X mX9_explained 58 [(0, orf 1000 0), (1, oi zv1), (2, oi zv2), (3, oi zv3), (4, oi zv4), (5, oi zv5), (6, oi zv6), (7, oi zv7)] [oi zs0] S := by
  unfold f_X9_explained_K58 at h
  refine o_istore (lv1 := [(0, orf 1000 0), (1, oi zv1), (2, oi zv2), (3, oi zv3), (4, oi zv4), (5, oi zv5), (6, oi zv6), (7, oi zv7), (8, oi zs0)]) (pc := 58) dX9_explained_58 (by decide) rfl ?_
  refine o_iload (pc := 60) dX9_explained_60 8 rfl ?_
  refine o_if_ne 69 (pc := 62) dX9_explained_62 (by decide) (fun hc => ?_) (fun hc => ?_)
  · have h := oH_F hc h
    refine o_iload_n (pc := 69) dX9_explained_69 rfl 1 rfl ?_
    refine o_iconst (v := 1) (pc := 70) dX9_explained_70 (by decide) ?_
    refine o_icmp_ne 78 (pc := 71) dX9_explained_71 (by decide) (fun hc => ?_) (fun hc => ?_)
    · have h := oH_F hc h
      refine o_iconst (v := 2) (pc := 78) dX9_explained_78 (by decide) ?_
      refine o_weak [0, 1, 2, 3, 4, 5, 6, 7] rfl ?_
      exact s_X9_explained_K79 he hR  hVH hVE h
    · have h := oH_T hc h
      refine o_iconst (v := 3) (pc := 74) dX9_explained_74 (by decide) ?_
      refine o_goto 79 (pc := 75) dX9_explained_75 (by decide) ?_
      refine o_weak [0, 1, 2, 3, 4, 5, 6, 7] rfl ?_
      exact s_X9_explained_K79 he hR  hVH hVE h
  · have h := oH_T hc h
    refine o_iconst (v := 1) (pc := 65) dX9_explained_65 (by decide) ?_
    refine o_goto 79 (pc := 66) dX9_explained_66 (by decide) ?_
    refine o_weak [0, 1, 2, 3, 4, 5, 6, 7] rfl ?_
    exact s_X9_explained_K79 he hR  hVH hVE h
def f_X9_explained_K57 (zv1 : Int32) (zv2 : Int32) (zv3 : Int32) (zv4 : Int32) (zv5 : Int32) (zv6 : Int32) (zv7 : Int32) (S : oS) : Option ((Int32 × Int32 × oS) ⊕ (Int32 × oS)) :=
  f_X9_explained_K58 zv1 zv2 zv3 zv4 zv5 zv6 zv7 (0 : Int32) S
set_option maxHeartbeats 4000000 in
theorem s_X9_explained_K57 {X : oX} {e : Nat} (he : 1 ≤ e) (hR : oRoom X (e + 1)) {zv1 : Int32} {zv2 : Int32} {zv3 : Int32} {zv4 : Int32} {zv5 : Int32} {zv6 : Int32} {zv7 : Int32} {VH : Int32 × Int32 × oS → Prop} {VE : Int32 × oS → Prop} (hVH : ∀ z, VH z → oVv X mX9_explained 24 [(0, orf 1000 0), (1, oi zv1), (2, oi zv2), (3, oi zv3), (4, oi z.1), (5, oi zv5), (6, oi zv6), (7, oi z.2.1)] [] z.2.2) (hVE : ∀ z, VE z → oVv X mX9_explained 114 [(0, orf 1000 0), (1, oi zv1), (2, oi zv2), (3, oi zv3), (4, oi z.1), (5, oi zv5), (6, oi zv6)] [] z.2) {S : oS} (h : oH (f_X9_explained_K57 zv1 zv2 zv3 zv4 zv5 zv6 zv7 S) (fun z => Sum.elim VH VE z)) : oVv X mX9_explained 57 [(0, orf 1000 0), (1, oi zv1), (2, oi zv2), (3, oi zv3), (4, oi zv4), (5, oi zv5), (6, oi zv6), (7, oi zv7)] [] S := by
  unfold f_X9_explained_K57 at h
  refine o_iconst (v := 0) (pc := 57) dX9_explained_57 (by decide) ?_
  exact s_X9_explained_K58 he hR  hVH hVE h
def f_X9_explained_L24 (zv1 : Int32) (zv2 : Int32) (zv3 : Int32) (zv5 : Int32) (zv6 : Int32) : Int32 × Int32 × oS → Option ((Int32 × Int32 × oS) ⊕ (Int32 × oS)) := fun w =>
  match w with
  | (zv4, zv7, S) =>
    if (4 : Int32) ≤ zv7 then (
    some (Sum.inr (zv4, S))) else (
    if zv1 ≤ 0 then (
    f_X9_explained_K57 zv1 zv2 zv3 zv4 zv5 zv6 zv7 S) else (
    if zv7 = zv2 then (
    if zv6 < zv3 then (
    f_X9_explained_K57 zv1 zv2 zv3 zv4 zv5 zv6 zv7 S) else (
    if zv5 ≤ zv6 then (
    f_X9_explained_K57 zv1 zv2 zv3 zv4 zv5 zv6 zv7 S) else (
    f_X9_explained_K58 zv1 zv2 zv3 zv4 zv5 zv6 zv7 (1 : Int32) S))) else (
    f_X9_explained_K57 zv1 zv2 zv3 zv4 zv5 zv6 zv7 S)))
set_option maxHeartbeats 4000000 in
theorem s_X9_explained_L24b {X : oX} {e : Nat} (he : 1 ≤ e) (hR : oRoom X (e + 1)) {zv1 : Int32} {zv2 : Int32} {zv3 : Int32} {zv5 : Int32} {zv6 : Int32} {VH : Int32 × Int32 × oS → Prop} {VE : Int32 × oS → Prop} (hVH : ∀ z, VH z → oVv X mX9_explained 24 [(0, orf 1000 0), (1, oi zv1), (2, oi zv2), (3, oi zv3), (4, oi z.1), (5, oi zv5), (6, oi zv6), (7, oi z.2.1)] [] z.2.2) (hVE : ∀ z, VE z → oVv X mX9_explained 114 [(0, orf 1000 0), (1, oi zv1), (2, oi zv2), (3, oi zv3), (4, oi z.1), (5, oi zv5), (6, oi zv6)] [] z.2) {zv4 : Int32} {zv7 : Int32} {S : oS} (h : oH (f_X9_explained_L24 zv1 zv2 zv3 zv5 zv6 (zv4, zv7, S)) (fun z => Sum.elim VH VE z)) : oVv X mX9_explained 24 [(0, orf 1000 0), (1, oi zv1), (2, oi zv2), (3, oi zv3), (4, oi zv4), (5, oi zv5), (6, oi zv6), (7, oi zv7)] [] S := by
  dsimp only [f_X9_explained_L24] at h
  refine o_iload (pc := 24) dX9_explained_24 7 rfl ?_
  refine o_iconst (v := 4) (pc := 26) dX9_explained_26 (by decide) ?_
  refine o_icmp_ge 114 (pc := 27) dX9_explained_27 (by decide) (fun hc => ?_) (fun hc => ?_)
  · have h := oH_T hc h
    refine o_weak [0, 1, 2, 3, 4, 5, 6] rfl ?_
    exact hVE _ (oH_some (P := fun z => Sum.elim VH VE z) h)
  · have h := oH_F hc h
    refine o_iload_n (pc := 30) dX9_explained_30 rfl 1 rfl ?_
    refine o_if_le 57 (pc := 31) dX9_explained_31 (by decide) (fun hc => ?_) (fun hc => ?_)
    · have h := oH_T hc h
      exact s_X9_explained_K57 he hR  hVH hVE h
    · have h := oH_F hc h
      refine o_iload (pc := 34) dX9_explained_34 7 rfl ?_
      refine o_iload_n (pc := 36) dX9_explained_36 rfl 2 rfl ?_
      refine o_icmp_ne 57 (pc := 37) dX9_explained_37 (by decide) (fun hc => ?_) (fun hc => ?_)
      · have h := oH_F hc h
        exact s_X9_explained_K57 he hR  hVH hVE h
      · have h := oH_T hc h
        refine o_iload (pc := 40) dX9_explained_40 6 rfl ?_
        refine o_iload_n (pc := 42) dX9_explained_42 rfl 3 rfl ?_
        refine o_icmp_lt 57 (pc := 43) dX9_explained_43 (by decide) (fun hc => ?_) (fun hc => ?_)
        · have h := oH_T hc h
          exact s_X9_explained_K57 he hR  hVH hVE h
        · have h := oH_F hc h
          refine o_iload (pc := 46) dX9_explained_46 6 rfl ?_
          refine o_iload (pc := 48) dX9_explained_48 5 rfl ?_
          refine o_icmp_ge 57 (pc := 50) dX9_explained_50 (by decide) (fun hc => ?_) (fun hc => ?_)
          · have h := oH_T hc h
            exact s_X9_explained_K57 he hR  hVH hVE h
          · have h := oH_F hc h
            refine o_iconst (v := 1) (pc := 53) dX9_explained_53 (by decide) ?_
            refine o_goto 58 (pc := 54) dX9_explained_54 (by decide) ?_
            exact s_X9_explained_K58 he hR  hVH hVE h
theorem s_X9_explained_L24 {X : oX} {e : Nat} (he : 1 ≤ e) (hR : oRoom X (e + 1)) {zv1 : Int32} {zv2 : Int32} {zv3 : Int32} {zv5 : Int32} {zv6 : Int32}  {VE : Int32 × oS → Prop} (hVE : ∀ z, VE z → oVv X mX9_explained 114 [(0, orf 1000 0), (1, oi zv1), (2, oi zv2), (3, oi zv3), (4, oi z.1), (5, oi zv5), (6, oi zv6)] [] z.2) (n : Nat) (w : Int32 × Int32 × oS) (h : oH (oLp (f_X9_explained_L24 zv1 zv2 zv3 zv5 zv6) n w) VE) : oVv X mX9_explained 24 [(0, orf 1000 0), (1, oi zv1), (2, oi zv2), (3, oi zv3), (4, oi w.1), (5, oi zv5), (6, oi zv6), (7, oi w.2.1)] [] w.2.2 :=
  oLp_s (VH := fun w => oVv X mX9_explained 24 [(0, orf 1000 0), (1, oi zv1), (2, oi zv2), (3, oi zv3), (4, oi w.1), (5, oi zv5), (6, oi zv6), (7, oi w.2.1)] [] w.2.2) (fun w h => s_X9_explained_L24b he hR  (fun _ h => h) hVE h) n w h
def f_X9_explained_L14 (zv1 : Int32) (zv2 : Int32) (zv3 : Int32) (zv5 : Int32) : Int32 × Int32 × oS → Option ((Int32 × Int32 × oS) ⊕ (Int32 × oS)) := fun w =>
  match w with
  | (zv4, zv6, S) =>
    if (61 : Int32) ≤ zv6 then (
    some (Sum.inr (zv4, S))) else (
    (oLp (f_X9_explained_L24 zv1 zv2 zv3 zv5 zv6) oFu (zv4, (0 : Int32), S)).bind fun zz4 =>
    oLet (zv6 + (1 : Int32)) fun zx5 =>
    some (Sum.inl (zz4.1, zx5, zz4.2)))
set_option maxHeartbeats 4000000 in
theorem s_X9_explained_L14b {X : oX} {e : Nat} (he : 1 ≤ e) (hR : oRoom X (e + 1)) {zv1 : Int32} {zv2 : Int32} {zv3 : Int32} {zv5 : Int32} {VH : Int32 × Int32 × oS → Prop} {VE : Int32 × oS → Prop} (hVH : ∀ z, VH z → oVv X mX9_explained 14 [(0, orf 1000 0), (1, oi zv1), (2, oi zv2), (3, oi zv3), (4, oi z.1), (5, oi zv5), (6, oi z.2.1)] [] z.2.2) (hVE : ∀ z, VE z → oVv X mX9_explained 120 [(4, oi z.1)] [] z.2) {zv4 : Int32} {zv6 : Int32} {S : oS} (h : oH (f_X9_explained_L14 zv1 zv2 zv3 zv5 (zv4, zv6, S)) (fun z => Sum.elim VH VE z)) : oVv X mX9_explained 14 [(0, orf 1000 0), (1, oi zv1), (2, oi zv2), (3, oi zv3), (4, oi zv4), (5, oi zv5), (6, oi zv6)] [] S := by
  dsimp only [f_X9_explained_L14] at h
  refine o_iload (pc := 14) dX9_explained_14 6 rfl ?_
  refine o_bipush (v := 61) (pc := 16) dX9_explained_16 (by decide) ?_
  refine o_icmp_ge 120 (pc := 18) dX9_explained_18 (by decide) (fun hc => ?_) (fun hc => ?_)
  · have h := oH_T hc h
    refine o_weak [4] rfl ?_
    exact hVE _ (oH_some (P := fun z => Sum.elim VH VE z) h)
  · have h := oH_F hc h
    refine o_iconst (v := 0) (pc := 21) dX9_explained_21 (by decide) ?_
    refine o_istore (lv1 := [(0, orf 1000 0), (1, oi zv1), (2, oi zv2), (3, oi zv3), (4, oi zv4), (5, oi zv5), (6, oi zv6), (7, oi (0 : Int32))]) (pc := 22) dX9_explained_22 (by decide) rfl ?_
    have h := oH_bind h
    refine s_X9_explained_L24 he hR  (fun zz4 h => ?_) _ (zv4, (0 : Int32), S) h
    obtain ⟨zx5, hx⟩ : ∃ y : Int32, y = zv6 + (1 : Int32) := ⟨_, rfl⟩
    have h := oH_let h zx5 hx
    refine o_iinc (lv1 := [(0, orf 1000 0), (1, oi zv1), (2, oi zv2), (3, oi zv3), (4, oi zz4.1), (5, oi zv5), (6, oi zx5)]) (pc := 114) dX9_explained_114 6 rfl hx.symm (by decide) rfl ?_
    clear hx
    refine o_goto 14 (pc := 117) dX9_explained_117 (by decide) ?_
    exact hVH _ (oH_some (P := fun z => Sum.elim VH VE z) h)
theorem s_X9_explained_L14 {X : oX} {e : Nat} (he : 1 ≤ e) (hR : oRoom X (e + 1)) {zv1 : Int32} {zv2 : Int32} {zv3 : Int32} {zv5 : Int32}  {VE : Int32 × oS → Prop} (hVE : ∀ z, VE z → oVv X mX9_explained 120 [(4, oi z.1)] [] z.2) (n : Nat) (w : Int32 × Int32 × oS) (h : oH (oLp (f_X9_explained_L14 zv1 zv2 zv3 zv5) n w) VE) : oVv X mX9_explained 14 [(0, orf 1000 0), (1, oi zv1), (2, oi zv2), (3, oi zv3), (4, oi w.1), (5, oi zv5), (6, oi w.2.1)] [] w.2.2 :=
  oLp_s (VH := fun w => oVv X mX9_explained 14 [(0, orf 1000 0), (1, oi zv1), (2, oi zv2), (3, oi zv3), (4, oi w.1), (5, oi zv5), (6, oi w.2.1)] [] w.2.2) (fun w h => s_X9_explained_L14b he hR  (fun _ h => h) hVE h) n w h
def f_X9_explained  (za1 : Int32) (za2 : Int32) (za3 : Int32) (S : oS) : Option (Int32 × oS) :=
  (f_X9_renewed za2 za3 S).bind fun zz1 =>
  (oLp (f_X9_explained_L14 za1 za2 za3 zz1.1) oFu ((0 : Int32), (0 : Int32), zz1.2)).bind fun zz6 =>
  some (zz6.1, zz6.2)
set_option maxHeartbeats 4000000 in
theorem s_X9_explained {G : oG} {r : oR} (d : Nat) (hd : 2 ≤ d) {za1 : Int32} {za2 : Int32} {za3 : Int32}  {S : oS} {P : Int32 × oS → Prop} (h : oH (f_X9_explained za1 za2 za3 S) P) : oCt G r d yX9_explained mX9_explained [orf 1000 0, oi za1, oi za2, oi za3] S (oQi P) := by
  unfold f_X9_explained at h
  refine oCt_of (by decide) rfl (Nat.le_of_ble_eq_true rfl) ?_
  intro X hG hr hE0 hR
  subst hG; subst hr
  obtain ⟨e, rfl⟩ : ∃ e, d = e + 1 := ⟨d - 1, by omega⟩
  have he : 1 ≤ e := by omega
  have hE := oEI_of hE0 rfl
  clear hE0 hd
  show oVv X mX9_explained 0 [(0, orf 1000 0), (1, oi za1), (2, oi za2), (3, oi za3)] [] S
  refine o_iconst (v := 0) (pc := 0) dX9_explained_0 (by decide) ?_
  refine o_istore (lv1 := [(0, orf 1000 0), (1, oi za1), (2, oi za2), (3, oi za3), (4, oi (0 : Int32))]) (pc := 1) dX9_explained_1 (by decide) rfl ?_
  refine o_aload_n (pc := 3) dX9_explained_3 rfl 0 rfl ?_
  refine o_iload_n (pc := 4) dX9_explained_4 rfl 2 rfl ?_
  refine o_iload_n (pc := 5) dX9_explained_5 rfl 3 rfl ?_
  have h := oH_bind h
  refine o_callVi (pc := 6) (st := []) [oi za2, oi za3] hR md_X9_renewed wd_1360 wd_1362 ws_57 tc_1000 j_1000 rfl (Nat.le_of_ble_eq_true rfl) rfl dX9_explained_6 (s_X9_renewed e (by omega)  h) (fun zz1 h => ?_)
  refine o_istore (lv1 := [(0, orf 1000 0), (1, oi za1), (2, oi za2), (3, oi za3), (4, oi (0 : Int32)), (5, oi zz1.1)]) (pc := 9) dX9_explained_9 (by decide) rfl ?_
  refine o_iconst (v := 0) (pc := 11) dX9_explained_11 (by decide) ?_
  refine o_istore (lv1 := [(0, orf 1000 0), (1, oi za1), (2, oi za2), (3, oi za3), (4, oi (0 : Int32)), (5, oi zz1.1), (6, oi (0 : Int32))]) (pc := 12) dX9_explained_12 (by decide) rfl ?_
  have h := oH_bind h
  refine s_X9_explained_L14 he hR  (fun zz6 h => ?_) _ ((0 : Int32), (0 : Int32), zz1.2) h
  refine o_iload (pc := 120) dX9_explained_120 0 rfl ?_
  exact hE _ _ _ _ dX9_explained_122 (oH_some h)
def f_X9_best_L49 (zv1 : Int32) (zv6 : Int32) (zv7 : Int32) : Int32 × Int32 × Int32 × Int32 × Int32 × oS → Option ((Int32 × Int32 × Int32 × Int32 × Int32 × oS) ⊕ (Int32 × Int32 × Int32 × Int32 × oS)) := fun w =>
  match w with
  | (zv2, zv3, zv4, zv5, zv8, S) =>
    if (61 : Int32) ≤ zv8 then (
    some (Sum.inr (zv2, zv3, zv4, zv5, S))) else (
    (f_X9_explained zv6 zv7 zv8 S).bind fun zz3 =>
    if zz3.1 ≤ zv5 then (
    oLet (zv8 + (1 : Int32)) fun zx4 =>
    some (Sum.inl (zv2, zv3, zv4, zv5, zx4, zz3.2))) else (
    oLet (zv8 + (1 : Int32)) fun zx5 =>
    some (Sum.inl (zv6, zv7, zv8, zz3.1, zx5, zz3.2))))
set_option maxHeartbeats 4000000 in
theorem s_X9_best_L49b {X : oX} {e : Nat} (he : 2 ≤ e) (hR : oRoom X (e + 1)) {zv1 : Int32} {zv6 : Int32} {zv7 : Int32} {VH : Int32 × Int32 × Int32 × Int32 × Int32 × oS → Prop} {VE : Int32 × Int32 × Int32 × Int32 × oS → Prop} (hVH : ∀ z, VH z → oVv X mX9_best 49 [(0, orf 1000 0), (1, oi zv1), (2, oi z.1), (3, oi z.2.1), (4, oi z.2.2.1), (5, oi z.2.2.2.1), (6, oi zv6), (7, oi zv7), (8, oi z.2.2.2.2.1)] [] z.2.2.2.2.2) (hVE : ∀ z, VE z → oVv X mX9_best 95 [(0, orf 1000 0), (1, oi zv1), (2, oi z.1), (3, oi z.2.1), (4, oi z.2.2.1), (5, oi z.2.2.2.1), (6, oi zv6), (7, oi zv7)] [] z.2.2.2.2) {zv2 : Int32} {zv3 : Int32} {zv4 : Int32} {zv5 : Int32} {zv8 : Int32} {S : oS} (h : oH (f_X9_best_L49 zv1 zv6 zv7 (zv2, zv3, zv4, zv5, zv8, S)) (fun z => Sum.elim VH VE z)) : oVv X mX9_best 49 [(0, orf 1000 0), (1, oi zv1), (2, oi zv2), (3, oi zv3), (4, oi zv4), (5, oi zv5), (6, oi zv6), (7, oi zv7), (8, oi zv8)] [] S := by
  dsimp only [f_X9_best_L49] at h
  refine o_iload (pc := 49) dX9_best_49 8 rfl ?_
  refine o_bipush (v := 61) (pc := 51) dX9_best_51 (by decide) ?_
  refine o_icmp_ge 95 (pc := 53) dX9_best_53 (by decide) (fun hc => ?_) (fun hc => ?_)
  · have h := oH_T hc h
    refine o_weak [0, 1, 2, 3, 4, 5, 6, 7] rfl ?_
    exact hVE _ (oH_some (P := fun z => Sum.elim VH VE z) h)
  · have h := oH_F hc h
    refine o_aload_n (pc := 56) dX9_best_56 rfl 0 rfl ?_
    refine o_iload (pc := 57) dX9_best_57 6 rfl ?_
    refine o_iload (pc := 59) dX9_best_59 7 rfl ?_
    refine o_iload (pc := 61) dX9_best_61 8 rfl ?_
    have h := oH_bind h
    refine o_callVi (pc := 63) (st := []) [oi zv6, oi zv7, oi zv8] hR md_X9_explained wd_1356 wd_1358 ws_56 tc_1000 j_1000 rfl (Nat.le_of_ble_eq_true rfl) rfl dX9_best_63 (s_X9_explained e (by omega)  h) (fun zz3 h => ?_)
    refine o_istore (lv1 := [(0, orf 1000 0), (1, oi zv1), (2, oi zv2), (3, oi zv3), (4, oi zv4), (5, oi zv5), (6, oi zv6), (7, oi zv7), (8, oi zv8), (9, oi zz3.1)]) (pc := 66) dX9_best_66 (by decide) rfl ?_
    refine o_iload (pc := 68) dX9_best_68 9 rfl ?_
    refine o_iload (pc := 70) dX9_best_70 5 rfl ?_
    refine o_icmp_le 89 (pc := 72) dX9_best_72 (by decide) (fun hc => ?_) (fun hc => ?_)
    · have h := oH_T hc h
      obtain ⟨zx4, hx⟩ : ∃ y : Int32, y = zv8 + (1 : Int32) := ⟨_, rfl⟩
      have h := oH_let h zx4 hx
      refine o_iinc (lv1 := [(0, orf 1000 0), (1, oi zv1), (2, oi zv2), (3, oi zv3), (4, oi zv4), (5, oi zv5), (6, oi zv6), (7, oi zv7), (8, oi zx4), (9, oi zz3.1)]) (pc := 89) dX9_best_89 8 rfl hx.symm (by decide) rfl ?_
      clear hx
      refine o_goto 49 (pc := 92) dX9_best_92 (by decide) ?_
      refine o_weak [0, 1, 2, 3, 4, 5, 6, 7, 8] rfl ?_
      exact hVH _ (oH_some (P := fun z => Sum.elim VH VE z) h)
    · have h := oH_F hc h
      refine o_iload (pc := 75) dX9_best_75 9 rfl ?_
      refine o_istore (lv1 := [(0, orf 1000 0), (1, oi zv1), (2, oi zv2), (3, oi zv3), (4, oi zv4), (5, oi zz3.1), (6, oi zv6), (7, oi zv7), (8, oi zv8), (9, oi zz3.1)]) (pc := 77) dX9_best_77 (by decide) rfl ?_
      refine o_iload (pc := 79) dX9_best_79 6 rfl ?_
      refine o_istore_n (lv1 := [(0, orf 1000 0), (1, oi zv1), (2, oi zv6), (3, oi zv3), (4, oi zv4), (5, oi zz3.1), (6, oi zv6), (7, oi zv7), (8, oi zv8), (9, oi zz3.1)]) (pc := 81) dX9_best_81 rfl (by decide) rfl ?_
      refine o_iload (pc := 82) dX9_best_82 7 rfl ?_
      refine o_istore_n (lv1 := [(0, orf 1000 0), (1, oi zv1), (2, oi zv6), (3, oi zv7), (4, oi zv4), (5, oi zz3.1), (6, oi zv6), (7, oi zv7), (8, oi zv8), (9, oi zz3.1)]) (pc := 84) dX9_best_84 rfl (by decide) rfl ?_
      refine o_iload (pc := 85) dX9_best_85 8 rfl ?_
      refine o_istore (lv1 := [(0, orf 1000 0), (1, oi zv1), (2, oi zv6), (3, oi zv7), (4, oi zv8), (5, oi zz3.1), (6, oi zv6), (7, oi zv7), (8, oi zv8), (9, oi zz3.1)]) (pc := 87) dX9_best_87 (by decide) rfl ?_
      obtain ⟨zx5, hx⟩ : ∃ y : Int32, y = zv8 + (1 : Int32) := ⟨_, rfl⟩
      have h := oH_let h zx5 hx
      refine o_iinc (lv1 := [(0, orf 1000 0), (1, oi zv1), (2, oi zv6), (3, oi zv7), (4, oi zv8), (5, oi zz3.1), (6, oi zv6), (7, oi zv7), (8, oi zx5), (9, oi zz3.1)]) (pc := 89) dX9_best_89 8 rfl hx.symm (by decide) rfl ?_
      clear hx
      refine o_goto 49 (pc := 92) dX9_best_92 (by decide) ?_
      refine o_weak [0, 1, 2, 3, 4, 5, 6, 7, 8] rfl ?_
      exact hVH _ (oH_some (P := fun z => Sum.elim VH VE z) h)
theorem s_X9_best_L49 {X : oX} {e : Nat} (he : 2 ≤ e) (hR : oRoom X (e + 1)) {zv1 : Int32} {zv6 : Int32} {zv7 : Int32}  {VE : Int32 × Int32 × Int32 × Int32 × oS → Prop} (hVE : ∀ z, VE z → oVv X mX9_best 95 [(0, orf 1000 0), (1, oi zv1), (2, oi z.1), (3, oi z.2.1), (4, oi z.2.2.1), (5, oi z.2.2.2.1), (6, oi zv6), (7, oi zv7)] [] z.2.2.2.2) (n : Nat) (w : Int32 × Int32 × Int32 × Int32 × Int32 × oS) (h : oH (oLp (f_X9_best_L49 zv1 zv6 zv7) n w) VE) : oVv X mX9_best 49 [(0, orf 1000 0), (1, oi zv1), (2, oi w.1), (3, oi w.2.1), (4, oi w.2.2.1), (5, oi w.2.2.2.1), (6, oi zv6), (7, oi zv7), (8, oi w.2.2.2.2.1)] [] w.2.2.2.2.2 :=
  oLp_s (VH := fun w => oVv X mX9_best 49 [(0, orf 1000 0), (1, oi zv1), (2, oi w.1), (3, oi w.2.1), (4, oi w.2.2.1), (5, oi w.2.2.2.1), (6, oi zv6), (7, oi zv7), (8, oi w.2.2.2.2.1)] [] w.2.2.2.2.2) (fun w h => s_X9_best_L49b he hR  (fun _ h => h) hVE h) n w h
def f_X9_best_L40 (zv1 : Int32) (zv6 : Int32) : Int32 × Int32 × Int32 × Int32 × Int32 × oS → Option ((Int32 × Int32 × Int32 × Int32 × Int32 × oS) ⊕ (Int32 × Int32 × Int32 × Int32 × oS)) := fun w =>
  match w with
  | (zv2, zv3, zv4, zv5, zv7, S) =>
    if (4 : Int32) ≤ zv7 then (
    some (Sum.inr (zv2, zv3, zv4, zv5, S))) else (
    (oLp (f_X9_best_L49 zv1 zv6 zv7) oFu (zv2, zv3, zv4, zv5, (0 : Int32), S)).bind fun zz6 =>
    oLet (zv7 + (1 : Int32)) fun zx7 =>
    some (Sum.inl (zz6.1, zz6.2.1, zz6.2.2.1, zz6.2.2.2.1, zx7, zz6.2.2.2.2)))
set_option maxHeartbeats 4000000 in
theorem s_X9_best_L40b {X : oX} {e : Nat} (he : 2 ≤ e) (hR : oRoom X (e + 1)) {zv1 : Int32} {zv6 : Int32} {VH : Int32 × Int32 × Int32 × Int32 × Int32 × oS → Prop} {VE : Int32 × Int32 × Int32 × Int32 × oS → Prop} (hVH : ∀ z, VH z → oVv X mX9_best 40 [(0, orf 1000 0), (1, oi zv1), (2, oi z.1), (3, oi z.2.1), (4, oi z.2.2.1), (5, oi z.2.2.2.1), (6, oi zv6), (7, oi z.2.2.2.2.1)] [] z.2.2.2.2.2) (hVE : ∀ z, VE z → oVv X mX9_best 101 [(0, orf 1000 0), (1, oi zv1), (2, oi z.1), (3, oi z.2.1), (4, oi z.2.2.1), (5, oi z.2.2.2.1), (6, oi zv6)] [] z.2.2.2.2) {zv2 : Int32} {zv3 : Int32} {zv4 : Int32} {zv5 : Int32} {zv7 : Int32} {S : oS} (h : oH (f_X9_best_L40 zv1 zv6 (zv2, zv3, zv4, zv5, zv7, S)) (fun z => Sum.elim VH VE z)) : oVv X mX9_best 40 [(0, orf 1000 0), (1, oi zv1), (2, oi zv2), (3, oi zv3), (4, oi zv4), (5, oi zv5), (6, oi zv6), (7, oi zv7)] [] S := by
  dsimp only [f_X9_best_L40] at h
  refine o_iload (pc := 40) dX9_best_40 7 rfl ?_
  refine o_iconst (v := 4) (pc := 42) dX9_best_42 (by decide) ?_
  refine o_icmp_ge 101 (pc := 43) dX9_best_43 (by decide) (fun hc => ?_) (fun hc => ?_)
  · have h := oH_T hc h
    refine o_weak [0, 1, 2, 3, 4, 5, 6] rfl ?_
    exact hVE _ (oH_some (P := fun z => Sum.elim VH VE z) h)
  · have h := oH_F hc h
    refine o_iconst (v := 0) (pc := 46) dX9_best_46 (by decide) ?_
    refine o_istore (lv1 := [(0, orf 1000 0), (1, oi zv1), (2, oi zv2), (3, oi zv3), (4, oi zv4), (5, oi zv5), (6, oi zv6), (7, oi zv7), (8, oi (0 : Int32))]) (pc := 47) dX9_best_47 (by decide) rfl ?_
    have h := oH_bind h
    refine s_X9_best_L49 he hR  (fun zz6 h => ?_) _ (zv2, zv3, zv4, zv5, (0 : Int32), S) h
    obtain ⟨zx7, hx⟩ : ∃ y : Int32, y = zv7 + (1 : Int32) := ⟨_, rfl⟩
    have h := oH_let h zx7 hx
    refine o_iinc (lv1 := [(0, orf 1000 0), (1, oi zv1), (2, oi zz6.1), (3, oi zz6.2.1), (4, oi zz6.2.2.1), (5, oi zz6.2.2.2.1), (6, oi zv6), (7, oi zx7)]) (pc := 95) dX9_best_95 7 rfl hx.symm (by decide) rfl ?_
    clear hx
    refine o_goto 40 (pc := 98) dX9_best_98 (by decide) ?_
    exact hVH _ (oH_some (P := fun z => Sum.elim VH VE z) h)
theorem s_X9_best_L40 {X : oX} {e : Nat} (he : 2 ≤ e) (hR : oRoom X (e + 1)) {zv1 : Int32} {zv6 : Int32}  {VE : Int32 × Int32 × Int32 × Int32 × oS → Prop} (hVE : ∀ z, VE z → oVv X mX9_best 101 [(0, orf 1000 0), (1, oi zv1), (2, oi z.1), (3, oi z.2.1), (4, oi z.2.2.1), (5, oi z.2.2.2.1), (6, oi zv6)] [] z.2.2.2.2) (n : Nat) (w : Int32 × Int32 × Int32 × Int32 × Int32 × oS) (h : oH (oLp (f_X9_best_L40 zv1 zv6) n w) VE) : oVv X mX9_best 40 [(0, orf 1000 0), (1, oi zv1), (2, oi w.1), (3, oi w.2.1), (4, oi w.2.2.1), (5, oi w.2.2.2.1), (6, oi zv6), (7, oi w.2.2.2.2.1)] [] w.2.2.2.2.2 :=
  oLp_s (VH := fun w => oVv X mX9_best 40 [(0, orf 1000 0), (1, oi zv1), (2, oi w.1), (3, oi w.2.1), (4, oi w.2.2.1), (5, oi w.2.2.2.1), (6, oi zv6), (7, oi w.2.2.2.2.1)] [] w.2.2.2.2.2) (fun w h => s_X9_best_L40b he hR  (fun _ h => h) hVE h) n w h
def f_X9_best_L31 (zv1 : Int32) : Int32 × Int32 × Int32 × Int32 × Int32 × oS → Option ((Int32 × Int32 × Int32 × Int32 × Int32 × oS) ⊕ (Int32 × Int32 × Int32 × Int32 × oS)) := fun w =>
  match w with
  | (zv2, zv3, zv4, zv5, zv6, S) =>
    if (2 : Int32) < zv6 then (
    some (Sum.inr (zv2, zv3, zv4, zv5, S))) else (
    (oLp (f_X9_best_L40 zv1 zv6) oFu (zv2, zv3, zv4, zv5, (0 : Int32), S)).bind fun zz8 =>
    oLet (zv6 + (1 : Int32)) fun zx9 =>
    some (Sum.inl (zz8.1, zz8.2.1, zz8.2.2.1, zz8.2.2.2.1, zx9, zz8.2.2.2.2)))
set_option maxHeartbeats 4000000 in
theorem s_X9_best_L31b {X : oX} {e : Nat} (he : 2 ≤ e) (hR : oRoom X (e + 1)) {zv1 : Int32} {VH : Int32 × Int32 × Int32 × Int32 × Int32 × oS → Prop} {VE : Int32 × Int32 × Int32 × Int32 × oS → Prop} (hVH : ∀ z, VH z → oVv X mX9_best 31 [(0, orf 1000 0), (1, oi zv1), (2, oi z.1), (3, oi z.2.1), (4, oi z.2.2.1), (5, oi z.2.2.2.1), (6, oi z.2.2.2.2.1)] [] z.2.2.2.2.2) (hVE : ∀ z, VE z → oVv X mX9_best 107 [(1, oi zv1), (2, oi z.1), (3, oi z.2.1), (4, oi z.2.2.1), (5, oi z.2.2.2.1)] [] z.2.2.2.2) {zv2 : Int32} {zv3 : Int32} {zv4 : Int32} {zv5 : Int32} {zv6 : Int32} {S : oS} (h : oH (f_X9_best_L31 zv1 (zv2, zv3, zv4, zv5, zv6, S)) (fun z => Sum.elim VH VE z)) : oVv X mX9_best 31 [(0, orf 1000 0), (1, oi zv1), (2, oi zv2), (3, oi zv3), (4, oi zv4), (5, oi zv5), (6, oi zv6)] [] S := by
  dsimp only [f_X9_best_L31] at h
  refine o_iload (pc := 31) dX9_best_31 6 rfl ?_
  refine o_iconst (v := 2) (pc := 33) dX9_best_33 (by decide) ?_
  refine o_icmp_gt 107 (pc := 34) dX9_best_34 (by decide) (fun hc => ?_) (fun hc => ?_)
  · have h := oH_T hc h
    refine o_weak [1, 2, 3, 4, 5] rfl ?_
    exact hVE _ (oH_some (P := fun z => Sum.elim VH VE z) h)
  · have h := oH_F hc h
    refine o_iconst (v := 0) (pc := 37) dX9_best_37 (by decide) ?_
    refine o_istore (lv1 := [(0, orf 1000 0), (1, oi zv1), (2, oi zv2), (3, oi zv3), (4, oi zv4), (5, oi zv5), (6, oi zv6), (7, oi (0 : Int32))]) (pc := 38) dX9_best_38 (by decide) rfl ?_
    have h := oH_bind h
    refine s_X9_best_L40 he hR  (fun zz8 h => ?_) _ (zv2, zv3, zv4, zv5, (0 : Int32), S) h
    obtain ⟨zx9, hx⟩ : ∃ y : Int32, y = zv6 + (1 : Int32) := ⟨_, rfl⟩
    have h := oH_let h zx9 hx
    refine o_iinc (lv1 := [(0, orf 1000 0), (1, oi zv1), (2, oi zz8.1), (3, oi zz8.2.1), (4, oi zz8.2.2.1), (5, oi zz8.2.2.2.1), (6, oi zx9)]) (pc := 101) dX9_best_101 6 rfl hx.symm (by decide) rfl ?_
    clear hx
    refine o_goto 31 (pc := 104) dX9_best_104 (by decide) ?_
    exact hVH _ (oH_some (P := fun z => Sum.elim VH VE z) h)
theorem s_X9_best_L31 {X : oX} {e : Nat} (he : 2 ≤ e) (hR : oRoom X (e + 1)) {zv1 : Int32}  {VE : Int32 × Int32 × Int32 × Int32 × oS → Prop} (hVE : ∀ z, VE z → oVv X mX9_best 107 [(1, oi zv1), (2, oi z.1), (3, oi z.2.1), (4, oi z.2.2.1), (5, oi z.2.2.2.1)] [] z.2.2.2.2) (n : Nat) (w : Int32 × Int32 × Int32 × Int32 × Int32 × oS) (h : oH (oLp (f_X9_best_L31 zv1) n w) VE) : oVv X mX9_best 31 [(0, orf 1000 0), (1, oi zv1), (2, oi w.1), (3, oi w.2.1), (4, oi w.2.2.1), (5, oi w.2.2.2.1), (6, oi w.2.2.2.2.1)] [] w.2.2.2.2.2 :=
  oLp_s (VH := fun w => oVv X mX9_best 31 [(0, orf 1000 0), (1, oi zv1), (2, oi w.1), (3, oi w.2.1), (4, oi w.2.2.1), (5, oi w.2.2.2.1), (6, oi w.2.2.2.2.1)] [] w.2.2.2.2.2) (fun w h => s_X9_best_L31b he hR  (fun _ h => h) hVE h) n w h
def f_X9_best  (za1 : Int32) (S : oS) : Option (Int32 × oS) :=
  (f_X9_in za1 (0 : Int32) (3 : Int32) S).bind fun zz1 =>
  if zz1.1 = 0 then (
  some ((-2 : Int32), zz1.2)) else (
  (f_X9_explained (0 : Int32) (0 : Int32) (0 : Int32) zz1.2).bind fun zz2 =>
  (oLp (f_X9_best_L31 za1) oFu ((0 : Int32), (-1 : Int32), (-1 : Int32), zz2.1, (1 : Int32), zz2.2)).bind fun zz10 =>
  if za1 = 0 then (
  some (zz10.1, zz10.2.2.2.2)) else (
  if za1 = (1 : Int32) then (
  some (zz10.2.1, zz10.2.2.2.2)) else (
  if za1 = (2 : Int32) then (
  some (zz10.2.2.1, zz10.2.2.2.2)) else (
  some (zz10.2.2.2.1, zz10.2.2.2.2)))))
set_option maxHeartbeats 4000000 in
theorem s_X9_best {G : oG} {r : oR} (d : Nat) (hd : 3 ≤ d) {za1 : Int32}  {S : oS} {P : Int32 × oS → Prop} (h : oH (f_X9_best za1 S) P) : oCt G r d yX9_best mX9_best [orf 1000 0, oi za1] S (oQi P) := by
  unfold f_X9_best at h
  refine oCt_of (by decide) rfl (Nat.le_of_ble_eq_true rfl) ?_
  intro X hG hr hE0 hR
  subst hG; subst hr
  obtain ⟨e, rfl⟩ : ∃ e, d = e + 1 := ⟨d - 1, by omega⟩
  have he : 2 ≤ e := by omega
  have hE := oEI_of hE0 rfl
  clear hE0 hd
  show oVv X mX9_best 0 [(0, orf 1000 0), (1, oi za1)] [] S
  refine o_iload_n (pc := 0) dX9_best_0 rfl 1 rfl ?_
  refine o_iconst (v := 0) (pc := 1) dX9_best_1 (by decide) ?_
  refine o_iconst (v := 3) (pc := 2) dX9_best_2 (by decide) ?_
  have h := oH_bind h
  refine o_callSi (pc := 3) (st := []) [oi za1, oi (0 : Int32), oi (3 : Int32)] hR md_X9_in wd_1061 wd_1062 rfl (Nat.le_of_ble_eq_true rfl) rfl dX9_best_3 (s_X9_in e (by omega)  h) (fun zz1 h => ?_)
  refine o_if_ne 12 (pc := 6) dX9_best_6 (by decide) (fun hc => ?_) (fun hc => ?_)
  · have h := oH_F hc h
    refine o_iconst (v := 0) (pc := 12) dX9_best_12 (by decide) ?_
    refine o_istore_n (lv1 := [(0, orf 1000 0), (1, oi za1), (2, oi (0 : Int32))]) (pc := 13) dX9_best_13 rfl (by decide) rfl ?_
    refine o_iconst (v := -1) (pc := 14) dX9_best_14 (by decide) ?_
    refine o_istore_n (lv1 := [(0, orf 1000 0), (1, oi za1), (2, oi (0 : Int32)), (3, oi (-1 : Int32))]) (pc := 15) dX9_best_15 rfl (by decide) rfl ?_
    refine o_iconst (v := -1) (pc := 16) dX9_best_16 (by decide) ?_
    refine o_istore (lv1 := [(0, orf 1000 0), (1, oi za1), (2, oi (0 : Int32)), (3, oi (-1 : Int32)), (4, oi (-1 : Int32))]) (pc := 17) dX9_best_17 (by decide) rfl ?_
    refine o_aload_n (pc := 19) dX9_best_19 rfl 0 rfl ?_
    refine o_iconst (v := 0) (pc := 20) dX9_best_20 (by decide) ?_
    refine o_iconst (v := 0) (pc := 21) dX9_best_21 (by decide) ?_
    refine o_iconst (v := 0) (pc := 22) dX9_best_22 (by decide) ?_
    have h := oH_bind h
    refine o_callVi (pc := 23) (st := []) [oi (0 : Int32), oi (0 : Int32), oi (0 : Int32)] hR md_X9_explained wd_1356 wd_1358 ws_56 tc_1000 j_1000 rfl (Nat.le_of_ble_eq_true rfl) rfl dX9_best_23 (s_X9_explained e (by omega)  h) (fun zz2 h => ?_)
    refine o_istore (lv1 := [(0, orf 1000 0), (1, oi za1), (2, oi (0 : Int32)), (3, oi (-1 : Int32)), (4, oi (-1 : Int32)), (5, oi zz2.1)]) (pc := 26) dX9_best_26 (by decide) rfl ?_
    refine o_iconst (v := 1) (pc := 28) dX9_best_28 (by decide) ?_
    refine o_istore (lv1 := [(0, orf 1000 0), (1, oi za1), (2, oi (0 : Int32)), (3, oi (-1 : Int32)), (4, oi (-1 : Int32)), (5, oi zz2.1), (6, oi (1 : Int32))]) (pc := 29) dX9_best_29 (by decide) rfl ?_
    have h := oH_bind h
    refine s_X9_best_L31 he hR  (fun zz10 h => ?_) _ ((0 : Int32), (-1 : Int32), (-1 : Int32), zz2.1, (1 : Int32), zz2.2) h
    refine o_iload_n (pc := 107) dX9_best_107 rfl 0 rfl ?_
    refine o_if_ne 115 (pc := 108) dX9_best_108 (by decide) (fun hc => ?_) (fun hc => ?_)
    · have h := oH_F hc h
      refine o_iload_n (pc := 115) dX9_best_115 rfl 0 rfl ?_
      refine o_iconst (v := 1) (pc := 116) dX9_best_116 (by decide) ?_
      refine o_icmp_ne 124 (pc := 117) dX9_best_117 (by decide) (fun hc => ?_) (fun hc => ?_)
      · have h := oH_F hc h
        refine o_iload_n (pc := 124) dX9_best_124 rfl 0 rfl ?_
        refine o_iconst (v := 2) (pc := 125) dX9_best_125 (by decide) ?_
        refine o_icmp_ne 134 (pc := 126) dX9_best_126 (by decide) (fun hc => ?_) (fun hc => ?_)
        · have h := oH_F hc h
          refine o_iload (pc := 134) dX9_best_134 4 rfl ?_
          exact hE _ _ _ _ dX9_best_136 (oH_some h)
        · have h := oH_T hc h
          refine o_iload (pc := 129) dX9_best_129 3 rfl ?_
          refine o_goto 136 (pc := 131) dX9_best_131 (by decide) ?_
          exact hE _ _ _ _ dX9_best_136 (oH_some h)
      · have h := oH_T hc h
        refine o_iload_n (pc := 120) dX9_best_120 rfl 2 rfl ?_
        refine o_goto 136 (pc := 121) dX9_best_121 (by decide) ?_
        exact hE _ _ _ _ dX9_best_136 (oH_some h)
    · have h := oH_T hc h
      refine o_iload_n (pc := 111) dX9_best_111 rfl 1 rfl ?_
      refine o_goto 136 (pc := 112) dX9_best_112 (by decide) ?_
      exact hE _ _ _ _ dX9_best_136 (oH_some h)
  · have h := oH_T hc h
    refine o_bipush (v := -2) (pc := 9) dX9_best_9 (by decide) ?_
    exact hE _ _ _ _ dX9_best_11 (oH_some h)
def f_X9_isRing  (za0 : Int32) (S : oS) : Option (Int32 × oS) :=
  (f_X9_in za0 (0 : Int32) (3 : Int32) S).bind fun zz1 =>
  if oBl zz1.1 then (
  some (zz1.1, zz1.2)) else none
set_option maxHeartbeats 4000000 in
theorem s_X9_isRing {G : oG} {r : oR} (d : Nat) (hd : 2 ≤ d) {za0 : Int32}  {S : oS} {P : Int32 × oS → Prop} (h : oH (f_X9_isRing za0 S) P) : oCt G r d yX9_isRing mX9_isRing [oi za0] S (oQi P) := by
  unfold f_X9_isRing at h
  refine oCt_of (by decide) rfl (Nat.le_of_ble_eq_true rfl) ?_
  intro X hG hr hE0 hR
  subst hG; subst hr
  obtain ⟨e, rfl⟩ : ∃ e, d = e + 1 := ⟨d - 1, by omega⟩
  have he : 1 ≤ e := by omega
  have hE := oEZ_of hE0 rfl
  clear hE0 hd
  show oVv X mX9_isRing 0 [(0, oi za0)] [] S
  refine o_iload_n (pc := 0) dX9_isRing_0 rfl 0 rfl ?_
  refine o_iconst (v := 0) (pc := 1) dX9_isRing_1 (by decide) ?_
  refine o_iconst (v := 3) (pc := 2) dX9_isRing_2 (by decide) ?_
  have h := oH_bind h
  refine o_callSi (pc := 3) (st := []) [oi za0, oi (0 : Int32), oi (3 : Int32)] hR md_X9_in wd_1061 wd_1062 rfl (Nat.le_of_ble_eq_true rfl) rfl dX9_isRing_3 (s_X9_in e (by omega)  h) (fun zz1 h => ?_)
  obtain ⟨hg, h⟩ := oH_G h
  exact hE _ _ _ _ dX9_isRing_6 hg (oH_some h)
def f_X9_bricks  (za1 : Int32) (za2 : Int32) (S : oS) : Option (Int32 × oS) :=
  (f_X9_isRing za1 S).bind fun zz1 =>
  if zz1.1 = 0 then (
  some ((-2 : Int32), zz1.2)) else (
  (f_X9_isWeek za2 zz1.2).bind fun zz2 =>
  if zz2.1 = 0 then (
  some ((-2 : Int32), zz2.2)) else (
  if (zz2.2.1 1000 0 46) = (10 : Int32) then (
  some ((-4 : Int32), zz2.2)) else (
  if oIn (zz2.2.1 1000 0 46) 10 then (
  oLet (oStI zz2.2 1048 0 (Int32.toNatClampNeg (zz2.2.1 1000 0 46)) za1) fun zS3 =>
  if oIn (zS3.1 1000 0 46) 10 then (
  oLet (oStI zS3 1049 0 (Int32.toNatClampNeg (zS3.1 1000 0 46)) za2) fun zS4 =>
  oLet (oStI zS4 1000 0 46 ((zS4.1 1000 0 46) + (1 : Int32))) fun zS5 =>
  some (zS5.1 1000 0 46, zS5)) else none) else none)))
set_option maxHeartbeats 4000000 in
theorem s_X9_bricks {G : oG} {r : oR} (d : Nat) (hd : 3 ≤ d) {za1 : Int32} {za2 : Int32}  {S : oS} {P : Int32 × oS → Prop} (h : oH (f_X9_bricks za1 za2 S) P) : oCt G r d yX9_bricks mX9_bricks [orf 1000 0, oi za1, oi za2] S (oQi P) := by
  unfold f_X9_bricks at h
  refine oCt_of (by decide) rfl (Nat.le_of_ble_eq_true rfl) ?_
  intro X hG hr hE0 hR
  subst hG; subst hr
  obtain ⟨e, rfl⟩ : ∃ e, d = e + 1 := ⟨d - 1, by omega⟩
  have he : 2 ≤ e := by omega
  have hE := oEI_of hE0 rfl
  clear hE0 hd
  show oVv X mX9_bricks 0 [(0, orf 1000 0), (1, oi za1), (2, oi za2)] [] S
  refine o_iload_n (pc := 0) dX9_bricks_0 rfl 1 rfl ?_
  have h := oH_bind h
  refine o_callSi (pc := 1) (st := []) [oi za1] hR md_X9_isRing wd_1068 wd_1069 rfl (Nat.le_of_ble_eq_true rfl) rfl dX9_bricks_1 (s_X9_isRing e (by omega)  h) (fun zz1 h => ?_)
  refine o_if_eq 14 (pc := 4) dX9_bricks_4 (by decide) (fun hc => ?_) (fun hc => ?_)
  · have h := oH_T hc h
    refine o_bipush (v := -2) (pc := 14) dX9_bricks_14 (by decide) ?_
    exact hE _ _ _ _ dX9_bricks_16 (oH_some h)
  · have h := oH_F hc h
    refine o_iload_n (pc := 7) dX9_bricks_7 rfl 2 rfl ?_
    have h := oH_bind h
    refine o_callSi (pc := 8) (st := []) [oi za2] hR md_X9_isWeek wd_1297 wd_1298 rfl (Nat.le_of_ble_eq_true rfl) rfl dX9_bricks_8 (s_X9_isWeek e (by omega)  h) (fun zz2 h => ?_)
    refine o_if_ne 17 (pc := 11) dX9_bricks_11 (by decide) (fun hc => ?_) (fun hc => ?_)
    · have h := oH_F hc h
      refine o_aload_n (pc := 17) dX9_bricks_17 rfl 0 rfl ?_
      refine o_getI (pc := 18) fd_RX9_375 ft_1000_46 j_1000 dX9_bricks_18 ?_
      refine o_bipush (v := 10) (pc := 21) dX9_bricks_21 (by decide) ?_
      refine o_icmp_ne 29 (pc := 23) dX9_bricks_23 (by decide) (fun hc => ?_) (fun hc => ?_)
      · have h := oH_F hc h
        refine o_aload_n (pc := 29) dX9_bricks_29 rfl 0 rfl ?_
        refine o_getA (pc := 30) fd_RX9_106 ft_1000_47 j_1000 dX9_bricks_30 ?_
        refine o_aload_n (pc := 33) dX9_bricks_33 rfl 0 rfl ?_
        refine o_getI (pc := 34) fd_RX9_375 ft_1000_46 j_1000 dX9_bricks_34 ?_
        refine o_iload_n (pc := 37) dX9_bricks_37 rfl 1 rfl ?_
        obtain ⟨hg, h⟩ := oH_G h
        have hgi := hg
        refine o_iast (pc := 38) kd_1048 j_1048 hgi dX9_bricks_38 ?_
        refine o_nmS (fun zS3 hx => ?_)
        have h := oH_let h zS3 hx
        clear hx
        refine o_aload_n (pc := 39) dX9_bricks_39 rfl 0 rfl ?_
        refine o_getA (pc := 40) fd_RX9_109 ft_1000_48 j_1000 dX9_bricks_40 ?_
        refine o_aload_n (pc := 43) dX9_bricks_43 rfl 0 rfl ?_
        refine o_getI (pc := 44) fd_RX9_375 ft_1000_46 j_1000 dX9_bricks_44 ?_
        refine o_iload_n (pc := 47) dX9_bricks_47 rfl 2 rfl ?_
        obtain ⟨hg, h⟩ := oH_G h
        have hgi := hg
        refine o_iast (pc := 48) kd_1049 j_1049 hgi dX9_bricks_48 ?_
        refine o_nmS (fun zS4 hx => ?_)
        have h := oH_let h zS4 hx
        clear hx
        refine o_aload_n (pc := 49) dX9_bricks_49 rfl 0 rfl ?_
        refine o_dup (pc := 50) dX9_bricks_50 rfl ?_
        refine o_getI (pc := 51) fd_RX9_375 ft_1000_46 j_1000 dX9_bricks_51 ?_
        refine o_iconst (v := 1) (pc := 54) dX9_bricks_54 (by decide) ?_
        refine o_iadd (pc := 55) dX9_bricks_55 ?_
        refine o_putI (pc := 56) fd_RX9_375 fp_1000_46 ft_1000_46 rfl rfl j_1000 dX9_bricks_56 ?_
        refine o_nmS (fun zS5 hx => ?_)
        have h := oH_let h zS5 hx
        clear hx
        refine o_aload_n (pc := 59) dX9_bricks_59 rfl 0 rfl ?_
        refine o_getI (pc := 60) fd_RX9_375 ft_1000_46 j_1000 dX9_bricks_60 ?_
        exact hE _ _ _ _ dX9_bricks_63 (oH_some h)
      · have h := oH_T hc h
        refine o_bipush (v := -4) (pc := 26) dX9_bricks_26 (by decide) ?_
        exact hE _ _ _ _ dX9_bricks_28 (oH_some h)
    · have h := oH_T hc h
      refine o_bipush (v := -2) (pc := 14) dX9_bricks_14 (by decide) ?_
      exact hE _ _ _ _ dX9_bricks_16 (oH_some h)
def f_X9_burnt  (za0 : Int32) (za1 : Int32) (S : oS) : Option (Int64 × oS) :=
  some ((((Int32.toInt64 za0) * (Int32.toInt64 ((2000 : Int32) - ((26 : Int32) * za1)))) / (10 : Int64)), S)
set_option maxHeartbeats 4000000 in
theorem s_X9_burnt {G : oG} {r : oR} (d : Nat) (hd : 1 ≤ d) {za0 : Int32} {za1 : Int32}  {S : oS} {P : Int64 × oS → Prop} (h : oH (f_X9_burnt za0 za1 S) P) : oCt G r d yX9_burnt mX9_burnt [oi za0, oi za1] S (oQl P) := by
  unfold f_X9_burnt at h
  refine oCt_of (by decide) rfl (Nat.le_of_ble_eq_true rfl) ?_
  intro X hG hr hE0 hR
  subst hG; subst hr
  obtain ⟨e, rfl⟩ : ∃ e, d = e + 1 := ⟨d - 1, by omega⟩
  have he : 0 ≤ e := by omega
  have hE := oEL_of hE0 rfl
  clear hE0 hd
  show oVv X mX9_burnt 0 [(0, oi za0), (1, oi za1)] [] S
  refine o_iload_n (pc := 0) dX9_burnt_0 rfl 0 rfl ?_
  refine o_i2l (pc := 1) dX9_burnt_1 ?_
  refine o_sipush (v := 2000) (pc := 2) dX9_burnt_2 (by decide) ?_
  refine o_bipush (v := 26) (pc := 5) dX9_burnt_5 (by decide) ?_
  refine o_iload_n (pc := 7) dX9_burnt_7 rfl 1 rfl ?_
  refine o_imul (pc := 8) dX9_burnt_8 ?_
  refine o_isub (pc := 9) dX9_burnt_9 ?_
  refine o_i2l (pc := 10) dX9_burnt_10 ?_
  refine o_lmul (pc := 11) dX9_burnt_11 ?_
  refine o_ldc2 (v := 10) (pc := 12) dX9_burnt_12 wd_857 ?_
  refine o_ldiv (pc := 15) dX9_burnt_15 (by decide) ?_
  exact hE _ _ _ _ dX9_burnt_16 (oH_some h)
def f_X9_countNone   (S : oS) : Option (oS) :=
  oLet (oStI S 1000 0 53 (0 : Int32)) fun zS1 =>
  oLet (oStI zS1 1000 0 54 (0 : Int32)) fun zS2 =>
  oLet (oStI zS2 1000 0 55 (0 : Int32)) fun zS3 =>
  some zS3
set_option maxHeartbeats 4000000 in
theorem s_X9_countNone {G : oG} {r : oR} (d : Nat) (hd : 1 ≤ d)   {S : oS} {P : oS → Prop} (h : oH (f_X9_countNone  S) P) : oCt G r d yX9_countNone mX9_countNone [orf 1000 0] S (oQv P) := by
  unfold f_X9_countNone at h
  refine oCt_of (by decide) rfl (Nat.le_of_ble_eq_true rfl) ?_
  intro X hG hr hE0 hR
  subst hG; subst hr
  obtain ⟨e, rfl⟩ : ∃ e, d = e + 1 := ⟨d - 1, by omega⟩
  have he : 0 ≤ e := by omega
  have hE := oEV_of hE0 rfl
  clear hE0 hd
  show oVv X mX9_countNone 0 [(0, orf 1000 0)] [] S
  refine o_aload_n (pc := 0) dX9_countNone_0 rfl 0 rfl ?_
  refine o_iconst (v := 0) (pc := 1) dX9_countNone_1 (by decide) ?_
  refine o_putI (pc := 2) fd_RX9_254 fp_1000_53 ft_1000_53 rfl rfl j_1000 dX9_countNone_2 ?_
  refine o_nmS (fun zS1 hx => ?_)
  have h := oH_let h zS1 hx
  clear hx
  refine o_aload_n (pc := 5) dX9_countNone_5 rfl 0 rfl ?_
  refine o_iconst (v := 0) (pc := 6) dX9_countNone_6 (by decide) ?_
  refine o_putI (pc := 7) fd_RX9_257 fp_1000_54 ft_1000_54 rfl rfl j_1000 dX9_countNone_7 ?_
  refine o_nmS (fun zS2 hx => ?_)
  have h := oH_let h zS2 hx
  clear hx
  refine o_aload_n (pc := 10) dX9_countNone_10 rfl 0 rfl ?_
  refine o_iconst (v := 0) (pc := 11) dX9_countNone_11 (by decide) ?_
  refine o_putI (pc := 12) fd_RX9_260 fp_1000_55 ft_1000_55 rfl rfl j_1000 dX9_countNone_12 ?_
  refine o_nmS (fun zS3 hx => ?_)
  have h := oH_let h zS3 hx
  clear hx
  exact hE _ _ _ dX9_countNone_15 (oH_some h)
def f_X9_countKind_K72 (zs1 : Int32) (zs2 : Int32) (S : oS) : Option (oS) :=
  oLet (oStI S 1000 0 55 (zs1 + zs2)) fun zS3 =>
  some zS3
set_option maxHeartbeats 4000000 in
theorem s_X9_countKind_K72 {X : oX} {e : Nat} (he : 0 ≤ e) (hR : oRoom X (e + 1)) {zs1 : Int32} {zs2 : Int32} {P : oS → Prop} (hE : oEV X mX9_countKind P) {S : oS} (h : oH (f_X9_countKind_K72 zs1 zs2 S) P) : oVv X mX9_countKind 72 [] [oi zs2, oi zs1, orf 1000 0] S := by
  unfold f_X9_countKind_K72 at h
  refine o_iadd (pc := 72) dX9_countKind_72 ?_
  refine o_putI (pc := 73) fd_RX9_260 fp_1000_55 ft_1000_55 rfl rfl j_1000 dX9_countKind_73 ?_
  refine o_nmS (fun zS3 hx => ?_)
  have h := oH_let h zS3 hx
  clear hx
  exact hE _ _ _ dX9_countKind_76 (oH_some h)
def f_X9_countKind_K43 (zv1 : Int32) (zs1 : Int32) (zs2 : Int32) (S : oS) : Option (oS) :=
  oLet (oStI S 1000 0 54 (zs1 + zs2)) fun zS2 =>
  if oIn zv1 8 then (
  if (zS2.1 1015 0 (Int32.toNatClampNeg zv1)) ≤ (1 : Int32) then (
  f_X9_countKind_K72 (zS2.1 1000 0 55) (0 : Int32) zS2) else (
  if oIn zv1 8 then (
  f_X9_countKind_K72 (zS2.1 1000 0 55) (zS2.1 1015 0 (Int32.toNatClampNeg zv1)) zS2) else none)) else none
set_option maxHeartbeats 4000000 in
theorem s_X9_countKind_K43 {X : oX} {e : Nat} (he : 0 ≤ e) (hR : oRoom X (e + 1)) {zv1 : Int32} {zs1 : Int32} {zs2 : Int32} {P : oS → Prop} (hE : oEV X mX9_countKind P) {S : oS} (h : oH (f_X9_countKind_K43 zv1 zs1 zs2 S) P) : oVv X mX9_countKind 43 [(0, orf 1000 0), (1, oi zv1)] [oi zs2, oi zs1, orf 1000 0] S := by
  unfold f_X9_countKind_K43 at h
  refine o_iadd (pc := 43) dX9_countKind_43 ?_
  refine o_putI (pc := 44) fd_RX9_257 fp_1000_54 ft_1000_54 rfl rfl j_1000 dX9_countKind_44 ?_
  refine o_nmS (fun zS2 hx => ?_)
  have h := oH_let h zS2 hx
  clear hx
  refine o_aload_n (pc := 47) dX9_countKind_47 rfl 0 rfl ?_
  refine o_dup (pc := 48) dX9_countKind_48 rfl ?_
  refine o_getI (pc := 49) fd_RX9_260 ft_1000_55 j_1000 dX9_countKind_49 ?_
  refine o_aload_n (pc := 52) dX9_countKind_52 rfl 0 rfl ?_
  refine o_getA (pc := 53) fd_RX9_30 ft_1000_14 j_1000 dX9_countKind_53 ?_
  refine o_iload_n (pc := 56) dX9_countKind_56 rfl 1 rfl ?_
  obtain ⟨hg, h⟩ := oH_G h
  refine o_iald (pc := 57) kd_1015 j_1015 hg dX9_countKind_57 ?_
  refine o_iconst (v := 1) (pc := 58) dX9_countKind_58 (by decide) ?_
  refine o_icmp_le 71 (pc := 59) dX9_countKind_59 (by decide) (fun hc => ?_) (fun hc => ?_)
  · have h := oH_T hc h
    refine o_iconst (v := 0) (pc := 71) dX9_countKind_71 (by decide) ?_
    refine o_weak [] rfl ?_
    exact s_X9_countKind_K72 he hR  hE h
  · have h := oH_F hc h
    refine o_aload_n (pc := 62) dX9_countKind_62 rfl 0 rfl ?_
    refine o_getA (pc := 63) fd_RX9_30 ft_1000_14 j_1000 dX9_countKind_63 ?_
    refine o_iload_n (pc := 66) dX9_countKind_66 rfl 1 rfl ?_
    obtain ⟨hg, h⟩ := oH_G h
    refine o_iald (pc := 67) kd_1015 j_1015 hg dX9_countKind_67 ?_
    refine o_goto 72 (pc := 68) dX9_countKind_68 (by decide) ?_
    refine o_weak [] rfl ?_
    exact s_X9_countKind_K72 he hR  hE h
def f_X9_countKind_K20 (zv1 : Int32) (zs1 : Int32) (zs2 : Int32) (S : oS) : Option (oS) :=
  oLet (oStI S 1000 0 53 (zs1 + zs2)) fun zS1 =>
  if oIn zv1 8 then (
  if (zS1.1 1016 0 (Int32.toNatClampNeg zv1)) = 0 then (
  f_X9_countKind_K43 zv1 (zS1.1 1000 0 54) (0 : Int32) zS1) else (
  f_X9_countKind_K43 zv1 (zS1.1 1000 0 54) (1 : Int32) zS1)) else none
set_option maxHeartbeats 4000000 in
theorem s_X9_countKind_K20 {X : oX} {e : Nat} (he : 0 ≤ e) (hR : oRoom X (e + 1)) {zv1 : Int32} {zs1 : Int32} {zs2 : Int32} {P : oS → Prop} (hE : oEV X mX9_countKind P) {S : oS} (h : oH (f_X9_countKind_K20 zv1 zs1 zs2 S) P) : oVv X mX9_countKind 20 [(0, orf 1000 0), (1, oi zv1)] [oi zs2, oi zs1, orf 1000 0] S := by
  unfold f_X9_countKind_K20 at h
  refine o_iadd (pc := 20) dX9_countKind_20 ?_
  refine o_putI (pc := 21) fd_RX9_254 fp_1000_53 ft_1000_53 rfl rfl j_1000 dX9_countKind_21 ?_
  refine o_nmS (fun zS1 hx => ?_)
  have h := oH_let h zS1 hx
  clear hx
  refine o_aload_n (pc := 24) dX9_countKind_24 rfl 0 rfl ?_
  refine o_dup (pc := 25) dX9_countKind_25 rfl ?_
  refine o_getI (pc := 26) fd_RX9_257 ft_1000_54 j_1000 dX9_countKind_26 ?_
  refine o_aload_n (pc := 29) dX9_countKind_29 rfl 0 rfl ?_
  refine o_getA (pc := 30) fd_RX9_33 ft_1000_15 j_1000 dX9_countKind_30 ?_
  refine o_iload_n (pc := 33) dX9_countKind_33 rfl 1 rfl ?_
  obtain ⟨hg, h⟩ := oH_G h
  refine o_zald (pc := 34) kd_1016 j_1016 hg dX9_countKind_34 ?_
  refine o_if_eq 42 (pc := 35) dX9_countKind_35 (by decide) (fun hc => ?_) (fun hc => ?_)
  · have h := oH_T hc h
    refine o_iconst (v := 0) (pc := 42) dX9_countKind_42 (by decide) ?_
    exact s_X9_countKind_K43 he hR  hE h
  · have h := oH_F hc h
    refine o_iconst (v := 1) (pc := 38) dX9_countKind_38 (by decide) ?_
    refine o_goto 43 (pc := 39) dX9_countKind_39 (by decide) ?_
    exact s_X9_countKind_K43 he hR  hE h
def f_X9_countKind  (za1 : Int32) (S : oS) : Option (oS) :=
  if oIn za1 8 then (
  if (S.1 1015 0 (Int32.toNatClampNeg za1)) = (1 : Int32) then (
  f_X9_countKind_K20 za1 (S.1 1000 0 53) (1 : Int32) S) else (
  f_X9_countKind_K20 za1 (S.1 1000 0 53) (0 : Int32) S)) else none
set_option maxHeartbeats 4000000 in
theorem s_X9_countKind {G : oG} {r : oR} (d : Nat) (hd : 1 ≤ d) {za1 : Int32}  {S : oS} {P : oS → Prop} (h : oH (f_X9_countKind za1 S) P) : oCt G r d yX9_countKind mX9_countKind [orf 1000 0, oi za1] S (oQv P) := by
  unfold f_X9_countKind at h
  refine oCt_of (by decide) rfl (Nat.le_of_ble_eq_true rfl) ?_
  intro X hG hr hE0 hR
  subst hG; subst hr
  obtain ⟨e, rfl⟩ : ∃ e, d = e + 1 := ⟨d - 1, by omega⟩
  have he : 0 ≤ e := by omega
  have hE := oEV_of hE0 rfl
  clear hE0 hd
  show oVv X mX9_countKind 0 [(0, orf 1000 0), (1, oi za1)] [] S
  refine o_aload_n (pc := 0) dX9_countKind_0 rfl 0 rfl ?_
  refine o_dup (pc := 1) dX9_countKind_1 rfl ?_
  refine o_getI (pc := 2) fd_RX9_254 ft_1000_53 j_1000 dX9_countKind_2 ?_
  refine o_aload_n (pc := 5) dX9_countKind_5 rfl 0 rfl ?_
  refine o_getA (pc := 6) fd_RX9_30 ft_1000_14 j_1000 dX9_countKind_6 ?_
  refine o_iload_n (pc := 9) dX9_countKind_9 rfl 1 rfl ?_
  obtain ⟨hg, h⟩ := oH_G h
  refine o_iald (pc := 10) kd_1015 j_1015 hg dX9_countKind_10 ?_
  refine o_iconst (v := 1) (pc := 11) dX9_countKind_11 (by decide) ?_
  refine o_icmp_ne 19 (pc := 12) dX9_countKind_12 (by decide) (fun hc => ?_) (fun hc => ?_)
  · have h := oH_F hc h
    refine o_iconst (v := 0) (pc := 19) dX9_countKind_19 (by decide) ?_
    exact s_X9_countKind_K20 he hR  hE h
  · have h := oH_T hc h
    refine o_iconst (v := 1) (pc := 15) dX9_countKind_15 (by decide) ?_
    refine o_goto 20 (pc := 16) dX9_countKind_16 (by decide) ?_
    exact s_X9_countKind_K20 he hR  hE h
def f_X9_countRing_L6 (zv1 : Int32) (zv2 : Int32) : Int32 × oS → Option ((Int32 × oS) ⊕ (oS)) := fun w =>
  match w with
  | (zv3, S) =>
    if (S.1 1000 0 24) ≤ zv3 then (
    some (Sum.inr S)) else (
    if oIn zv3 200 then (
    if (S.1 1027 0 (Int32.toNatClampNeg zv3)) = zv1 then (
    if zv3 = zv2 then (
    oLet (zv3 + (1 : Int32)) fun zx3 =>
    some (Sum.inl (zx3, S))) else (
    if oIn zv3 200 then (
    (f_X9_countKind (S.1 1026 0 (Int32.toNatClampNeg zv3)) S).bind fun zz4 =>
    oLet (zv3 + (1 : Int32)) fun zx5 =>
    some (Sum.inl (zx5, zz4))) else none)) else (
    oLet (zv3 + (1 : Int32)) fun zx2 =>
    some (Sum.inl (zx2, S)))) else none)
set_option maxHeartbeats 4000000 in
theorem s_X9_countRing_L6b {X : oX} {e : Nat} (he : 1 ≤ e) (hR : oRoom X (e + 1)) {zv1 : Int32} {zv2 : Int32} {VH : Int32 × oS → Prop} {VE : oS → Prop} (hVH : ∀ z, VH z → oVv X mX9_countRing 6 [(0, orf 1000 0), (1, oi zv1), (2, oi zv2), (3, oi z.1)] [] z.2) (hVE : ∀ z, VE z → oVv X mX9_countRing 45 [] [] z) {zv3 : Int32} {S : oS} (h : oH (f_X9_countRing_L6 zv1 zv2 (zv3, S)) (fun z => Sum.elim VH VE z)) : oVv X mX9_countRing 6 [(0, orf 1000 0), (1, oi zv1), (2, oi zv2), (3, oi zv3)] [] S := by
  dsimp only [f_X9_countRing_L6] at h
  refine o_iload_n (pc := 6) dX9_countRing_6 rfl 3 rfl ?_
  refine o_aload_n (pc := 7) dX9_countRing_7 rfl 0 rfl ?_
  refine o_getI (pc := 8) fd_RX9_193 ft_1000_24 j_1000 dX9_countRing_8 ?_
  refine o_icmp_ge 45 (pc := 11) dX9_countRing_11 (by decide) (fun hc => ?_) (fun hc => ?_)
  · have h := oH_T hc h
    refine o_weak [] rfl ?_
    exact hVE _ (oH_some (P := fun z => Sum.elim VH VE z) h)
  · have h := oH_F hc h
    refine o_aload_n (pc := 14) dX9_countRing_14 rfl 0 rfl ?_
    refine o_getA (pc := 15) fd_RX9_64 ft_1000_26 j_1000 dX9_countRing_15 ?_
    refine o_iload_n (pc := 18) dX9_countRing_18 rfl 3 rfl ?_
    obtain ⟨hg, h⟩ := oH_G h
    refine o_iald (pc := 19) kd_1027 j_1027 hg dX9_countRing_19 ?_
    refine o_iload_n (pc := 20) dX9_countRing_20 rfl 1 rfl ?_
    refine o_icmp_ne 39 (pc := 21) dX9_countRing_21 (by decide) (fun hc => ?_) (fun hc => ?_)
    · have h := oH_F hc h
      obtain ⟨zx2, hx⟩ : ∃ y : Int32, y = zv3 + (1 : Int32) := ⟨_, rfl⟩
      have h := oH_let h zx2 hx
      refine o_iinc (lv1 := [(0, orf 1000 0), (1, oi zv1), (2, oi zv2), (3, oi zx2)]) (pc := 39) dX9_countRing_39 3 rfl hx.symm (by decide) rfl ?_
      clear hx
      refine o_goto 6 (pc := 42) dX9_countRing_42 (by decide) ?_
      exact hVH _ (oH_some (P := fun z => Sum.elim VH VE z) h)
    · have h := oH_T hc h
      refine o_iload_n (pc := 24) dX9_countRing_24 rfl 3 rfl ?_
      refine o_iload_n (pc := 25) dX9_countRing_25 rfl 2 rfl ?_
      refine o_icmp_eq 39 (pc := 26) dX9_countRing_26 (by decide) (fun hc => ?_) (fun hc => ?_)
      · have h := oH_T hc h
        obtain ⟨zx3, hx⟩ : ∃ y : Int32, y = zv3 + (1 : Int32) := ⟨_, rfl⟩
        have h := oH_let h zx3 hx
        refine o_iinc (lv1 := [(0, orf 1000 0), (1, oi zv1), (2, oi zv2), (3, oi zx3)]) (pc := 39) dX9_countRing_39 3 rfl hx.symm (by decide) rfl ?_
        clear hx
        refine o_goto 6 (pc := 42) dX9_countRing_42 (by decide) ?_
        exact hVH _ (oH_some (P := fun z => Sum.elim VH VE z) h)
      · have h := oH_F hc h
        refine o_aload_n (pc := 29) dX9_countRing_29 rfl 0 rfl ?_
        refine o_aload_n (pc := 30) dX9_countRing_30 rfl 0 rfl ?_
        refine o_getA (pc := 31) fd_RX9_61 ft_1000_25 j_1000 dX9_countRing_31 ?_
        refine o_iload_n (pc := 34) dX9_countRing_34 rfl 3 rfl ?_
        obtain ⟨hg, h⟩ := oH_G h
        refine o_iald (pc := 35) kd_1026 j_1026 hg dX9_countRing_35 ?_
        have h := oH_bind h
        refine o_callVv (pc := 36) (st := []) [oi (S.1 1026 0 (Int32.toNatClampNeg zv3))] hR md_X9_countKind wd_1182 wd_1184 ws_36 tc_1000 j_1000 rfl (Nat.le_of_ble_eq_true rfl) rfl dX9_countRing_36 (s_X9_countKind e (by omega)  h) (fun zz4 h => ?_)
        obtain ⟨zx5, hx⟩ : ∃ y : Int32, y = zv3 + (1 : Int32) := ⟨_, rfl⟩
        have h := oH_let h zx5 hx
        refine o_iinc (lv1 := [(0, orf 1000 0), (1, oi zv1), (2, oi zv2), (3, oi zx5)]) (pc := 39) dX9_countRing_39 3 rfl hx.symm (by decide) rfl ?_
        clear hx
        refine o_goto 6 (pc := 42) dX9_countRing_42 (by decide) ?_
        exact hVH _ (oH_some (P := fun z => Sum.elim VH VE z) h)
theorem s_X9_countRing_L6 {X : oX} {e : Nat} (he : 1 ≤ e) (hR : oRoom X (e + 1)) {zv1 : Int32} {zv2 : Int32}  {VE : oS → Prop} (hVE : ∀ z, VE z → oVv X mX9_countRing 45 [] [] z) (n : Nat) (w : Int32 × oS) (h : oH (oLp (f_X9_countRing_L6 zv1 zv2) n w) VE) : oVv X mX9_countRing 6 [(0, orf 1000 0), (1, oi zv1), (2, oi zv2), (3, oi w.1)] [] w.2 :=
  oLp_s (VH := fun w => oVv X mX9_countRing 6 [(0, orf 1000 0), (1, oi zv1), (2, oi zv2), (3, oi w.1)] [] w.2) (fun w h => s_X9_countRing_L6b he hR  (fun _ h => h) hVE h) n w h
def f_X9_countRing  (za1 : Int32) (za2 : Int32) (S : oS) : Option (oS) :=
  (f_X9_countNone S).bind fun zz1 =>
  (oLp (f_X9_countRing_L6 za1 za2) oFu ((0 : Int32), zz1)).bind fun zz6 =>
  some zz6
set_option maxHeartbeats 4000000 in
theorem s_X9_countRing {G : oG} {r : oR} (d : Nat) (hd : 2 ≤ d) {za1 : Int32} {za2 : Int32}  {S : oS} {P : oS → Prop} (h : oH (f_X9_countRing za1 za2 S) P) : oCt G r d yX9_countRing mX9_countRing [orf 1000 0, oi za1, oi za2] S (oQv P) := by
  unfold f_X9_countRing at h
  refine oCt_of (by decide) rfl (Nat.le_of_ble_eq_true rfl) ?_
  intro X hG hr hE0 hR
  subst hG; subst hr
  obtain ⟨e, rfl⟩ : ∃ e, d = e + 1 := ⟨d - 1, by omega⟩
  have he : 1 ≤ e := by omega
  have hE := oEV_of hE0 rfl
  clear hE0 hd
  show oVv X mX9_countRing 0 [(0, orf 1000 0), (1, oi za1), (2, oi za2)] [] S
  refine o_aload_n (pc := 0) dX9_countRing_0 rfl 0 rfl ?_
  have h := oH_bind h
  refine o_callVv (pc := 1) (st := []) [] hR md_X9_countNone wd_1178 wd_1180 ws_35 tc_1000 j_1000 rfl (Nat.le_of_ble_eq_true rfl) rfl dX9_countRing_1 (s_X9_countNone e (by omega)  h) (fun zz1 h => ?_)
  refine o_iconst (v := 0) (pc := 4) dX9_countRing_4 (by decide) ?_
  refine o_istore_n (lv1 := [(0, orf 1000 0), (1, oi za1), (2, oi za2), (3, oi (0 : Int32))]) (pc := 5) dX9_countRing_5 rfl (by decide) rfl ?_
  have h := oH_bind h
  refine s_X9_countRing_L6 he hR  (fun zz6 h => ?_) _ ((0 : Int32), zz1) h
  exact hE _ _ _ dX9_countRing_45 (oH_some h)
def f_X9_used_K28 (zs0 : Int32) (zs1 : Int32) (S : oS) : Option (Int32 × oS) :=
  some ((zs0 + zs1), S)
set_option maxHeartbeats 4000000 in
theorem s_X9_used_K28 {X : oX} {e : Nat} (he : 0 ≤ e) (hR : oRoom X (e + 1)) {zs0 : Int32} {zs1 : Int32} {P : Int32 × oS → Prop} (hE : oEI X mX9_used P) {S : oS} (h : oH (f_X9_used_K28 zs0 zs1 S) P) : oVv X mX9_used 28 [] [oi zs1, oi zs0] S := by
  unfold f_X9_used_K28 at h
  refine o_iadd (pc := 28) dX9_used_28 ?_
  exact hE _ _ _ _ dX9_used_29 (oH_some h)
def f_X9_used   (S : oS) : Option (Int32 × oS) :=
  if (S.1 1000 0 53) ≤ (S.1 1000 0 54) then (
  f_X9_used_K28 (S.1 1000 0 55) (0 : Int32) S) else (
  f_X9_used_K28 (S.1 1000 0 55) ((S.1 1000 0 53) - (S.1 1000 0 54)) S)
set_option maxHeartbeats 4000000 in
theorem s_X9_used {G : oG} {r : oR} (d : Nat) (hd : 1 ≤ d)   {S : oS} {P : Int32 × oS → Prop} (h : oH (f_X9_used  S) P) : oCt G r d yX9_used mX9_used [orf 1000 0] S (oQi P) := by
  unfold f_X9_used at h
  refine oCt_of (by decide) rfl (Nat.le_of_ble_eq_true rfl) ?_
  intro X hG hr hE0 hR
  subst hG; subst hr
  obtain ⟨e, rfl⟩ : ∃ e, d = e + 1 := ⟨d - 1, by omega⟩
  have he : 0 ≤ e := by omega
  have hE := oEI_of hE0 rfl
  clear hE0 hd
  show oVv X mX9_used 0 [(0, orf 1000 0)] [] S
  refine o_aload_n (pc := 0) dX9_used_0 rfl 0 rfl ?_
  refine o_getI (pc := 1) fd_RX9_260 ft_1000_55 j_1000 dX9_used_1 ?_
  refine o_aload_n (pc := 4) dX9_used_4 rfl 0 rfl ?_
  refine o_getI (pc := 5) fd_RX9_254 ft_1000_53 j_1000 dX9_used_5 ?_
  refine o_aload_n (pc := 8) dX9_used_8 rfl 0 rfl ?_
  refine o_getI (pc := 9) fd_RX9_257 ft_1000_54 j_1000 dX9_used_9 ?_
  refine o_icmp_le 27 (pc := 12) dX9_used_12 (by decide) (fun hc => ?_) (fun hc => ?_)
  · have h := oH_T hc h
    refine o_iconst (v := 0) (pc := 27) dX9_used_27 (by decide) ?_
    refine o_weak [] rfl ?_
    exact s_X9_used_K28 he hR  hE h
  · have h := oH_F hc h
    refine o_aload_n (pc := 15) dX9_used_15 rfl 0 rfl ?_
    refine o_getI (pc := 16) fd_RX9_254 ft_1000_53 j_1000 dX9_used_16 ?_
    refine o_aload_n (pc := 19) dX9_used_19 rfl 0 rfl ?_
    refine o_getI (pc := 20) fd_RX9_257 ft_1000_54 j_1000 dX9_used_20 ?_
    refine o_isub (pc := 23) dX9_used_23 ?_
    refine o_goto 28 (pc := 24) dX9_used_24 (by decide) ?_
    refine o_weak [] rfl ?_
    exact s_X9_used_K28 he hR  hE h
