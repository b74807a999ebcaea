def f_X9_households  (za1 : Int32) (S : oS) : Option (Int32 × oS) :=
  (f_X9_in za1 (2 : Int32) (8 : Int32) S).bind fun zz1 =>
  if zz1.1 = 0 then (
  some ((-2 : Int32), zz1.2)) else (
  oLet (zz1.2.1 1000 0 36) fun zx2 =>
  oLet (oStI zz1.2 1000 0 36 za1) fun zS3 =>
  oLet (oStI zS3 1000 0 40 (0 : Int32)) fun zS4 =>
  some (zx2, zS4))
set_option maxHeartbeats 4000000 in
theorem s_X9_households {G : oG} {r : oR} (d : Nat) (hd : 2 ≤ d) {za1 : Int32}  {S : oS} {P : Int32 × oS → Prop} (h : oH (f_X9_households za1 S) P) : oCt G r d yX9_households mX9_households [orf 1000 0, oi za1] S (oQi P) := by
  unfold f_X9_households at h
  refine oCt_of (by decide) rfl (Nat.le_of_ble_eq_true rfl) ?_
  intro X hG hr hE0 hR
  subst hG; subst hr
  obtain ⟨e, rfl⟩ : ∃ e, d = e + 1 := ⟨d - 1, by omega⟩
  have he : 1 ≤ e := by omega
  have hE := oEI_of hE0 rfl
  clear hE0 hd
  show oVv X mX9_households 0 [(0, orf 1000 0), (1, oi za1)] [] S
  refine o_iload_n (pc := 0) dX9_households_0 rfl 1 rfl ?_
  refine o_iconst (v := 2) (pc := 1) dX9_households_1 (by decide) ?_
  refine o_bipush (v := 8) (pc := 2) dX9_households_2 (by decide) ?_
  have h := oH_bind h
  refine o_callSi (pc := 4) (st := []) [oi za1, oi (2 : Int32), oi (8 : Int32)] hR md_X9_in wd_1061 wd_1062 rfl (Nat.le_of_ble_eq_true rfl) rfl dX9_households_4 (s_X9_in e (by omega)  h) (fun zz1 h => ?_)
  refine o_if_ne 13 (pc := 7) dX9_households_7 (by decide) (fun hc => ?_) (fun hc => ?_)
  · have h := oH_F hc h
    refine o_aload_n (pc := 13) dX9_households_13 rfl 0 rfl ?_
    refine o_getI (pc := 14) fd_RX9_85 ft_1000_36 j_1000 dX9_households_14 ?_
    refine o_nmI (fun zx2 hx => ?_)
    have h := oH_let h zx2 hx
    clear hx
    refine o_istore_n (lv1 := [(0, orf 1000 0), (1, oi za1), (2, oi zx2)]) (pc := 17) dX9_households_17 rfl (by decide) rfl ?_
    refine o_aload_n (pc := 18) dX9_households_18 rfl 0 rfl ?_
    refine o_iload_n (pc := 19) dX9_households_19 rfl 1 rfl ?_
    refine o_putI (pc := 20) fd_RX9_85 fp_1000_36 ft_1000_36 rfl rfl j_1000 dX9_households_20 ?_
    refine o_nmS (fun zS3 hx => ?_)
    have h := oH_let h zS3 hx
    clear hx
    refine o_aload_n (pc := 23) dX9_households_23 rfl 0 rfl ?_
    refine o_iconst (v := 0) (pc := 24) dX9_households_24 (by decide) ?_
    refine o_putI (pc := 25) fd_RX9_337 fp_1000_40 ft_1000_40 rfl rfl j_1000 dX9_households_25 ?_
    refine o_nmS (fun zS4 hx => ?_)
    have h := oH_let h zS4 hx
    clear hx
    refine o_iload_n (pc := 28) dX9_households_28 rfl 2 rfl ?_
    exact hE _ _ _ _ dX9_households_29 (oH_some h)
  · have h := oH_T hc h
    refine o_bipush (v := -2) (pc := 10) dX9_households_10 (by decide) ?_
    exact hE _ _ _ _ dX9_households_12 (oH_some h)
def f_X9_isHouse  (za1 : Int32) (S : oS) : Option (Int32 × oS) :=
  (f_X9_in za1 (0 : Int32) ((S.1 1000 0 36) - (1 : Int32)) S).bind fun zz1 =>
  if oBl zz1.1 then (
  some (zz1.1, zz1.2)) else none
set_option maxHeartbeats 4000000 in
theorem s_X9_isHouse {G : oG} {r : oR} (d : Nat) (hd : 2 ≤ d) {za1 : Int32}  {S : oS} {P : Int32 × oS → Prop} (h : oH (f_X9_isHouse za1 S) P) : oCt G r d yX9_isHouse mX9_isHouse [orf 1000 0, oi za1] S (oQi P) := by
  unfold f_X9_isHouse at h
  refine oCt_of (by decide) rfl (Nat.le_of_ble_eq_true rfl) ?_
  intro X hG hr hE0 hR
  subst hG; subst hr
  obtain ⟨e, rfl⟩ : ∃ e, d = e + 1 := ⟨d - 1, by omega⟩
  have he : 1 ≤ e := by omega
  have hE := oEZ_of hE0 rfl
  clear hE0 hd
  show oVv X mX9_isHouse 0 [(0, orf 1000 0), (1, oi za1)] [] S
  refine o_iload_n (pc := 0) dX9_isHouse_0 rfl 1 rfl ?_
  refine o_iconst (v := 0) (pc := 1) dX9_isHouse_1 (by decide) ?_
  refine o_aload_n (pc := 2) dX9_isHouse_2 rfl 0 rfl ?_
  refine o_getI (pc := 3) fd_RX9_85 ft_1000_36 j_1000 dX9_isHouse_3 ?_
  refine o_iconst (v := 1) (pc := 6) dX9_isHouse_6 (by decide) ?_
  refine o_isub (pc := 7) dX9_isHouse_7 ?_
  have h := oH_bind h
  refine o_callSi (pc := 8) (st := []) [oi za1, oi (0 : Int32), oi ((S.1 1000 0 36) - (1 : Int32))] hR md_X9_in wd_1061 wd_1062 rfl (Nat.le_of_ble_eq_true rfl) rfl dX9_isHouse_8 (s_X9_in e (by omega)  h) (fun zz1 h => ?_)
  obtain ⟨hg, h⟩ := oH_G h
  exact hE _ _ _ _ dX9_isHouse_11 hg (oH_some h)
def f_X9_isKind  (za1 : Int32) (S : oS) : Option (Int32 × oS) :=
  (f_X9_in za1 (0 : Int32) ((S.1 1000 0 13) - (1 : Int32)) S).bind fun zz1 =>
  if oBl zz1.1 then (
  some (zz1.1, zz1.2)) else none
set_option maxHeartbeats 4000000 in
theorem s_X9_isKind {G : oG} {r : oR} (d : Nat) (hd : 2 ≤ d) {za1 : Int32}  {S : oS} {P : Int32 × oS → Prop} (h : oH (f_X9_isKind za1 S) P) : oCt G r d yX9_isKind mX9_isKind [orf 1000 0, oi za1] S (oQi P) := by
  unfold f_X9_isKind at h
  refine oCt_of (by decide) rfl (Nat.le_of_ble_eq_true rfl) ?_
  intro X hG hr hE0 hR
  subst hG; subst hr
  obtain ⟨e, rfl⟩ : ∃ e, d = e + 1 := ⟨d - 1, by omega⟩
  have he : 1 ≤ e := by omega
  have hE := oEZ_of hE0 rfl
  clear hE0 hd
  show oVv X mX9_isKind 0 [(0, orf 1000 0), (1, oi za1)] [] S
  refine o_iload_n (pc := 0) dX9_isKind_0 rfl 1 rfl ?_
  refine o_iconst (v := 0) (pc := 1) dX9_isKind_1 (by decide) ?_
  refine o_aload_n (pc := 2) dX9_isKind_2 rfl 0 rfl ?_
  refine o_getI (pc := 3) fd_RX9_245 ft_1000_13 j_1000 dX9_isKind_3 ?_
  refine o_iconst (v := 1) (pc := 6) dX9_isKind_6 (by decide) ?_
  refine o_isub (pc := 7) dX9_isKind_7 ?_
  have h := oH_bind h
  refine o_callSi (pc := 8) (st := []) [oi za1, oi (0 : Int32), oi ((S.1 1000 0 13) - (1 : Int32))] hR md_X9_in wd_1061 wd_1062 rfl (Nat.le_of_ble_eq_true rfl) rfl dX9_isKind_8 (s_X9_in e (by omega)  h) (fun zz1 h => ?_)
  obtain ⟨hg, h⟩ := oH_G h
  exact hE _ _ _ _ dX9_isKind_11 hg (oH_some h)
def f_X9_isLoaf  (za1 : Int32) (S : oS) : Option (Int32 × oS) :=
  (f_X9_in za1 (0 : Int32) ((S.1 1000 0 24) - (1 : Int32)) S).bind fun zz1 =>
  if oBl zz1.1 then (
  some (zz1.1, zz1.2)) else none
set_option maxHeartbeats 4000000 in
theorem s_X9_isLoaf {G : oG} {r : oR} (d : Nat) (hd : 2 ≤ d) {za1 : Int32}  {S : oS} {P : Int32 × oS → Prop} (h : oH (f_X9_isLoaf za1 S) P) : oCt G r d yX9_isLoaf mX9_isLoaf [orf 1000 0, oi za1] S (oQi P) := by
  unfold f_X9_isLoaf at h
  refine oCt_of (by decide) rfl (Nat.le_of_ble_eq_true rfl) ?_
  intro X hG hr hE0 hR
  subst hG; subst hr
  obtain ⟨e, rfl⟩ : ∃ e, d = e + 1 := ⟨d - 1, by omega⟩
  have he : 1 ≤ e := by omega
  have hE := oEZ_of hE0 rfl
  clear hE0 hd
  show oVv X mX9_isLoaf 0 [(0, orf 1000 0), (1, oi za1)] [] S
  refine o_iload_n (pc := 0) dX9_isLoaf_0 rfl 1 rfl ?_
  refine o_iconst (v := 0) (pc := 1) dX9_isLoaf_1 (by decide) ?_
  refine o_aload_n (pc := 2) dX9_isLoaf_2 rfl 0 rfl ?_
  refine o_getI (pc := 3) fd_RX9_193 ft_1000_24 j_1000 dX9_isLoaf_3 ?_
  refine o_iconst (v := 1) (pc := 6) dX9_isLoaf_6 (by decide) ?_
  refine o_isub (pc := 7) dX9_isLoaf_7 ?_
  have h := oH_bind h
  refine o_callSi (pc := 8) (st := []) [oi za1, oi (0 : Int32), oi ((S.1 1000 0 24) - (1 : Int32))] hR md_X9_in wd_1061 wd_1062 rfl (Nat.le_of_ble_eq_true rfl) rfl dX9_isLoaf_8 (s_X9_in e (by omega)  h) (fun zz1 h => ?_)
  obtain ⟨hg, h⟩ := oH_G h
  exact hE _ _ _ _ dX9_isLoaf_11 hg (oH_some h)
def f_X9_isLog  (za0 : Int32) (za1 : Int32) (S : oS) : Option (Int32 × oS) :=
  (f_X9_in za0 (1 : Int32) (50 : Int32) S).bind fun zz1 =>
  if zz1.1 = 0 then (
  some ((0 : Int32), zz1.2)) else (
  (f_X9_in za1 (0 : Int32) (60 : Int32) zz1.2).bind fun zz2 =>
  if zz2.1 = 0 then (
  some ((0 : Int32), zz2.2)) else (
  some ((1 : Int32), zz2.2)))
set_option maxHeartbeats 4000000 in
theorem s_X9_isLog {G : oG} {r : oR} (d : Nat) (hd : 2 ≤ d) {za0 : Int32} {za1 : Int32}  {S : oS} {P : Int32 × oS → Prop} (h : oH (f_X9_isLog za0 za1 S) P) : oCt G r d yX9_isLog mX9_isLog [oi za0, oi za1] S (oQi P) := by
  unfold f_X9_isLog at h
  refine oCt_of (by decide) rfl (Nat.le_of_ble_eq_true rfl) ?_
  intro X hG hr hE0 hR
  subst hG; subst hr
  obtain ⟨e, rfl⟩ : ∃ e, d = e + 1 := ⟨d - 1, by omega⟩
  have he : 1 ≤ e := by omega
  have hE := oEZ_of hE0 rfl
  clear hE0 hd
  show oVv X mX9_isLog 0 [(0, oi za0), (1, oi za1)] [] S
  refine o_iload_n (pc := 0) dX9_isLog_0 rfl 0 rfl ?_
  refine o_iconst (v := 1) (pc := 1) dX9_isLog_1 (by decide) ?_
  refine o_bipush (v := 50) (pc := 2) dX9_isLog_2 (by decide) ?_
  have h := oH_bind h
  refine o_callSi (pc := 4) (st := []) [oi za0, oi (1 : Int32), oi (50 : Int32)] hR md_X9_in wd_1061 wd_1062 rfl (Nat.le_of_ble_eq_true rfl) rfl dX9_isLog_4 (s_X9_in e (by omega)  h) (fun zz1 h => ?_)
  refine o_if_eq 24 (pc := 7) dX9_isLog_7 (by decide) (fun hc => ?_) (fun hc => ?_)
  · have h := oH_T hc h
    refine o_iconst (v := 0) (pc := 24) dX9_isLog_24 (by decide) ?_
    exact hE _ _ _ _ dX9_isLog_25 (by decide) (oH_some h)
  · have h := oH_F hc h
    refine o_iload_n (pc := 10) dX9_isLog_10 rfl 1 rfl ?_
    refine o_iconst (v := 0) (pc := 11) dX9_isLog_11 (by decide) ?_
    refine o_bipush (v := 60) (pc := 12) dX9_isLog_12 (by decide) ?_
    have h := oH_bind h
    refine o_callSi (pc := 14) (st := []) [oi za1, oi (0 : Int32), oi (60 : Int32)] hR md_X9_in wd_1061 wd_1062 rfl (Nat.le_of_ble_eq_true rfl) rfl dX9_isLog_14 (s_X9_in e (by omega)  h) (fun zz2 h => ?_)
    refine o_if_eq 24 (pc := 17) dX9_isLog_17 (by decide) (fun hc => ?_) (fun hc => ?_)
    · have h := oH_T hc h
      refine o_iconst (v := 0) (pc := 24) dX9_isLog_24 (by decide) ?_
      exact hE _ _ _ _ dX9_isLog_25 (by decide) (oH_some h)
    · have h := oH_F hc h
      refine o_iconst (v := 1) (pc := 20) dX9_isLog_20 (by decide) ?_
      refine o_goto 25 (pc := 21) dX9_isLog_21 (by decide) ?_
      exact hE _ _ _ _ dX9_isLog_25 (by decide) (oH_some h)
def f_X9_isSpan  (za0 : Int32) (za1 : Int32) (S : oS) : Option (Int32 × oS) :=
  (f_X9_in za0 (0 : Int32) (2000 : Int32) S).bind fun zz1 =>
  if zz1.1 = 0 then (
  some ((0 : Int32), zz1.2)) else (
  (f_X9_in za1 za0 (2000 : Int32) zz1.2).bind fun zz2 =>
  if zz2.1 = 0 then (
  some ((0 : Int32), zz2.2)) else (
  some ((1 : Int32), zz2.2)))
set_option maxHeartbeats 4000000 in
theorem s_X9_isSpan {G : oG} {r : oR} (d : Nat) (hd : 2 ≤ d) {za0 : Int32} {za1 : Int32}  {S : oS} {P : Int32 × oS → Prop} (h : oH (f_X9_isSpan za0 za1 S) P) : oCt G r d yX9_isSpan mX9_isSpan [oi za0, oi za1] S (oQi P) := by
  unfold f_X9_isSpan at h
  refine oCt_of (by decide) rfl (Nat.le_of_ble_eq_true rfl) ?_
  intro X hG hr hE0 hR
  subst hG; subst hr
  obtain ⟨e, rfl⟩ : ∃ e, d = e + 1 := ⟨d - 1, by omega⟩
  have he : 1 ≤ e := by omega
  have hE := oEZ_of hE0 rfl
  clear hE0 hd
  show oVv X mX9_isSpan 0 [(0, oi za0), (1, oi za1)] [] S
  refine o_iload_n (pc := 0) dX9_isSpan_0 rfl 0 rfl ?_
  refine o_iconst (v := 0) (pc := 1) dX9_isSpan_1 (by decide) ?_
  refine o_sipush (v := 2000) (pc := 2) dX9_isSpan_2 (by decide) ?_
  have h := oH_bind h
  refine o_callSi (pc := 5) (st := []) [oi za0, oi (0 : Int32), oi (2000 : Int32)] hR md_X9_in wd_1061 wd_1062 rfl (Nat.le_of_ble_eq_true rfl) rfl dX9_isSpan_5 (s_X9_in e (by omega)  h) (fun zz1 h => ?_)
  refine o_if_eq 26 (pc := 8) dX9_isSpan_8 (by decide) (fun hc => ?_) (fun hc => ?_)
  · have h := oH_T hc h
    refine o_iconst (v := 0) (pc := 26) dX9_isSpan_26 (by decide) ?_
    exact hE _ _ _ _ dX9_isSpan_27 (by decide) (oH_some h)
  · have h := oH_F hc h
    refine o_iload_n (pc := 11) dX9_isSpan_11 rfl 1 rfl ?_
    refine o_iload_n (pc := 12) dX9_isSpan_12 rfl 0 rfl ?_
    refine o_sipush (v := 2000) (pc := 13) dX9_isSpan_13 (by decide) ?_
    have h := oH_bind h
    refine o_callSi (pc := 16) (st := []) [oi za1, oi za0, oi (2000 : Int32)] hR md_X9_in wd_1061 wd_1062 rfl (Nat.le_of_ble_eq_true rfl) rfl dX9_isSpan_16 (s_X9_in e (by omega)  h) (fun zz2 h => ?_)
    refine o_if_eq 26 (pc := 19) dX9_isSpan_19 (by decide) (fun hc => ?_) (fun hc => ?_)
    · have h := oH_T hc h
      refine o_iconst (v := 0) (pc := 26) dX9_isSpan_26 (by decide) ?_
      exact hE _ _ _ _ dX9_isSpan_27 (by decide) (oH_some h)
    · have h := oH_F hc h
      refine o_iconst (v := 1) (pc := 22) dX9_isSpan_22 (by decide) ?_
      refine o_goto 27 (pc := 23) dX9_isSpan_23 (by decide) ?_
      exact hE _ _ _ _ dX9_isSpan_27 (by decide) (oH_some h)
def f_X9_kind_K18 (zv1 : Int32) (zv2 : Int32) (zv3 : Int32) (zv4 : Int32) (zv5 : Int32) (zv6 : Int32) (zv7 : Int32) (S : oS) : Option (Int32 × oS) :=
  (f_X9_in zv3 (1 : Int32) (30 : Int32) S).bind fun zz2 =>
  if zz2.1 = 0 then (
  some ((-2 : Int32), zz2.2)) else (
  (f_X9_in zv4 zv3 (60 : Int32) zz2.2).bind fun zz3 =>
  if zz3.1 = 0 then (
  some ((-2 : Int32), zz3.2)) else (
  (f_X9_isSpan zv5 zv6 zz3.2).bind fun zz4 =>
  if zz4.1 = 0 then (
  some ((-2 : Int32), zz4.2)) else (
  (f_X9_in zv7 (0 : Int32) (9 : Int32) zz4.2).bind fun zz5 =>
  if zz5.1 = 0 then (
  some ((-2 : Int32), zz5.2)) else (
  if (zz5.2.1 1000 0 13) = (8 : Int32) then (
  some ((-4 : Int32), zz5.2)) else (
  if oIn (zz5.2.1 1000 0 13) 8 then (
  oLet (oStI zz5.2 1015 0 (Int32.toNatClampNeg (zz5.2.1 1000 0 13)) zv1) fun zS6 =>
  if oIn (zS6.1 1000 0 13) 8 then (
  if oBl zv2 then (
  oLet (oStI zS6 1016 0 (Int32.toNatClampNeg (zS6.1 1000 0 13)) zv2) fun zS7 =>
  if oIn (zS7.1 1000 0 13) 8 then (
  oLet (oStI zS7 1017 0 (Int32.toNatClampNeg (zS7.1 1000 0 13)) zv3) fun zS8 =>
  if oIn (zS8.1 1000 0 13) 8 then (
  oLet (oStI zS8 1018 0 (Int32.toNatClampNeg (zS8.1 1000 0 13)) zv4) fun zS9 =>
  if oIn (zS9.1 1000 0 13) 8 then (
  oLet (oStI zS9 1019 0 (Int32.toNatClampNeg (zS9.1 1000 0 13)) zv5) fun zS10 =>
  if oIn (zS10.1 1000 0 13) 8 then (
  oLet (oStI zS10 1020 0 (Int32.toNatClampNeg (zS10.1 1000 0 13)) zv6) fun zS11 =>
  if oIn (zS11.1 1000 0 13) 8 then (
  oLet (oStI zS11 1021 0 (Int32.toNatClampNeg (zS11.1 1000 0 13)) zv7) fun zS12 =>
  oLet (oStI zS12 1000 0 13 ((zS12.1 1000 0 13) + (1 : Int32))) fun zS13 =>
  some (((zS13.1 1000 0 13) - (1 : Int32)), zS13)) else none) else none) else none) else none) else none) else none) else none) else none)))))
set_option maxHeartbeats 4000000 in
theorem s_X9_kind_K18 {X : oX} {e : Nat} (he : 2 ≤ e) (hR : oRoom X (e + 1)) {zv1 : Int32} {zv2 : Int32} {zv3 : Int32} {zv4 : Int32} {zv5 : Int32} {zv6 : Int32} {zv7 : Int32} {P : Int32 × oS → Prop} (hE : oEI X mX9_kind P) {S : oS} (h : oH (f_X9_kind_K18 zv1 zv2 zv3 zv4 zv5 zv6 zv7 S) P) : oVv X mX9_kind 18 [(0, orf 1000 0), (1, oi zv1), (2, oi zv2), (3, oi zv3), (4, oi zv4), (5, oi zv5), (6, oi zv6), (7, oi zv7)] [] S := by
  unfold f_X9_kind_K18 at h
  refine o_iload_n (pc := 18) dX9_kind_18 rfl 3 rfl ?_
  refine o_iconst (v := 1) (pc := 19) dX9_kind_19 (by decide) ?_
  refine o_bipush (v := 30) (pc := 20) dX9_kind_20 (by decide) ?_
  have h := oH_bind h
  refine o_callSi (pc := 22) (st := []) [oi zv3, oi (1 : Int32), oi (30 : Int32)] hR md_X9_in wd_1061 wd_1062 rfl (Nat.le_of_ble_eq_true rfl) rfl dX9_kind_22 (s_X9_in e (by omega)  h) (fun zz2 h => ?_)
  refine o_if_eq 60 (pc := 25) dX9_kind_25 (by decide) (fun hc => ?_) (fun hc => ?_)
  · have h := oH_T hc h
    refine o_bipush (v := -2) (pc := 60) dX9_kind_60 (by decide) ?_
    exact hE _ _ _ _ dX9_kind_62 (oH_some h)
  · have h := oH_F hc h
    refine o_iload (pc := 28) dX9_kind_28 4 rfl ?_
    refine o_iload_n (pc := 30) dX9_kind_30 rfl 3 rfl ?_
    refine o_bipush (v := 60) (pc := 31) dX9_kind_31 (by decide) ?_
    have h := oH_bind h
    refine o_callSi (pc := 33) (st := []) [oi zv4, oi zv3, oi (60 : Int32)] hR md_X9_in wd_1061 wd_1062 rfl (Nat.le_of_ble_eq_true rfl) rfl dX9_kind_33 (s_X9_in e (by omega)  h) (fun zz3 h => ?_)
    refine o_if_eq 60 (pc := 36) dX9_kind_36 (by decide) (fun hc => ?_) (fun hc => ?_)
    · have h := oH_T hc h
      refine o_bipush (v := -2) (pc := 60) dX9_kind_60 (by decide) ?_
      exact hE _ _ _ _ dX9_kind_62 (oH_some h)
    · have h := oH_F hc h
      refine o_iload (pc := 39) dX9_kind_39 5 rfl ?_
      refine o_iload (pc := 41) dX9_kind_41 6 rfl ?_
      have h := oH_bind h
      refine o_callSi (pc := 43) (st := []) [oi zv5, oi zv6] hR md_X9_isSpan wd_1155 wd_1156 rfl (Nat.le_of_ble_eq_true rfl) rfl dX9_kind_43 (s_X9_isSpan e (by omega)  h) (fun zz4 h => ?_)
      refine o_if_eq 60 (pc := 46) dX9_kind_46 (by decide) (fun hc => ?_) (fun hc => ?_)
      · have h := oH_T hc h
        refine o_bipush (v := -2) (pc := 60) dX9_kind_60 (by decide) ?_
        exact hE _ _ _ _ dX9_kind_62 (oH_some h)
      · have h := oH_F hc h
        refine o_iload (pc := 49) dX9_kind_49 7 rfl ?_
        refine o_iconst (v := 0) (pc := 51) dX9_kind_51 (by decide) ?_
        refine o_bipush (v := 9) (pc := 52) dX9_kind_52 (by decide) ?_
        have h := oH_bind h
        refine o_callSi (pc := 54) (st := []) [oi zv7, oi (0 : Int32), oi (9 : Int32)] hR md_X9_in wd_1061 wd_1062 rfl (Nat.le_of_ble_eq_true rfl) rfl dX9_kind_54 (s_X9_in e (by omega)  h) (fun zz5 h => ?_)
        refine o_if_ne 63 (pc := 57) dX9_kind_57 (by decide) (fun hc => ?_) (fun hc => ?_)
        · have h := oH_F hc h
          refine o_aload_n (pc := 63) dX9_kind_63 rfl 0 rfl ?_
          refine o_getI (pc := 64) fd_RX9_245 ft_1000_13 j_1000 dX9_kind_64 ?_
          refine o_bipush (v := 8) (pc := 67) dX9_kind_67 (by decide) ?_
          refine o_icmp_ne 75 (pc := 69) dX9_kind_69 (by decide) (fun hc => ?_) (fun hc => ?_)
          · have h := oH_F hc h
            refine o_aload_n (pc := 75) dX9_kind_75 rfl 0 rfl ?_
            refine o_getA (pc := 76) fd_RX9_30 ft_1000_14 j_1000 dX9_kind_76 ?_
            refine o_aload_n (pc := 79) dX9_kind_79 rfl 0 rfl ?_
            refine o_getI (pc := 80) fd_RX9_245 ft_1000_13 j_1000 dX9_kind_80 ?_
            refine o_iload_n (pc := 83) dX9_kind_83 rfl 1 rfl ?_
            obtain ⟨hg, h⟩ := oH_G h
            have hgi := hg
            refine o_iast (pc := 84) kd_1015 j_1015 hgi dX9_kind_84 ?_
            refine o_nmS (fun zS6 hx => ?_)
            have h := oH_let h zS6 hx
            clear hx
            refine o_aload_n (pc := 85) dX9_kind_85 rfl 0 rfl ?_
            refine o_getA (pc := 86) fd_RX9_33 ft_1000_15 j_1000 dX9_kind_86 ?_
            refine o_aload_n (pc := 89) dX9_kind_89 rfl 0 rfl ?_
            refine o_getI (pc := 90) fd_RX9_245 ft_1000_13 j_1000 dX9_kind_90 ?_
            refine o_iload_n (pc := 93) dX9_kind_93 rfl 2 rfl ?_
            obtain ⟨hg, h⟩ := oH_G h
            have hgi := hg
            obtain ⟨hg, h⟩ := oH_G h
            refine o_zast (pc := 94) kd_1016 j_1016 hgi (oBl_p hg) dX9_kind_94 ?_
            refine o_nmS (fun zS7 hx => ?_)
            have h := oH_let h zS7 hx
            clear hx
            refine o_aload_n (pc := 95) dX9_kind_95 rfl 0 rfl ?_
            refine o_getA (pc := 96) fd_RX9_37 ft_1000_16 j_1000 dX9_kind_96 ?_
            refine o_aload_n (pc := 99) dX9_kind_99 rfl 0 rfl ?_
            refine o_getI (pc := 100) fd_RX9_245 ft_1000_13 j_1000 dX9_kind_100 ?_
            refine o_iload_n (pc := 103) dX9_kind_103 rfl 3 rfl ?_
            obtain ⟨hg, h⟩ := oH_G h
            have hgi := hg
            refine o_iast (pc := 104) kd_1017 j_1017 hgi dX9_kind_104 ?_
            refine o_nmS (fun zS8 hx => ?_)
            have h := oH_let h zS8 hx
            clear hx
            refine o_aload_n (pc := 105) dX9_kind_105 rfl 0 rfl ?_
            refine o_getA (pc := 106) fd_RX9_40 ft_1000_17 j_1000 dX9_kind_106 ?_
            refine o_aload_n (pc := 109) dX9_kind_109 rfl 0 rfl ?_
            refine o_getI (pc := 110) fd_RX9_245 ft_1000_13 j_1000 dX9_kind_110 ?_
            refine o_iload (pc := 113) dX9_kind_113 4 rfl ?_
            obtain ⟨hg, h⟩ := oH_G h
            have hgi := hg
            refine o_iast (pc := 115) kd_1018 j_1018 hgi dX9_kind_115 ?_
            refine o_nmS (fun zS9 hx => ?_)
            have h := oH_let h zS9 hx
            clear hx
            refine o_aload_n (pc := 116) dX9_kind_116 rfl 0 rfl ?_
            refine o_getA (pc := 117) fd_RX9_43 ft_1000_18 j_1000 dX9_kind_117 ?_
            refine o_aload_n (pc := 120) dX9_kind_120 rfl 0 rfl ?_
            refine o_getI (pc := 121) fd_RX9_245 ft_1000_13 j_1000 dX9_kind_121 ?_
            refine o_iload (pc := 124) dX9_kind_124 5 rfl ?_
            obtain ⟨hg, h⟩ := oH_G h
            have hgi := hg
            refine o_iast (pc := 126) kd_1019 j_1019 hgi dX9_kind_126 ?_
            refine o_nmS (fun zS10 hx => ?_)
            have h := oH_let h zS10 hx
            clear hx
            refine o_aload_n (pc := 127) dX9_kind_127 rfl 0 rfl ?_
            refine o_getA (pc := 128) fd_RX9_46 ft_1000_19 j_1000 dX9_kind_128 ?_
            refine o_aload_n (pc := 131) dX9_kind_131 rfl 0 rfl ?_
            refine o_getI (pc := 132) fd_RX9_245 ft_1000_13 j_1000 dX9_kind_132 ?_
            refine o_iload (pc := 135) dX9_kind_135 6 rfl ?_
            obtain ⟨hg, h⟩ := oH_G h
            have hgi := hg
            refine o_iast (pc := 137) kd_1020 j_1020 hgi dX9_kind_137 ?_
            refine o_nmS (fun zS11 hx => ?_)
            have h := oH_let h zS11 hx
            clear hx
            refine o_aload_n (pc := 138) dX9_kind_138 rfl 0 rfl ?_
            refine o_getA (pc := 139) fd_RX9_49 ft_1000_20 j_1000 dX9_kind_139 ?_
            refine o_aload_n (pc := 142) dX9_kind_142 rfl 0 rfl ?_
            refine o_getI (pc := 143) fd_RX9_245 ft_1000_13 j_1000 dX9_kind_143 ?_
            refine o_iload (pc := 146) dX9_kind_146 7 rfl ?_
            obtain ⟨hg, h⟩ := oH_G h
            have hgi := hg
            refine o_iast (pc := 148) kd_1021 j_1021 hgi dX9_kind_148 ?_
            refine o_nmS (fun zS12 hx => ?_)
            have h := oH_let h zS12 hx
            clear hx
            refine o_aload_n (pc := 149) dX9_kind_149 rfl 0 rfl ?_
            refine o_dup (pc := 150) dX9_kind_150 rfl ?_
            refine o_getI (pc := 151) fd_RX9_245 ft_1000_13 j_1000 dX9_kind_151 ?_
            refine o_iconst (v := 1) (pc := 154) dX9_kind_154 (by decide) ?_
            refine o_iadd (pc := 155) dX9_kind_155 ?_
            refine o_putI (pc := 156) fd_RX9_245 fp_1000_13 ft_1000_13 rfl rfl j_1000 dX9_kind_156 ?_
            refine o_nmS (fun zS13 hx => ?_)
            have h := oH_let h zS13 hx
            clear hx
            refine o_aload_n (pc := 159) dX9_kind_159 rfl 0 rfl ?_
            refine o_getI (pc := 160) fd_RX9_245 ft_1000_13 j_1000 dX9_kind_160 ?_
            refine o_iconst (v := 1) (pc := 163) dX9_kind_163 (by decide) ?_
            refine o_isub (pc := 164) dX9_kind_164 ?_
            exact hE _ _ _ _ dX9_kind_165 (oH_some h)
          · have h := oH_T hc h
            refine o_bipush (v := -4) (pc := 72) dX9_kind_72 (by decide) ?_
            exact hE _ _ _ _ dX9_kind_74 (oH_some h)
        · have h := oH_T hc h
          refine o_bipush (v := -2) (pc := 60) dX9_kind_60 (by decide) ?_
          exact hE _ _ _ _ dX9_kind_62 (oH_some h)
def f_X9_kind  (za1 : Int32) (za2 : Int32) (za3 : Int32) (za4 : Int32) (za5 : Int32) (za6 : Int32) (za7 : Int32) (S : oS) : Option (Int32 × oS) :=
  (f_X9_in za1 (1 : Int32) (3 : Int32) S).bind fun zz1 =>
  if zz1.1 = 0 then (
  some ((-2 : Int32), zz1.2)) else (
  if za2 = 0 then (
  f_X9_kind_K18 za1 za2 za3 za4 za5 za6 za7 zz1.2) else (
  if za1 = (1 : Int32) then (
  some ((-2 : Int32), zz1.2)) else (
  f_X9_kind_K18 za1 za2 za3 za4 za5 za6 za7 zz1.2)))
set_option maxHeartbeats 4000000 in
theorem s_X9_kind {G : oG} {r : oR} (d : Nat) (hd : 3 ≤ d) {za1 : Int32} {za2 : Int32} {za3 : Int32} {za4 : Int32} {za5 : Int32} {za6 : Int32} {za7 : Int32}  {S : oS} {P : Int32 × oS → Prop} (h : oH (f_X9_kind za1 za2 za3 za4 za5 za6 za7 S) P) : oCt G r d yX9_kind mX9_kind [orf 1000 0, oi za1, oi za2, oi za3, oi za4, oi za5, oi za6, oi za7] S (oQi P) := by
  unfold f_X9_kind at h
  refine oCt_of (by decide) rfl (Nat.le_of_ble_eq_true rfl) ?_
  intro X hG hr hE0 hR
  subst hG; subst hr
  obtain ⟨e, rfl⟩ : ∃ e, d = e + 1 := ⟨d - 1, by omega⟩
  have he : 2 ≤ e := by omega
  have hE := oEI_of hE0 rfl
  clear hE0 hd
  show oVv X mX9_kind 0 [(0, orf 1000 0), (1, oi za1), (2, oi za2), (3, oi za3), (4, oi za4), (5, oi za5), (6, oi za6), (7, oi za7)] [] S
  refine o_iload_n (pc := 0) dX9_kind_0 rfl 1 rfl ?_
  refine o_iconst (v := 1) (pc := 1) dX9_kind_1 (by decide) ?_
  refine o_iconst (v := 3) (pc := 2) dX9_kind_2 (by decide) ?_
  have h := oH_bind h
  refine o_callSi (pc := 3) (st := []) [oi za1, oi (1 : Int32), oi (3 : Int32)] hR md_X9_in wd_1061 wd_1062 rfl (Nat.le_of_ble_eq_true rfl) rfl dX9_kind_3 (s_X9_in e (by omega)  h) (fun zz1 h => ?_)
  refine o_if_eq 60 (pc := 6) dX9_kind_6 (by decide) (fun hc => ?_) (fun hc => ?_)
  · have h := oH_T hc h
    refine o_bipush (v := -2) (pc := 60) dX9_kind_60 (by decide) ?_
    exact hE _ _ _ _ dX9_kind_62 (oH_some h)
  · have h := oH_F hc h
    refine o_iload_n (pc := 9) dX9_kind_9 rfl 2 rfl ?_
    refine o_if_eq 18 (pc := 10) dX9_kind_10 (by decide) (fun hc => ?_) (fun hc => ?_)
    · have h := oH_T hc h
      exact s_X9_kind_K18 he hR  hE h
    · have h := oH_F hc h
      refine o_iload_n (pc := 13) dX9_kind_13 rfl 1 rfl ?_
      refine o_iconst (v := 1) (pc := 14) dX9_kind_14 (by decide) ?_
      refine o_icmp_eq 60 (pc := 15) dX9_kind_15 (by decide) (fun hc => ?_) (fun hc => ?_)
      · have h := oH_T hc h
        refine o_bipush (v := -2) (pc := 60) dX9_kind_60 (by decide) ?_
        exact hE _ _ _ _ dX9_kind_62 (oH_some h)
      · have h := oH_F hc h
        exact s_X9_kind_K18 he hR  hE h
def f_X9_last_K136 (zv1 : Int32) (zv3 : Int32) (zv5 : Int32) (zs0 : Int32) (S : oS) : Option ((Int32 × Int32 × Int32 × oS) ⊕ (Int32 × Int32 × oS)) :=
  oLet (zv5 + (1 : Int32)) fun zx7 =>
  some (Sum.inl (zs0, zv3, zx7, S))
set_option maxHeartbeats 4000000 in
theorem s_X9_last_K136 {X : oX} {e : Nat} (he : 6 ≤ e) (hR : oRoom X (e + 1)) {zv1 : Int32} {zv3 : Int32} {zv5 : Int32} {zs0 : Int32} {VH : Int32 × Int32 × Int32 × oS → Prop} {VE : Int32 × Int32 × oS → Prop} (hVH : ∀ z, VH z → oVv X mX9_last 67 [(0, orf 1000 0), (1, oi zv1), (2, oi z.1), (3, oi z.2.1), (5, oi z.2.2.1)] [] z.2.2.2) (hVE : ∀ z, VE z → oVv X mX9_last 143 [(1, oi zv1), (2, oi z.1), (3, oi z.2.1)] [] z.2.2) {S : oS} (h : oH (f_X9_last_K136 zv1 zv3 zv5 zs0 S) (fun z => Sum.elim VH VE z)) : oVv X mX9_last 136 [(0, orf 1000 0), (1, oi zv1), (3, oi zv3), (5, oi zv5)] [oi zs0] S := by
  unfold f_X9_last_K136 at h
  refine o_istore_n (lv1 := [(0, orf 1000 0), (1, oi zv1), (2, oi zs0), (3, oi zv3), (5, oi zv5)]) (pc := 136) dX9_last_136 rfl (by decide) rfl ?_
  obtain ⟨zx7, hx⟩ : ∃ y : Int32, y = zv5 + (1 : Int32) := ⟨_, rfl⟩
  have h := oH_let h zx7 hx
  refine o_iinc (lv1 := [(0, orf 1000 0), (1, oi zv1), (2, oi zs0), (3, oi zv3), (5, oi zx7)]) (pc := 137) dX9_last_137 4 rfl hx.symm (by decide) rfl ?_
  clear hx
  refine o_goto 67 (pc := 140) dX9_last_140 (by decide) ?_
  exact hVH _ (oH_some (P := fun z => Sum.elim VH VE z) h)
def f_X9_last_K123 (zv1 : Int32) (zv2 : Int32) (zv5 : Int32) (zv6 : Int32) (zs0 : Int32) (S : oS) : Option ((Int32 × Int32 × Int32 × oS) ⊕ (Int32 × Int32 × oS)) :=
  if zv6 ≤ zv2 then (
  f_X9_last_K136 zv1 zs0 zv5 zv2 S) else (
  f_X9_last_K136 zv1 zs0 zv5 zv6 S)
set_option maxHeartbeats 4000000 in
theorem s_X9_last_K123 {X : oX} {e : Nat} (he : 6 ≤ e) (hR : oRoom X (e + 1)) {zv1 : Int32} {zv2 : Int32} {zv5 : Int32} {zv6 : Int32} {zs0 : Int32} {VH : Int32 × Int32 × Int32 × oS → Prop} {VE : Int32 × Int32 × oS → Prop} (hVH : ∀ z, VH z → oVv X mX9_last 67 [(0, orf 1000 0), (1, oi zv1), (2, oi z.1), (3, oi z.2.1), (5, oi z.2.2.1)] [] z.2.2.2) (hVE : ∀ z, VE z → oVv X mX9_last 143 [(1, oi zv1), (2, oi z.1), (3, oi z.2.1)] [] z.2.2) {S : oS} (h : oH (f_X9_last_K123 zv1 zv2 zv5 zv6 zs0 S) (fun z => Sum.elim VH VE z)) : oVv X mX9_last 123 [(0, orf 1000 0), (1, oi zv1), (2, oi zv2), (5, oi zv5), (6, oi zv6)] [oi zs0] S := by
  unfold f_X9_last_K123 at h
  refine o_istore_n (lv1 := [(0, orf 1000 0), (1, oi zv1), (2, oi zv2), (3, oi zs0), (5, oi zv5), (6, oi zv6)]) (pc := 123) dX9_last_123 rfl (by decide) rfl ?_
  refine o_iload (pc := 124) dX9_last_124 5 rfl ?_
  refine o_iload_n (pc := 126) dX9_last_126 rfl 2 rfl ?_
  refine o_icmp_le 135 (pc := 127) dX9_last_127 (by decide) (fun hc => ?_) (fun hc => ?_)
  · have h := oH_T hc h
    refine o_iload_n (pc := 135) dX9_last_135 rfl 2 rfl ?_
    refine o_weak [0, 1, 3, 4] rfl ?_
    exact s_X9_last_K136 he hR  hVH hVE h
  · have h := oH_F hc h
    refine o_iload (pc := 130) dX9_last_130 5 rfl ?_
    refine o_goto 136 (pc := 132) dX9_last_132 (by decide) ?_
    refine o_weak [0, 1, 3, 4] rfl ?_
    exact s_X9_last_K136 he hR  hVH hVE h
def f_X9_last_L67 (zv1 : Int32) : Int32 × Int32 × Int32 × oS → Option ((Int32 × Int32 × Int32 × oS) ⊕ (Int32 × Int32 × oS)) := fun w =>
  match w with
  | (zv2, zv3, zv5, S) =>
    if (40 : Int32) < zv5 then (
    some (Sum.inr (zv2, zv3, S))) else (
    if oIn (S.1 1000 0 34) 4 then (
    oLet (oStI S 1036 0 (Int32.toNatClampNeg (S.1 1000 0 34)) zv5) fun zS3 =>
    oLet (oStI zS3 1000 0 34 ((zS3.1 1000 0 34) + (1 : Int32))) fun zS4 =>
    (f_X9_findPlan zS4).bind fun zz5 =>
    oLet (oStI zz5.2 1000 0 34 ((zz5.2.1 1000 0 34) - (1 : Int32))) fun zS6 =>
    if zz5.1 ≤ zv2 then (
    f_X9_last_K123 zv1 zv2 zv5 zz5.1 zv3 zS6) else (
    f_X9_last_K123 zv1 zv2 zv5 zz5.1 zv5 zS6)) else none)
set_option maxHeartbeats 4000000 in
theorem s_X9_last_L67b {X : oX} {e : Nat} (he : 6 ≤ e) (hR : oRoom X (e + 1)) {zv1 : Int32} {VH : Int32 × Int32 × Int32 × oS → Prop} {VE : Int32 × Int32 × oS → Prop} (hVH : ∀ z, VH z → oVv X mX9_last 67 [(0, orf 1000 0), (1, oi zv1), (2, oi z.1), (3, oi z.2.1), (5, oi z.2.2.1)] [] z.2.2.2) (hVE : ∀ z, VE z → oVv X mX9_last 143 [(1, oi zv1), (2, oi z.1), (3, oi z.2.1)] [] z.2.2) {zv2 : Int32} {zv3 : Int32} {zv5 : Int32} {S : oS} (h : oH (f_X9_last_L67 zv1 (zv2, zv3, zv5, S)) (fun z => Sum.elim VH VE z)) : oVv X mX9_last 67 [(0, orf 1000 0), (1, oi zv1), (2, oi zv2), (3, oi zv3), (5, oi zv5)] [] S := by
  dsimp only [f_X9_last_L67] at h
  refine o_iload (pc := 67) dX9_last_67 4 rfl ?_
  refine o_bipush (v := 40) (pc := 69) dX9_last_69 (by decide) ?_
  refine o_icmp_gt 143 (pc := 71) dX9_last_71 (by decide) (fun hc => ?_) (fun hc => ?_)
  · have h := oH_T hc h
    refine o_weak [1, 2, 3] rfl ?_
    exact hVE _ (oH_some (P := fun z => Sum.elim VH VE z) h)
  · have h := oH_F hc h
    refine o_aload_n (pc := 74) dX9_last_74 rfl 0 rfl ?_
    refine o_getA (pc := 75) fd_RX9_82 ft_1000_35 j_1000 dX9_last_75 ?_
    refine o_aload_n (pc := 78) dX9_last_78 rfl 0 rfl ?_
    refine o_getI (pc := 79) fd_RX9_303 ft_1000_34 j_1000 dX9_last_79 ?_
    refine o_iload (pc := 82) dX9_last_82 4 rfl ?_
    obtain ⟨hg, h⟩ := oH_G h
    have hgi := hg
    refine o_iast (pc := 84) kd_1036 j_1036 hgi dX9_last_84 ?_
    refine o_nmS (fun zS3 hx => ?_)
    have h := oH_let h zS3 hx
    clear hx
    refine o_aload_n (pc := 85) dX9_last_85 rfl 0 rfl ?_
    refine o_dup (pc := 86) dX9_last_86 rfl ?_
    refine o_getI (pc := 87) fd_RX9_303 ft_1000_34 j_1000 dX9_last_87 ?_
    refine o_iconst (v := 1) (pc := 90) dX9_last_90 (by decide) ?_
    refine o_iadd (pc := 91) dX9_last_91 ?_
    refine o_putI (pc := 92) fd_RX9_303 fp_1000_34 ft_1000_34 rfl rfl j_1000 dX9_last_92 ?_
    refine o_nmS (fun zS4 hx => ?_)
    have h := oH_let h zS4 hx
    clear hx
    refine o_aload_n (pc := 95) dX9_last_95 rfl 0 rfl ?_
    have h := oH_bind h
    refine o_callVi (pc := 96) (st := []) [] hR md_X9_findPlan wd_1241 wd_1243 ws_42 tc_1000 j_1000 rfl (Nat.le_of_ble_eq_true rfl) rfl dX9_last_96 (s_X9_findPlan e (by omega)  h) (fun zz5 h => ?_)
    refine o_istore (lv1 := [(0, orf 1000 0), (1, oi zv1), (2, oi zv2), (3, oi zv3), (5, oi zv5), (6, oi zz5.1)]) (pc := 99) dX9_last_99 (by decide) rfl ?_
    refine o_aload_n (pc := 101) dX9_last_101 rfl 0 rfl ?_
    refine o_dup (pc := 102) dX9_last_102 rfl ?_
    refine o_getI (pc := 103) fd_RX9_303 ft_1000_34 j_1000 dX9_last_103 ?_
    refine o_iconst (v := 1) (pc := 106) dX9_last_106 (by decide) ?_
    refine o_isub (pc := 107) dX9_last_107 ?_
    refine o_putI (pc := 108) fd_RX9_303 fp_1000_34 ft_1000_34 rfl rfl j_1000 dX9_last_108 ?_
    refine o_nmS (fun zS6 hx => ?_)
    have h := oH_let h zS6 hx
    clear hx
    refine o_iload (pc := 111) dX9_last_111 5 rfl ?_
    refine o_iload_n (pc := 113) dX9_last_113 rfl 2 rfl ?_
    refine o_icmp_le 122 (pc := 114) dX9_last_114 (by decide) (fun hc => ?_) (fun hc => ?_)
    · have h := oH_T hc h
      refine o_iload_n (pc := 122) dX9_last_122 rfl 3 rfl ?_
      refine o_weak [0, 1, 2, 4, 5] rfl ?_
      exact s_X9_last_K123 he hR  hVH hVE h
    · have h := oH_F hc h
      refine o_iload (pc := 117) dX9_last_117 4 rfl ?_
      refine o_goto 123 (pc := 119) dX9_last_119 (by decide) ?_
      refine o_weak [0, 1, 2, 4, 5] rfl ?_
      exact s_X9_last_K123 he hR  hVH hVE h
theorem s_X9_last_L67 {X : oX} {e : Nat} (he : 6 ≤ e) (hR : oRoom X (e + 1)) {zv1 : Int32}  {VE : Int32 × Int32 × oS → Prop} (hVE : ∀ z, VE z → oVv X mX9_last 143 [(1, oi zv1), (2, oi z.1), (3, oi z.2.1)] [] z.2.2) (n : Nat) (w : Int32 × Int32 × Int32 × oS) (h : oH (oLp (f_X9_last_L67 zv1) n w) VE) : oVv X mX9_last 67 [(0, orf 1000 0), (1, oi zv1), (2, oi w.1), (3, oi w.2.1), (5, oi w.2.2.1)] [] w.2.2.2 :=
  oLp_s (VH := fun w => oVv X mX9_last 67 [(0, orf 1000 0), (1, oi zv1), (2, oi w.1), (3, oi w.2.1), (5, oi w.2.2.1)] [] w.2.2.2) (fun w h => s_X9_last_L67b he hR  (fun _ h => h) hVE h) n w h
def f_X9_last_K61 (zv1 : Int32) (zv2 : Int32) (zv3 : Int32) (zs0 : Int32) (S : oS) : Option (Int32 × oS) :=
  (oLp (f_X9_last_L67 zv1) oFu (zv2, zv3, zs0, S)).bind fun zz8 =>
  if zv1 = 0 then (
  some (zz8.2.1, zz8.2.2)) else (
  some (zz8.1, zz8.2.2))
set_option maxHeartbeats 4000000 in
theorem s_X9_last_K61 {X : oX} {e : Nat} (he : 6 ≤ e) (hR : oRoom X (e + 1)) {zv1 : Int32} {zv2 : Int32} {zv3 : Int32} {zs0 : Int32} {P : Int32 × oS → Prop} (hE : oEI X mX9_last P) {S : oS} (h : oH (f_X9_last_K61 zv1 zv2 zv3 zs0 S) P) : oVv X mX9_last 61 [(0, orf 1000 0), (1, oi zv1), (2, oi zv2), (3, oi zv3)] [oi zs0] S := by
  unfold f_X9_last_K61 at h
  refine o_istore (lv1 := [(0, orf 1000 0), (1, oi zv1), (2, oi zv2), (3, oi zv3), (4, oi zs0)]) (pc := 61) dX9_last_61 (by decide) rfl ?_
  refine o_iload (pc := 63) dX9_last_63 4 rfl ?_
  refine o_istore (lv1 := [(0, orf 1000 0), (1, oi zv1), (2, oi zv2), (3, oi zv3), (4, oi zs0), (5, oi zs0)]) (pc := 65) dX9_last_65 (by decide) rfl ?_
  refine o_weak [0, 1, 2, 3, 5] rfl ?_
  have h := oH_bind h
  refine s_X9_last_L67 he hR  (fun zz8 h => ?_) _ (zv2, zv3, zs0, S) h
  refine o_iload_n (pc := 143) dX9_last_143 rfl 0 rfl ?_
  refine o_if_ne 151 (pc := 144) dX9_last_144 (by decide) (fun hc => ?_) (fun hc => ?_)
  · have h := oH_F hc h
    refine o_iload_n (pc := 151) dX9_last_151 rfl 1 rfl ?_
    exact hE _ _ _ _ dX9_last_152 (oH_some h)
  · have h := oH_T hc h
    refine o_iload_n (pc := 147) dX9_last_147 rfl 2 rfl ?_
    refine o_goto 152 (pc := 148) dX9_last_148 (by decide) ?_
    exact hE _ _ _ _ dX9_last_152 (oH_some h)
def f_X9_last  (za1 : Int32) (S : oS) : Option (Int32 × oS) :=
  (f_X9_in za1 (0 : Int32) (1 : Int32) S).bind fun zz1 =>
  if zz1.1 = 0 then (
  some ((-2 : Int32), zz1.2)) else (
  (f_X9_inside zz1.2).bind fun zz2 =>
  if zz2.1 ≤ 0 then (
  if (zz2.2.1 1000 0 34) = (3 : Int32) then (
  some ((-4 : Int32), zz2.2)) else (
  if (zz2.2.1 1000 0 34) = 0 then (
  f_X9_last_K61 za1 (-1 : Int32) (-1 : Int32) (0 : Int32) zz2.2) else (
  if oIn ((zz2.2.1 1000 0 34) - (1 : Int32)) 4 then (
  f_X9_last_K61 za1 (-1 : Int32) (-1 : Int32) ((zz2.2.1 1036 0 (Int32.toNatClampNeg ((zz2.2.1 1000 0 34) - (1 : Int32)))) + (1 : Int32)) zz2.2) else none))) else (
  some ((-3 : Int32), zz2.2)))
set_option maxHeartbeats 4000000 in
theorem s_X9_last {G : oG} {r : oR} (d : Nat) (hd : 7 ≤ d) {za1 : Int32}  {S : oS} {P : Int32 × oS → Prop} (h : oH (f_X9_last za1 S) P) : oCt G r d yX9_last mX9_last [orf 1000 0, oi za1] S (oQi P) := by
  unfold f_X9_last at h
  refine oCt_of (by decide) rfl (Nat.le_of_ble_eq_true rfl) ?_
  intro X hG hr hE0 hR
  subst hG; subst hr
  obtain ⟨e, rfl⟩ : ∃ e, d = e + 1 := ⟨d - 1, by omega⟩
  have he : 6 ≤ e := by omega
  have hE := oEI_of hE0 rfl
  clear hE0 hd
  show oVv X mX9_last 0 [(0, orf 1000 0), (1, oi za1)] [] S
  refine o_iload_n (pc := 0) dX9_last_0 rfl 1 rfl ?_
  refine o_iconst (v := 0) (pc := 1) dX9_last_1 (by decide) ?_
  refine o_iconst (v := 1) (pc := 2) dX9_last_2 (by decide) ?_
  have h := oH_bind h
  refine o_callSi (pc := 3) (st := []) [oi za1, oi (0 : Int32), oi (1 : Int32)] hR md_X9_in wd_1061 wd_1062 rfl (Nat.le_of_ble_eq_true rfl) rfl dX9_last_3 (s_X9_in e (by omega)  h) (fun zz1 h => ?_)
  refine o_if_ne 12 (pc := 6) dX9_last_6 (by decide) (fun hc => ?_) (fun hc => ?_)
  · have h := oH_F hc h
    refine o_aload_n (pc := 12) dX9_last_12 rfl 0 rfl ?_
    have h := oH_bind h
    refine o_callVi (pc := 13) (st := []) [] hR md_X9_inside wd_1193 wd_1195 ws_38 tc_1000 j_1000 rfl (Nat.le_of_ble_eq_true rfl) rfl dX9_last_13 (s_X9_inside e (by omega)  h) (fun zz2 h => ?_)
    refine o_if_le 22 (pc := 16) dX9_last_16 (by decide) (fun hc => ?_) (fun hc => ?_)
    · have h := oH_T hc h
      refine o_aload_n (pc := 22) dX9_last_22 rfl 0 rfl ?_
      refine o_getI (pc := 23) fd_RX9_303 ft_1000_34 j_1000 dX9_last_23 ?_
      refine o_iconst (v := 3) (pc := 26) dX9_last_26 (by decide) ?_
      refine o_icmp_ne 33 (pc := 27) dX9_last_27 (by decide) (fun hc => ?_) (fun hc => ?_)
      · have h := oH_F hc h
        refine o_iconst (v := -1) (pc := 33) dX9_last_33 (by decide) ?_
        refine o_istore_n (lv1 := [(0, orf 1000 0), (1, oi za1), (2, oi (-1 : Int32))]) (pc := 34) dX9_last_34 rfl (by decide) rfl ?_
        refine o_iconst (v := -1) (pc := 35) dX9_last_35 (by decide) ?_
        refine o_istore_n (lv1 := [(0, orf 1000 0), (1, oi za1), (2, oi (-1 : Int32)), (3, oi (-1 : Int32))]) (pc := 36) dX9_last_36 rfl (by decide) rfl ?_
        refine o_aload_n (pc := 37) dX9_last_37 rfl 0 rfl ?_
        refine o_getI (pc := 38) fd_RX9_303 ft_1000_34 j_1000 dX9_last_38 ?_
        refine o_if_ne 48 (pc := 41) dX9_last_41 (by decide) (fun hc => ?_) (fun hc => ?_)
        · have h := oH_F hc h
          refine o_aload_n (pc := 48) dX9_last_48 rfl 0 rfl ?_
          refine o_getA (pc := 49) fd_RX9_82 ft_1000_35 j_1000 dX9_last_49 ?_
          refine o_aload_n (pc := 52) dX9_last_52 rfl 0 rfl ?_
          refine o_getI (pc := 53) fd_RX9_303 ft_1000_34 j_1000 dX9_last_53 ?_
          refine o_iconst (v := 1) (pc := 56) dX9_last_56 (by decide) ?_
          refine o_isub (pc := 57) dX9_last_57 ?_
          obtain ⟨hg, h⟩ := oH_G h
          refine o_iald (pc := 58) kd_1036 j_1036 hg dX9_last_58 ?_
          refine o_iconst (v := 1) (pc := 59) dX9_last_59 (by decide) ?_
          refine o_iadd (pc := 60) dX9_last_60 ?_
          exact s_X9_last_K61 he hR  hE h
        · have h := oH_T hc h
          refine o_iconst (v := 0) (pc := 44) dX9_last_44 (by decide) ?_
          refine o_goto 61 (pc := 45) dX9_last_45 (by decide) ?_
          exact s_X9_last_K61 he hR  hE h
      · have h := oH_T hc h
        refine o_bipush (v := -4) (pc := 30) dX9_last_30 (by decide) ?_
        exact hE _ _ _ _ dX9_last_32 (oH_some h)
    · have h := oH_F hc h
      refine o_bipush (v := -3) (pc := 19) dX9_last_19 (by decide) ?_
      exact hE _ _ _ _ dX9_last_21 (oH_some h)
  · have h := oH_T hc h
    refine o_bipush (v := -2) (pc := 9) dX9_last_9 (by decide) ?_
    exact hE _ _ _ _ dX9_last_11 (oH_some h)
def f_X9_loaf  (za1 : Int32) (za2 : Int32) (S : oS) : Option (Int32 × oS) :=
  (f_X9_isLoaf za1 S).bind fun zz1 =>
  if zz1.1 = 0 then (
  some ((-2 : Int32), zz1.2)) else (
  if za2 = 0 then (
  if oIn za1 200 then (
  some (zz1.2.1 1026 0 (Int32.toNatClampNeg za1), zz1.2)) else none) else if za2 = 1 then (
  if oIn za1 200 then (
  some (zz1.2.1 1027 0 (Int32.toNatClampNeg za1), zz1.2)) else none) else if za2 = 2 then (
  if oIn za1 200 then (
  some (zz1.2.1 1028 0 (Int32.toNatClampNeg za1), zz1.2)) else none) else if za2 = 3 then (
  if oIn za1 200 then (
  some (zz1.2.1 1029 0 (Int32.toNatClampNeg za1), zz1.2)) else none) else if za2 = 4 then (
  if oIn za1 200 then (
  some (zz1.2.1 1030 0 (Int32.toNatClampNeg za1), zz1.2)) else none) else if za2 = 5 then (
  if oIn za1 200 then (
  some (zz1.2.1 1031 0 (Int32.toNatClampNeg za1), zz1.2)) else none) else (
  some ((-2 : Int32), zz1.2)))
set_option maxHeartbeats 4000000 in
theorem s_X9_loaf {G : oG} {r : oR} (d : Nat) (hd : 3 ≤ d) {za1 : Int32} {za2 : Int32}  {S : oS} {P : Int32 × oS → Prop} (h : oH (f_X9_loaf za1 za2 S) P) : oCt G r d yX9_loaf mX9_loaf [orf 1000 0, oi za1, oi za2] S (oQi P) := by
  unfold f_X9_loaf at h
  refine oCt_of (by decide) rfl (Nat.le_of_ble_eq_true rfl) ?_
  intro X hG hr hE0 hR
  subst hG; subst hr
  obtain ⟨e, rfl⟩ : ∃ e, d = e + 1 := ⟨d - 1, by omega⟩
  have he : 2 ≤ e := by omega
  have hE := oEI_of hE0 rfl
  clear hE0 hd
  show oVv X mX9_loaf 0 [(0, orf 1000 0), (1, oi za1), (2, oi za2)] [] S
  refine o_aload_n (pc := 0) dX9_loaf_0 rfl 0 rfl ?_
  refine o_iload_n (pc := 1) dX9_loaf_1 rfl 1 rfl ?_
  have h := oH_bind h
  refine o_callVi (pc := 2) (st := []) [oi za1] hR md_X9_isLoaf wd_1201 wd_1203 ws_39 tc_1000 j_1000 rfl (Nat.le_of_ble_eq_true rfl) rfl dX9_loaf_2 (s_X9_isLoaf e (by omega)  h) (fun zz1 h => ?_)
  refine o_if_ne 11 (pc := 5) dX9_loaf_5 (by decide) (fun hc => ?_) (fun hc => ?_)
  · have h := oH_F hc h
    refine o_iload_n (pc := 11) dX9_loaf_11 rfl 2 rfl ?_
    by_cases hc0 : za2 = 0
    · have h := oH_T hc0 h
      refine o_tabIn 52 (pc := 12) (off := 40) dX9_loaf_12 (by rw [hc0]; decide) (by rw [hc0]; decide) (by rw [hc0]; rfl) (by decide) ?_
      refine o_aload_n (pc := 52) dX9_loaf_52 rfl 0 rfl ?_
      refine o_getA (pc := 53) fd_RX9_61 ft_1000_25 j_1000 dX9_loaf_53 ?_
      refine o_iload_n (pc := 56) dX9_loaf_56 rfl 1 rfl ?_
      obtain ⟨hg, h⟩ := oH_G h
      refine o_iald (pc := 57) kd_1026 j_1026 hg dX9_loaf_57 ?_
      exact hE _ _ _ _ dX9_loaf_58 (oH_some h)
    have h := oH_F hc0 h
    by_cases hc1 : za2 = 1
    · have h := oH_T hc1 h
      refine o_tabIn 59 (pc := 12) (off := 47) dX9_loaf_12 (by rw [hc1]; decide) (by rw [hc1]; decide) (by rw [hc1]; rfl) (by decide) ?_
      refine o_aload_n (pc := 59) dX9_loaf_59 rfl 0 rfl ?_
      refine o_getA (pc := 60) fd_RX9_64 ft_1000_26 j_1000 dX9_loaf_60 ?_
      refine o_iload_n (pc := 63) dX9_loaf_63 rfl 1 rfl ?_
      obtain ⟨hg, h⟩ := oH_G h
      refine o_iald (pc := 64) kd_1027 j_1027 hg dX9_loaf_64 ?_
      exact hE _ _ _ _ dX9_loaf_65 (oH_some h)
    have h := oH_F hc1 h
    by_cases hc2 : za2 = 2
    · have h := oH_T hc2 h
      refine o_tabIn 66 (pc := 12) (off := 54) dX9_loaf_12 (by rw [hc2]; decide) (by rw [hc2]; decide) (by rw [hc2]; rfl) (by decide) ?_
      refine o_aload_n (pc := 66) dX9_loaf_66 rfl 0 rfl ?_
      refine o_getA (pc := 67) fd_RX9_67 ft_1000_27 j_1000 dX9_loaf_67 ?_
      refine o_iload_n (pc := 70) dX9_loaf_70 rfl 1 rfl ?_
      obtain ⟨hg, h⟩ := oH_G h
      refine o_iald (pc := 71) kd_1028 j_1028 hg dX9_loaf_71 ?_
      exact hE _ _ _ _ dX9_loaf_72 (oH_some h)
    have h := oH_F hc2 h
    by_cases hc3 : za2 = 3
    · have h := oH_T hc3 h
      refine o_tabIn 73 (pc := 12) (off := 61) dX9_loaf_12 (by rw [hc3]; decide) (by rw [hc3]; decide) (by rw [hc3]; rfl) (by decide) ?_
      refine o_aload_n (pc := 73) dX9_loaf_73 rfl 0 rfl ?_
      refine o_getA (pc := 74) fd_RX9_70 ft_1000_28 j_1000 dX9_loaf_74 ?_
      refine o_iload_n (pc := 77) dX9_loaf_77 rfl 1 rfl ?_
      obtain ⟨hg, h⟩ := oH_G h
      refine o_iald (pc := 78) kd_1029 j_1029 hg dX9_loaf_78 ?_
      exact hE _ _ _ _ dX9_loaf_79 (oH_some h)
    have h := oH_F hc3 h
    by_cases hc4 : za2 = 4
    · have h := oH_T hc4 h
      refine o_tabIn 80 (pc := 12) (off := 68) dX9_loaf_12 (by rw [hc4]; decide) (by rw [hc4]; decide) (by rw [hc4]; rfl) (by decide) ?_
      refine o_aload_n (pc := 80) dX9_loaf_80 rfl 0 rfl ?_
      refine o_getA (pc := 81) fd_RX9_73 ft_1000_29 j_1000 dX9_loaf_81 ?_
      refine o_iload_n (pc := 84) dX9_loaf_84 rfl 1 rfl ?_
      obtain ⟨hg, h⟩ := oH_G h
      refine o_iald (pc := 85) kd_1030 j_1030 hg dX9_loaf_85 ?_
      exact hE _ _ _ _ dX9_loaf_86 (oH_some h)
    have h := oH_F hc4 h
    by_cases hc5 : za2 = 5
    · have h := oH_T hc5 h
      refine o_tabIn 87 (pc := 12) (off := 75) dX9_loaf_12 (by rw [hc5]; decide) (by rw [hc5]; decide) (by rw [hc5]; rfl) (by decide) ?_
      refine o_aload_n (pc := 87) dX9_loaf_87 rfl 0 rfl ?_
      refine o_getA (pc := 88) fd_RX9_76 ft_1000_30 j_1000 dX9_loaf_88 ?_
      refine o_iload_n (pc := 91) dX9_loaf_91 rfl 1 rfl ?_
      obtain ⟨hg, h⟩ := oH_G h
      refine o_iald (pc := 92) kd_1031 j_1031 hg dX9_loaf_92 ?_
      exact hE _ _ _ _ dX9_loaf_93 (oH_some h)
    have h := oH_F hc5 h
    refine o_tabOut 94 (pc := 12) dX9_loaf_12 (by
        have g0 : ¬ Int32.toInt za2 = 0 := fun z => hc0 (Int32.toInt_inj.mp z)
        have g1 : ¬ Int32.toInt za2 = 1 := fun z => hc1 (Int32.toInt_inj.mp z)
        have g2 : ¬ Int32.toInt za2 = 2 := fun z => hc2 (Int32.toInt_inj.mp z)
        have g3 : ¬ Int32.toInt za2 = 3 := fun z => hc3 (Int32.toInt_inj.mp z)
        have g4 : ¬ Int32.toInt za2 = 4 := fun z => hc4 (Int32.toInt_inj.mp z)
        have g5 : ¬ Int32.toInt za2 = 5 := fun z => hc5 (Int32.toInt_inj.mp z)
        omega) (by decide) ?_
    refine o_bipush (v := -2) (pc := 94) dX9_loaf_94 (by decide) ?_
    exact hE _ _ _ _ dX9_loaf_96 (oH_some h)
  · have h := oH_T hc h
    refine o_bipush (v := -2) (pc := 8) dX9_loaf_8 (by decide) ?_
    exact hE _ _ _ _ dX9_loaf_10 (oH_some h)
def f_X9_log  (za1 : Int32) (za2 : Int32) (S : oS) : Option (Int32 × oS) :=
  (f_X9_isLog za1 za2 S).bind fun zz1 =>
  if zz1.1 = 0 then (
  some ((-2 : Int32), zz1.2)) else (
  if (zz1.2.1 1000 0 5) = (30 : Int32) then (
  some ((-4 : Int32), zz1.2)) else (
  if oIn (zz1.2.1 1000 0 5) 30 then (
  oLet (oStI zz1.2 1007 0 (Int32.toNatClampNeg (zz1.2.1 1000 0 5)) za1) fun zS2 =>
  if oIn (zS2.1 1000 0 5) 30 then (
  oLet (oStI zS2 1008 0 (Int32.toNatClampNeg (zS2.1 1000 0 5)) za2) fun zS3 =>
  oLet (oStI zS3 1000 0 5 ((zS3.1 1000 0 5) + (1 : Int32))) fun zS4 =>
  some (zS4.1 1000 0 5, zS4)) else none) else none))
set_option maxHeartbeats 4000000 in
theorem s_X9_log {G : oG} {r : oR} (d : Nat) (hd : 3 ≤ d) {za1 : Int32} {za2 : Int32}  {S : oS} {P : Int32 × oS → Prop} (h : oH (f_X9_log za1 za2 S) P) : oCt G r d yX9_log mX9_log [orf 1000 0, oi za1, oi za2] S (oQi P) := by
  unfold f_X9_log at h
  refine oCt_of (by decide) rfl (Nat.le_of_ble_eq_true rfl) ?_
  intro X hG hr hE0 hR
  subst hG; subst hr
  obtain ⟨e, rfl⟩ : ∃ e, d = e + 1 := ⟨d - 1, by omega⟩
  have he : 2 ≤ e := by omega
  have hE := oEI_of hE0 rfl
  clear hE0 hd
  show oVv X mX9_log 0 [(0, orf 1000 0), (1, oi za1), (2, oi za2)] [] S
  refine o_iload_n (pc := 0) dX9_log_0 rfl 1 rfl ?_
  refine o_iload_n (pc := 1) dX9_log_1 rfl 2 rfl ?_
  have h := oH_bind h
  refine o_callSi (pc := 2) (st := []) [oi za1, oi za2] hR md_X9_isLog wd_1083 wd_1084 rfl (Nat.le_of_ble_eq_true rfl) rfl dX9_log_2 (s_X9_isLog e (by omega)  h) (fun zz1 h => ?_)
  refine o_if_ne 11 (pc := 5) dX9_log_5 (by decide) (fun hc => ?_) (fun hc => ?_)
  · have h := oH_F hc h
    refine o_aload_n (pc := 11) dX9_log_11 rfl 0 rfl ?_
    refine o_getI (pc := 12) fd_RX9_163 ft_1000_5 j_1000 dX9_log_12 ?_
    refine o_bipush (v := 30) (pc := 15) dX9_log_15 (by decide) ?_
    refine o_icmp_ne 23 (pc := 17) dX9_log_17 (by decide) (fun hc => ?_) (fun hc => ?_)
    · have h := oH_F hc h
      refine o_aload_n (pc := 23) dX9_log_23 rfl 0 rfl ?_
      refine o_getA (pc := 24) fd_RX9_24 ft_1000_6 j_1000 dX9_log_24 ?_
      refine o_aload_n (pc := 27) dX9_log_27 rfl 0 rfl ?_
      refine o_getI (pc := 28) fd_RX9_163 ft_1000_5 j_1000 dX9_log_28 ?_
      refine o_iload_n (pc := 31) dX9_log_31 rfl 1 rfl ?_
      obtain ⟨hg, h⟩ := oH_G h
      have hgi := hg
      refine o_iast (pc := 32) kd_1007 j_1007 hgi dX9_log_32 ?_
      refine o_nmS (fun zS2 hx => ?_)
      have h := oH_let h zS2 hx
      clear hx
      refine o_aload_n (pc := 33) dX9_log_33 rfl 0 rfl ?_
      refine o_getA (pc := 34) fd_RX9_27 ft_1000_7 j_1000 dX9_log_34 ?_
      refine o_aload_n (pc := 37) dX9_log_37 rfl 0 rfl ?_
      refine o_getI (pc := 38) fd_RX9_163 ft_1000_5 j_1000 dX9_log_38 ?_
      refine o_iload_n (pc := 41) dX9_log_41 rfl 2 rfl ?_
      obtain ⟨hg, h⟩ := oH_G h
      have hgi := hg
      refine o_iast (pc := 42) kd_1008 j_1008 hgi dX9_log_42 ?_
      refine o_nmS (fun zS3 hx => ?_)
      have h := oH_let h zS3 hx
      clear hx
      refine o_aload_n (pc := 43) dX9_log_43 rfl 0 rfl ?_
      refine o_dup (pc := 44) dX9_log_44 rfl ?_
      refine o_getI (pc := 45) fd_RX9_163 ft_1000_5 j_1000 dX9_log_45 ?_
      refine o_iconst (v := 1) (pc := 48) dX9_log_48 (by decide) ?_
      refine o_iadd (pc := 49) dX9_log_49 ?_
      refine o_putI (pc := 50) fd_RX9_163 fp_1000_5 ft_1000_5 rfl rfl j_1000 dX9_log_50 ?_
      refine o_nmS (fun zS4 hx => ?_)
      have h := oH_let h zS4 hx
      clear hx
      refine o_aload_n (pc := 53) dX9_log_53 rfl 0 rfl ?_
      refine o_getI (pc := 54) fd_RX9_163 ft_1000_5 j_1000 dX9_log_54 ?_
      exact hE _ _ _ _ dX9_log_57 (oH_some h)
    · have h := oH_T hc h
      refine o_bipush (v := -4) (pc := 20) dX9_log_20 (by decide) ?_
      exact hE _ _ _ _ dX9_log_22 (oH_some h)
  · have h := oH_T hc h
    refine o_bipush (v := -2) (pc := 8) dX9_log_8 (by decide) ?_
    exact hE _ _ _ _ dX9_log_10 (oH_some h)
def f_X9_lose_L18 (zv1 : Int32) (zv2 : Int32) : Int32 × oS → Option ((Int32 × oS) ⊕ (oS)) := fun w =>
  match w with
  | (zv3, S) =>
    if (4 : Int32) ≤ zv3 then (
    some (Sum.inr S)) else (
    if oIn (((4 : Int32) * zv1) + zv3) 244 then (
    oLet (oStI S 1046 0 (Int32.toNatClampNeg (((4 : Int32) * zv1) + zv3)) (0 : Int32)) fun zS3 =>
    oLet (zv3 + (1 : Int32)) fun zx4 =>
    some (Sum.inl (zx4, zS3))) else none)
set_option maxHeartbeats 4000000 in
theorem s_X9_lose_L18b {X : oX} {e : Nat} (he : 2 ≤ e) (hR : oRoom X (e + 1)) {zv1 : Int32} {zv2 : Int32} {VH : Int32 × oS → Prop} {VE : oS → Prop} (hVH : ∀ z, VH z → oVv X mX9_lose 18 [(0, orf 1000 0), (1, oi zv1), (2, oi zv2), (3, oi z.1)] [] z.2) (hVE : ∀ z, VE z → oVv X mX9_lose 40 [(2, oi zv2)] [] z) {zv3 : Int32} {S : oS} (h : oH (f_X9_lose_L18 zv1 zv2 (zv3, S)) (fun z => Sum.elim VH VE z)) : oVv X mX9_lose 18 [(0, orf 1000 0), (1, oi zv1), (2, oi zv2), (3, oi zv3)] [] S := by
  dsimp only [f_X9_lose_L18] at h
  refine o_iload_n (pc := 18) dX9_lose_18 rfl 3 rfl ?_
  refine o_iconst (v := 4) (pc := 19) dX9_lose_19 (by decide) ?_
  refine o_icmp_ge 40 (pc := 20) dX9_lose_20 (by decide) (fun hc => ?_) (fun hc => ?_)
  · have h := oH_T hc h
    refine o_weak [2] rfl ?_
    exact hVE _ (oH_some (P := fun z => Sum.elim VH VE z) h)
  · have h := oH_F hc h
    refine o_aload_n (pc := 23) dX9_lose_23 rfl 0 rfl ?_
    refine o_getA (pc := 24) fd_RX9_103 ft_1000_45 j_1000 dX9_lose_24 ?_
    refine o_iconst (v := 4) (pc := 27) dX9_lose_27 (by decide) ?_
    refine o_iload_n (pc := 28) dX9_lose_28 rfl 1 rfl ?_
    refine o_imul (pc := 29) dX9_lose_29 ?_
    refine o_iload_n (pc := 30) dX9_lose_30 rfl 3 rfl ?_
    refine o_iadd (pc := 31) dX9_lose_31 ?_
    refine o_iconst (v := 0) (pc := 32) dX9_lose_32 (by decide) ?_
    obtain ⟨hg, h⟩ := oH_G h
    have hgi := hg
    refine o_iast (pc := 33) kd_1046 j_1046 hgi dX9_lose_33 ?_
    refine o_nmS (fun zS3 hx => ?_)
    have h := oH_let h zS3 hx
    clear hx
    obtain ⟨zx4, hx⟩ : ∃ y : Int32, y = zv3 + (1 : Int32) := ⟨_, rfl⟩
    have h := oH_let h zx4 hx
    refine o_iinc (lv1 := [(0, orf 1000 0), (1, oi zv1), (2, oi zv2), (3, oi zx4)]) (pc := 34) dX9_lose_34 3 rfl hx.symm (by decide) rfl ?_
    clear hx
    refine o_goto 18 (pc := 37) dX9_lose_37 (by decide) ?_
    exact hVH _ (oH_some (P := fun z => Sum.elim VH VE z) h)
theorem s_X9_lose_L18 {X : oX} {e : Nat} (he : 2 ≤ e) (hR : oRoom X (e + 1)) {zv1 : Int32} {zv2 : Int32}  {VE : oS → Prop} (hVE : ∀ z, VE z → oVv X mX9_lose 40 [(2, oi zv2)] [] z) (n : Nat) (w : Int32 × oS) (h : oH (oLp (f_X9_lose_L18 zv1 zv2) n w) VE) : oVv X mX9_lose 18 [(0, orf 1000 0), (1, oi zv1), (2, oi zv2), (3, oi w.1)] [] w.2 :=
  oLp_s (VH := fun w => oVv X mX9_lose 18 [(0, orf 1000 0), (1, oi zv1), (2, oi zv2), (3, oi w.1)] [] w.2) (fun w h => s_X9_lose_L18b he hR  (fun _ h => h) hVE h) n w h
def f_X9_lose  (za1 : Int32) (S : oS) : Option (Int32 × oS) :=
  (f_X9_isWeek za1 S).bind fun zz1 =>
  if zz1.1 = 0 then (
  some ((-2 : Int32), zz1.2)) else (
  (f_X9_notesOf za1 zz1.2).bind fun zz2 =>
  (oLp (f_X9_lose_L18 za1 zz2.1) oFu ((0 : Int32), zz2.2)).bind fun zz5 =>
  some (zz2.1, zz5))
set_option maxHeartbeats 4000000 in
theorem s_X9_lose {G : oG} {r : oR} (d : Nat) (hd : 3 ≤ d) {za1 : Int32}  {S : oS} {P : Int32 × oS → Prop} (h : oH (f_X9_lose za1 S) P) : oCt G r d yX9_lose mX9_lose [orf 1000 0, oi za1] S (oQi P) := by
  unfold f_X9_lose at h
  refine oCt_of (by decide) rfl (Nat.le_of_ble_eq_true rfl) ?_
  intro X hG hr hE0 hR
  subst hG; subst hr
  obtain ⟨e, rfl⟩ : ∃ e, d = e + 1 := ⟨d - 1, by omega⟩
  have he : 2 ≤ e := by omega
  have hE := oEI_of hE0 rfl
  clear hE0 hd
  show oVv X mX9_lose 0 [(0, orf 1000 0), (1, oi za1)] [] S
  refine o_iload_n (pc := 0) dX9_lose_0 rfl 1 rfl ?_
  have h := oH_bind h
  refine o_callSi (pc := 1) (st := []) [oi za1] hR md_X9_isWeek wd_1297 wd_1298 rfl (Nat.le_of_ble_eq_true rfl) rfl dX9_lose_1 (s_X9_isWeek e (by omega)  h) (fun zz1 h => ?_)
  refine o_if_ne 10 (pc := 4) dX9_lose_4 (by decide) (fun hc => ?_) (fun hc => ?_)
  · have h := oH_F hc h
    refine o_aload_n (pc := 10) dX9_lose_10 rfl 0 rfl ?_
    refine o_iload_n (pc := 11) dX9_lose_11 rfl 1 rfl ?_
    have h := oH_bind h
    refine o_callVi (pc := 12) (st := []) [oi za1] hR md_X9_notesOf wd_1344 wd_1346 ws_55 tc_1000 j_1000 rfl (Nat.le_of_ble_eq_true rfl) rfl dX9_lose_12 (s_X9_notesOf e (by omega)  h) (fun zz2 h => ?_)
    refine o_istore_n (lv1 := [(0, orf 1000 0), (1, oi za1), (2, oi zz2.1)]) (pc := 15) dX9_lose_15 rfl (by decide) rfl ?_
    refine o_iconst (v := 0) (pc := 16) dX9_lose_16 (by decide) ?_
    refine o_istore_n (lv1 := [(0, orf 1000 0), (1, oi za1), (2, oi zz2.1), (3, oi (0 : Int32))]) (pc := 17) dX9_lose_17 rfl (by decide) rfl ?_
    have h := oH_bind h
    refine s_X9_lose_L18 he hR  (fun zz5 h => ?_) _ ((0 : Int32), zz2.2) h
    refine o_iload_n (pc := 40) dX9_lose_40 rfl 0 rfl ?_
    exact hE _ _ _ _ dX9_lose_41 (oH_some h)
  · have h := oH_T hc h
    refine o_bipush (v := -2) (pc := 7) dX9_lose_7 (by decide) ?_
    exact hE _ _ _ _ dX9_lose_9 (oH_some h)
def f_X9_move  (za1 : Int32) (za2 : Int32) (S : oS) : Option (Int32 × oS) :=
  (f_X9_isLoaf za1 S).bind fun zz1 =>
  if zz1.1 = 0 then (
  some ((-2 : Int32), zz1.2)) else (
  (f_X9_isRing za2 zz1.2).bind fun zz2 =>
  if zz2.1 = 0 then (
  some ((-2 : Int32), zz2.2)) else (
  if oIn za1 200 then (
  if (zz2.2.1 1027 0 (Int32.toNatClampNeg za1)) = za2 then (
  some ((-2 : Int32), zz2.2)) else (
  (f_X9_isInside za1 zz2.2).bind fun zz3 =>
  if zz3.1 = 0 then (
  some ((-3 : Int32), zz3.2)) else (
  if oIn za1 200 then (
  (f_X9_hasRoom za2 (zz3.2.1 1026 0 (Int32.toNatClampNeg za1)) zz3.2).bind fun zz4 =>
  if zz4.1 = 0 then (
  some ((-3 : Int32), zz4.2)) else (
  (f_X9_canGo za1 zz4.2).bind fun zz5 =>
  if zz5.1 = 0 then (
  some ((-3 : Int32), zz5.2)) else (
  if oIn za1 200 then (
  oLet (zz5.2.1 1027 0 (Int32.toNatClampNeg za1)) fun zx6 =>
  if oIn za1 200 then (
  oLet (oStI zz5.2 1027 0 (Int32.toNatClampNeg za1) za2) fun zS7 =>
  oLet (oStI zS7 1000 0 12 (1 : Int32)) fun zS8 =>
  some (zx6, zS8)) else none) else none))) else none))) else none))
set_option maxHeartbeats 4000000 in
theorem s_X9_move {G : oG} {r : oR} (d : Nat) (hd : 4 ≤ d) {za1 : Int32} {za2 : Int32}  {S : oS} {P : Int32 × oS → Prop} (h : oH (f_X9_move za1 za2 S) P) : oCt G r d yX9_move mX9_move [orf 1000 0, oi za1, oi za2] S (oQi P) := by
  unfold f_X9_move at h
  refine oCt_of (by decide) rfl (Nat.le_of_ble_eq_true rfl) ?_
  intro X hG hr hE0 hR
  subst hG; subst hr
  obtain ⟨e, rfl⟩ : ∃ e, d = e + 1 := ⟨d - 1, by omega⟩
  have he : 3 ≤ e := by omega
  have hE := oEI_of hE0 rfl
  clear hE0 hd
  show oVv X mX9_move 0 [(0, orf 1000 0), (1, oi za1), (2, oi za2)] [] S
  refine o_aload_n (pc := 0) dX9_move_0 rfl 0 rfl ?_
  refine o_iload_n (pc := 1) dX9_move_1 rfl 1 rfl ?_
  have h := oH_bind h
  refine o_callVi (pc := 2) (st := []) [oi za1] hR md_X9_isLoaf wd_1201 wd_1203 ws_39 tc_1000 j_1000 rfl (Nat.le_of_ble_eq_true rfl) rfl dX9_move_2 (s_X9_isLoaf e (by omega)  h) (fun zz1 h => ?_)
  refine o_if_eq 25 (pc := 5) dX9_move_5 (by decide) (fun hc => ?_) (fun hc => ?_)
  · have h := oH_T hc h
    refine o_bipush (v := -2) (pc := 25) dX9_move_25 (by decide) ?_
    exact hE _ _ _ _ dX9_move_27 (oH_some h)
  · have h := oH_F hc h
    refine o_iload_n (pc := 8) dX9_move_8 rfl 2 rfl ?_
    have h := oH_bind h
    refine o_callSi (pc := 9) (st := []) [oi za2] hR md_X9_isRing wd_1068 wd_1069 rfl (Nat.le_of_ble_eq_true rfl) rfl dX9_move_9 (s_X9_isRing e (by omega)  h) (fun zz2 h => ?_)
    refine o_if_eq 25 (pc := 12) dX9_move_12 (by decide) (fun hc => ?_) (fun hc => ?_)
    · have h := oH_T hc h
      refine o_bipush (v := -2) (pc := 25) dX9_move_25 (by decide) ?_
      exact hE _ _ _ _ dX9_move_27 (oH_some h)
    · have h := oH_F hc h
      refine o_aload_n (pc := 15) dX9_move_15 rfl 0 rfl ?_
      refine o_getA (pc := 16) fd_RX9_64 ft_1000_26 j_1000 dX9_move_16 ?_
      refine o_iload_n (pc := 19) dX9_move_19 rfl 1 rfl ?_
      obtain ⟨hg, h⟩ := oH_G h
      refine o_iald (pc := 20) kd_1027 j_1027 hg dX9_move_20 ?_
      refine o_iload_n (pc := 21) dX9_move_21 rfl 2 rfl ?_
      refine o_icmp_ne 28 (pc := 22) dX9_move_22 (by decide) (fun hc => ?_) (fun hc => ?_)
      · have h := oH_F hc h
        refine o_aload_n (pc := 28) dX9_move_28 rfl 0 rfl ?_
        refine o_iload_n (pc := 29) dX9_move_29 rfl 1 rfl ?_
        have h := oH_bind h
        refine o_callVi (pc := 30) (st := []) [oi za1] hR md_X9_isInside wd_1128 wd_1130 ws_29 tc_1000 j_1000 rfl (Nat.le_of_ble_eq_true rfl) rfl dX9_move_30 (s_X9_isInside e (by omega)  h) (fun zz3 h => ?_)
        refine o_if_eq 58 (pc := 33) dX9_move_33 (by decide) (fun hc => ?_) (fun hc => ?_)
        · have h := oH_T hc h
          refine o_bipush (v := -3) (pc := 58) dX9_move_58 (by decide) ?_
          exact hE _ _ _ _ dX9_move_60 (oH_some h)
        · have h := oH_F hc h
          refine o_aload_n (pc := 36) dX9_move_36 rfl 0 rfl ?_
          refine o_iload_n (pc := 37) dX9_move_37 rfl 2 rfl ?_
          refine o_aload_n (pc := 38) dX9_move_38 rfl 0 rfl ?_
          refine o_getA (pc := 39) fd_RX9_61 ft_1000_25 j_1000 dX9_move_39 ?_
          refine o_iload_n (pc := 42) dX9_move_42 rfl 1 rfl ?_
          obtain ⟨hg, h⟩ := oH_G h
          refine o_iald (pc := 43) kd_1026 j_1026 hg dX9_move_43 ?_
          have h := oH_bind h
          refine o_callVi (pc := 44) (st := []) [oi za2, oi (zz3.2.1 1026 0 (Int32.toNatClampNeg za1))] hR md_X9_hasRoom wd_1170 wd_1172 ws_33 tc_1000 j_1000 rfl (Nat.le_of_ble_eq_true rfl) rfl dX9_move_44 (s_X9_hasRoom e (by omega)  h) (fun zz4 h => ?_)
          refine o_if_eq 58 (pc := 47) dX9_move_47 (by decide) (fun hc => ?_) (fun hc => ?_)
          · have h := oH_T hc h
            refine o_bipush (v := -3) (pc := 58) dX9_move_58 (by decide) ?_
            exact hE _ _ _ _ dX9_move_60 (oH_some h)
          · have h := oH_F hc h
            refine o_aload_n (pc := 50) dX9_move_50 rfl 0 rfl ?_
            refine o_iload_n (pc := 51) dX9_move_51 rfl 1 rfl ?_
            have h := oH_bind h
            refine o_callVi (pc := 52) (st := []) [oi za1] hR md_X9_canGo wd_1205 wd_1207 ws_40 tc_1000 j_1000 rfl (Nat.le_of_ble_eq_true rfl) rfl dX9_move_52 (s_X9_canGo e (by omega)  h) (fun zz5 h => ?_)
            refine o_if_ne 61 (pc := 55) dX9_move_55 (by decide) (fun hc => ?_) (fun hc => ?_)
            · have h := oH_F hc h
              refine o_aload_n (pc := 61) dX9_move_61 rfl 0 rfl ?_
              refine o_getA (pc := 62) fd_RX9_64 ft_1000_26 j_1000 dX9_move_62 ?_
              refine o_iload_n (pc := 65) dX9_move_65 rfl 1 rfl ?_
              obtain ⟨hg, h⟩ := oH_G h
              refine o_iald (pc := 66) kd_1027 j_1027 hg dX9_move_66 ?_
              refine o_nmI (fun zx6 hx => ?_)
              have h := oH_let h zx6 hx
              clear hx
              refine o_istore_n (lv1 := [(0, orf 1000 0), (1, oi za1), (2, oi za2), (3, oi zx6)]) (pc := 67) dX9_move_67 rfl (by decide) rfl ?_
              refine o_aload_n (pc := 68) dX9_move_68 rfl 0 rfl ?_
              refine o_getA (pc := 69) fd_RX9_64 ft_1000_26 j_1000 dX9_move_69 ?_
              refine o_iload_n (pc := 72) dX9_move_72 rfl 1 rfl ?_
              refine o_iload_n (pc := 73) dX9_move_73 rfl 2 rfl ?_
              obtain ⟨hg, h⟩ := oH_G h
              have hgi := hg
              refine o_iast (pc := 74) kd_1027 j_1027 hgi dX9_move_74 ?_
              refine o_nmS (fun zS7 hx => ?_)
              have h := oH_let h zS7 hx
              clear hx
              refine o_aload_n (pc := 75) dX9_move_75 rfl 0 rfl ?_
              refine o_iconst (v := 1) (pc := 76) dX9_move_76 (by decide) ?_
              refine o_putI (pc := 77) fd_RX9_222 fp_1000_12 ft_1000_12 (oBl_n (by decide)) (oBl_f (by decide)) j_1000 dX9_move_77 ?_
              refine o_nmS (fun zS8 hx => ?_)
              have h := oH_let h zS8 hx
              clear hx
              refine o_iload_n (pc := 80) dX9_move_80 rfl 3 rfl ?_
              exact hE _ _ _ _ dX9_move_81 (oH_some h)
            · have h := oH_T hc h
              refine o_bipush (v := -3) (pc := 58) dX9_move_58 (by decide) ?_
              exact hE _ _ _ _ dX9_move_60 (oH_some h)
      · have h := oH_T hc h
        refine o_bipush (v := -2) (pc := 25) dX9_move_25 (by decide) ?_
        exact hE _ _ _ _ dX9_move_27 (oH_some h)
def f_X9_note  (za1 : Int32) (za2 : Int32) (za3 : Int32) (S : oS) : Option (Int32 × oS) :=
  (f_X9_isWeek za1 S).bind fun zz1 =>
  if zz1.1 = 0 then (
  some ((-2 : Int32), zz1.2)) else (
  (f_X9_isRing za2 zz1.2).bind fun zz2 =>
  if zz2.1 = 0 then (
  some ((-2 : Int32), zz2.2)) else (
  (f_X9_in za3 (0 : Int32) (3 : Int32) zz2.2).bind fun zz3 =>
  if zz3.1 = 0 then (
  some ((-2 : Int32), zz3.2)) else (
  if oIn (((4 : Int32) * za1) + za2) 244 then (
  oLet (zz3.2.1 1046 0 (Int32.toNatClampNeg (((4 : Int32) * za1) + za2))) fun zx4 =>
  if oIn (((4 : Int32) * za1) + za2) 244 then (
  oLet (oStI zz3.2 1046 0 (Int32.toNatClampNeg (((4 : Int32) * za1) + za2)) za3) fun zS5 =>
  some (zx4, zS5)) else none) else none)))
set_option maxHeartbeats 4000000 in
theorem s_X9_note {G : oG} {r : oR} (d : Nat) (hd : 3 ≤ d) {za1 : Int32} {za2 : Int32} {za3 : Int32}  {S : oS} {P : Int32 × oS → Prop} (h : oH (f_X9_note za1 za2 za3 S) P) : oCt G r d yX9_note mX9_note [orf 1000 0, oi za1, oi za2, oi za3] S (oQi P) := by
  unfold f_X9_note at h
  refine oCt_of (by decide) rfl (Nat.le_of_ble_eq_true rfl) ?_
  intro X hG hr hE0 hR
  subst hG; subst hr
  obtain ⟨e, rfl⟩ : ∃ e, d = e + 1 := ⟨d - 1, by omega⟩
  have he : 2 ≤ e := by omega
  have hE := oEI_of hE0 rfl
  clear hE0 hd
  show oVv X mX9_note 0 [(0, orf 1000 0), (1, oi za1), (2, oi za2), (3, oi za3)] [] S
  refine o_iload_n (pc := 0) dX9_note_0 rfl 1 rfl ?_
  have h := oH_bind h
  refine o_callSi (pc := 1) (st := []) [oi za1] hR md_X9_isWeek wd_1297 wd_1298 rfl (Nat.le_of_ble_eq_true rfl) rfl dX9_note_1 (s_X9_isWeek e (by omega)  h) (fun zz1 h => ?_)
  refine o_if_eq 23 (pc := 4) dX9_note_4 (by decide) (fun hc => ?_) (fun hc => ?_)
  · have h := oH_T hc h
    refine o_bipush (v := -2) (pc := 23) dX9_note_23 (by decide) ?_
    exact hE _ _ _ _ dX9_note_25 (oH_some h)
  · have h := oH_F hc h
    refine o_iload_n (pc := 7) dX9_note_7 rfl 2 rfl ?_
    have h := oH_bind h
    refine o_callSi (pc := 8) (st := []) [oi za2] hR md_X9_isRing wd_1068 wd_1069 rfl (Nat.le_of_ble_eq_true rfl) rfl dX9_note_8 (s_X9_isRing e (by omega)  h) (fun zz2 h => ?_)
    refine o_if_eq 23 (pc := 11) dX9_note_11 (by decide) (fun hc => ?_) (fun hc => ?_)
    · have h := oH_T hc h
      refine o_bipush (v := -2) (pc := 23) dX9_note_23 (by decide) ?_
      exact hE _ _ _ _ dX9_note_25 (oH_some h)
    · have h := oH_F hc h
      refine o_iload_n (pc := 14) dX9_note_14 rfl 3 rfl ?_
      refine o_iconst (v := 0) (pc := 15) dX9_note_15 (by decide) ?_
      refine o_iconst (v := 3) (pc := 16) dX9_note_16 (by decide) ?_
      have h := oH_bind h
      refine o_callSi (pc := 17) (st := []) [oi za3, oi (0 : Int32), oi (3 : Int32)] hR md_X9_in wd_1061 wd_1062 rfl (Nat.le_of_ble_eq_true rfl) rfl dX9_note_17 (s_X9_in e (by omega)  h) (fun zz3 h => ?_)
      refine o_if_ne 26 (pc := 20) dX9_note_20 (by decide) (fun hc => ?_) (fun hc => ?_)
      · have h := oH_F hc h
        refine o_aload_n (pc := 26) dX9_note_26 rfl 0 rfl ?_
        refine o_getA (pc := 27) fd_RX9_103 ft_1000_45 j_1000 dX9_note_27 ?_
        refine o_iconst (v := 4) (pc := 30) dX9_note_30 (by decide) ?_
        refine o_iload_n (pc := 31) dX9_note_31 rfl 1 rfl ?_
        refine o_imul (pc := 32) dX9_note_32 ?_
        refine o_iload_n (pc := 33) dX9_note_33 rfl 2 rfl ?_
        refine o_iadd (pc := 34) dX9_note_34 ?_
        obtain ⟨hg, h⟩ := oH_G h
        refine o_iald (pc := 35) kd_1046 j_1046 hg dX9_note_35 ?_
        refine o_nmI (fun zx4 hx => ?_)
        have h := oH_let h zx4 hx
        clear hx
        refine o_istore (lv1 := [(0, orf 1000 0), (1, oi za1), (2, oi za2), (3, oi za3), (4, oi zx4)]) (pc := 36) dX9_note_36 (by decide) rfl ?_
        refine o_aload_n (pc := 38) dX9_note_38 rfl 0 rfl ?_
        refine o_getA (pc := 39) fd_RX9_103 ft_1000_45 j_1000 dX9_note_39 ?_
        refine o_iconst (v := 4) (pc := 42) dX9_note_42 (by decide) ?_
        refine o_iload_n (pc := 43) dX9_note_43 rfl 1 rfl ?_
        refine o_imul (pc := 44) dX9_note_44 ?_
        refine o_iload_n (pc := 45) dX9_note_45 rfl 2 rfl ?_
        refine o_iadd (pc := 46) dX9_note_46 ?_
        refine o_iload_n (pc := 47) dX9_note_47 rfl 3 rfl ?_
        obtain ⟨hg, h⟩ := oH_G h
        have hgi := hg
        refine o_iast (pc := 48) kd_1046 j_1046 hgi dX9_note_48 ?_
        refine o_nmS (fun zS5 hx => ?_)
        have h := oH_let h zS5 hx
        clear hx
        refine o_iload (pc := 49) dX9_note_49 4 rfl ?_
        exact hE _ _ _ _ dX9_note_51 (oH_some h)
      · have h := oH_T hc h
        refine o_bipush (v := -2) (pc := 23) dX9_note_23 (by decide) ?_
        exact hE _ _ _ _ dX9_note_25 (oH_some h)
def f_X9_opening_K25 (zv1 : Int32) (zs0 : Int32) (zs1 : Int32) (S : oS) : Option (Int32 × oS) :=
  (f_X9_in zs0 zs1 (40 : Int32) S).bind fun zz1 =>
  if zz1.1 = 0 then (
  some ((-2 : Int32), zz1.2)) else (
  if (zz1.2.1 1000 0 34) = (3 : Int32) then (
  some ((-4 : Int32), zz1.2)) else (
  if oIn (zz1.2.1 1000 0 34) 4 then (
  oLet (oStI zz1.2 1036 0 (Int32.toNatClampNeg (zz1.2.1 1000 0 34)) zv1) fun zS2 =>
  oLet (oStI zS2 1000 0 34 ((zS2.1 1000 0 34) + (1 : Int32))) fun zS3 =>
  some (zS3.1 1000 0 34, zS3)) else none))
set_option maxHeartbeats 4000000 in
theorem s_X9_opening_K25 {X : oX} {e : Nat} (he : 1 ≤ e) (hR : oRoom X (e + 1)) {zv1 : Int32} {zs0 : Int32} {zs1 : Int32} {P : Int32 × oS → Prop} (hE : oEI X mX9_opening P) {S : oS} (h : oH (f_X9_opening_K25 zv1 zs0 zs1 S) P) : oVv X mX9_opening 25 [(0, orf 1000 0), (1, oi zv1)] [oi zs1, oi zs0] S := by
  unfold f_X9_opening_K25 at h
  refine o_bipush (v := 40) (pc := 25) dX9_opening_25 (by decide) ?_
  have h := oH_bind h
  refine o_callSi (pc := 27) (st := []) [oi zs0, oi zs1, oi (40 : Int32)] hR md_X9_in wd_1061 wd_1062 rfl (Nat.le_of_ble_eq_true rfl) rfl dX9_opening_27 (s_X9_in e (by omega)  h) (fun zz1 h => ?_)
  refine o_if_ne 36 (pc := 30) dX9_opening_30 (by decide) (fun hc => ?_) (fun hc => ?_)
  · have h := oH_F hc h
    refine o_aload_n (pc := 36) dX9_opening_36 rfl 0 rfl ?_
    refine o_getI (pc := 37) fd_RX9_303 ft_1000_34 j_1000 dX9_opening_37 ?_
    refine o_iconst (v := 3) (pc := 40) dX9_opening_40 (by decide) ?_
    refine o_icmp_ne 47 (pc := 41) dX9_opening_41 (by decide) (fun hc => ?_) (fun hc => ?_)
    · have h := oH_F hc h
      refine o_aload_n (pc := 47) dX9_opening_47 rfl 0 rfl ?_
      refine o_getA (pc := 48) fd_RX9_82 ft_1000_35 j_1000 dX9_opening_48 ?_
      refine o_aload_n (pc := 51) dX9_opening_51 rfl 0 rfl ?_
      refine o_getI (pc := 52) fd_RX9_303 ft_1000_34 j_1000 dX9_opening_52 ?_
      refine o_iload_n (pc := 55) dX9_opening_55 rfl 1 rfl ?_
      obtain ⟨hg, h⟩ := oH_G h
      have hgi := hg
      refine o_iast (pc := 56) kd_1036 j_1036 hgi dX9_opening_56 ?_
      refine o_nmS (fun zS2 hx => ?_)
      have h := oH_let h zS2 hx
      clear hx
      refine o_aload_n (pc := 57) dX9_opening_57 rfl 0 rfl ?_
      refine o_dup (pc := 58) dX9_opening_58 rfl ?_
      refine o_getI (pc := 59) fd_RX9_303 ft_1000_34 j_1000 dX9_opening_59 ?_
      refine o_iconst (v := 1) (pc := 62) dX9_opening_62 (by decide) ?_
      refine o_iadd (pc := 63) dX9_opening_63 ?_
      refine o_putI (pc := 64) fd_RX9_303 fp_1000_34 ft_1000_34 rfl rfl j_1000 dX9_opening_64 ?_
      refine o_nmS (fun zS3 hx => ?_)
      have h := oH_let h zS3 hx
      clear hx
      refine o_aload_n (pc := 67) dX9_opening_67 rfl 0 rfl ?_
      refine o_getI (pc := 68) fd_RX9_303 ft_1000_34 j_1000 dX9_opening_68 ?_
      exact hE _ _ _ _ dX9_opening_71 (oH_some h)
    · have h := oH_T hc h
      refine o_bipush (v := -4) (pc := 44) dX9_opening_44 (by decide) ?_
      exact hE _ _ _ _ dX9_opening_46 (oH_some h)
  · have h := oH_T hc h
    refine o_bipush (v := -2) (pc := 33) dX9_opening_33 (by decide) ?_
    exact hE _ _ _ _ dX9_opening_35 (oH_some h)
def f_X9_opening  (za1 : Int32) (S : oS) : Option (Int32 × oS) :=
  if (S.1 1000 0 34) = 0 then (
  f_X9_opening_K25 za1 za1 (0 : Int32) S) else (
  if oIn ((S.1 1000 0 34) - (1 : Int32)) 4 then (
  f_X9_opening_K25 za1 za1 ((S.1 1036 0 (Int32.toNatClampNeg ((S.1 1000 0 34) - (1 : Int32)))) + (1 : Int32)) S) else none)
set_option maxHeartbeats 4000000 in
theorem s_X9_opening {G : oG} {r : oR} (d : Nat) (hd : 2 ≤ d) {za1 : Int32}  {S : oS} {P : Int32 × oS → Prop} (h : oH (f_X9_opening za1 S) P) : oCt G r d yX9_opening mX9_opening [orf 1000 0, oi za1] S (oQi P) := by
  unfold f_X9_opening at h
  refine oCt_of (by decide) rfl (Nat.le_of_ble_eq_true rfl) ?_
  intro X hG hr hE0 hR
  subst hG; subst hr
  obtain ⟨e, rfl⟩ : ∃ e, d = e + 1 := ⟨d - 1, by omega⟩
  have he : 1 ≤ e := by omega
  have hE := oEI_of hE0 rfl
  clear hE0 hd
  show oVv X mX9_opening 0 [(0, orf 1000 0), (1, oi za1)] [] S
  refine o_iload_n (pc := 0) dX9_opening_0 rfl 1 rfl ?_
  refine o_aload_n (pc := 1) dX9_opening_1 rfl 0 rfl ?_
  refine o_getI (pc := 2) fd_RX9_303 ft_1000_34 j_1000 dX9_opening_2 ?_
  refine o_if_ne 12 (pc := 5) dX9_opening_5 (by decide) (fun hc => ?_) (fun hc => ?_)
  · have h := oH_F hc h
    refine o_aload_n (pc := 12) dX9_opening_12 rfl 0 rfl ?_
    refine o_getA (pc := 13) fd_RX9_82 ft_1000_35 j_1000 dX9_opening_13 ?_
    refine o_aload_n (pc := 16) dX9_opening_16 rfl 0 rfl ?_
    refine o_getI (pc := 17) fd_RX9_303 ft_1000_34 j_1000 dX9_opening_17 ?_
    refine o_iconst (v := 1) (pc := 20) dX9_opening_20 (by decide) ?_
    refine o_isub (pc := 21) dX9_opening_21 ?_
    obtain ⟨hg, h⟩ := oH_G h
    refine o_iald (pc := 22) kd_1036 j_1036 hg dX9_opening_22 ?_
    refine o_iconst (v := 1) (pc := 23) dX9_opening_23 (by decide) ?_
    refine o_iadd (pc := 24) dX9_opening_24 ?_
    exact s_X9_opening_K25 he hR  hE h
  · have h := oH_T hc h
    refine o_iconst (v := 0) (pc := 8) dX9_opening_8 (by decide) ?_
    refine o_goto 25 (pc := 9) dX9_opening_9 (by decide) ?_
    exact s_X9_opening_K25 he hR  hE h
def f_X9_order  (za1 : Int32) (S : oS) : Option (Int32 × oS) :=
  (f_X9_isKind za1 S).bind fun zz1 =>
  if zz1.1 = 0 then (
  some ((-2 : Int32), zz1.2)) else (
  if (zz1.2.1 1000 0 32) = (4 : Int32) then (
  some ((-4 : Int32), zz1.2)) else (
  if oIn (zz1.2.1 1000 0 32) 4 then (
  oLet (oStI zz1.2 1034 0 (Int32.toNatClampNeg (zz1.2.1 1000 0 32)) za1) fun zS2 =>
  oLet (oStI zS2 1000 0 32 ((zS2.1 1000 0 32) + (1 : Int32))) fun zS3 =>
  some (((zS3.1 1000 0 32) - (1 : Int32)), zS3)) else none))
set_option maxHeartbeats 4000000 in
theorem s_X9_order {G : oG} {r : oR} (d : Nat) (hd : 3 ≤ d) {za1 : Int32}  {S : oS} {P : Int32 × oS → Prop} (h : oH (f_X9_order za1 S) P) : oCt G r d yX9_order mX9_order [orf 1000 0, oi za1] S (oQi P) := by
  unfold f_X9_order at h
  refine oCt_of (by decide) rfl (Nat.le_of_ble_eq_true rfl) ?_
  intro X hG hr hE0 hR
  subst hG; subst hr
  obtain ⟨e, rfl⟩ : ∃ e, d = e + 1 := ⟨d - 1, by omega⟩
  have he : 2 ≤ e := by omega
  have hE := oEI_of hE0 rfl
  clear hE0 hd
  show oVv X mX9_order 0 [(0, orf 1000 0), (1, oi za1)] [] S
  refine o_aload_n (pc := 0) dX9_order_0 rfl 0 rfl ?_
  refine o_iload_n (pc := 1) dX9_order_1 rfl 1 rfl ?_
  have h := oH_bind h
  refine o_callVi (pc := 2) (st := []) [oi za1] hR md_X9_isKind wd_1162 wd_1164 ws_32 tc_1000 j_1000 rfl (Nat.le_of_ble_eq_true rfl) rfl dX9_order_2 (s_X9_isKind e (by omega)  h) (fun zz1 h => ?_)
  refine o_if_ne 11 (pc := 5) dX9_order_5 (by decide) (fun hc => ?_) (fun hc => ?_)
  · have h := oH_F hc h
    refine o_aload_n (pc := 11) dX9_order_11 rfl 0 rfl ?_
    refine o_getI (pc := 12) fd_RX9_300 ft_1000_32 j_1000 dX9_order_12 ?_
    refine o_iconst (v := 4) (pc := 15) dX9_order_15 (by decide) ?_
    refine o_icmp_ne 22 (pc := 16) dX9_order_16 (by decide) (fun hc => ?_) (fun hc => ?_)
    · have h := oH_F hc h
      refine o_aload_n (pc := 22) dX9_order_22 rfl 0 rfl ?_
      refine o_getA (pc := 23) fd_RX9_79 ft_1000_33 j_1000 dX9_order_23 ?_
      refine o_aload_n (pc := 26) dX9_order_26 rfl 0 rfl ?_
      refine o_getI (pc := 27) fd_RX9_300 ft_1000_32 j_1000 dX9_order_27 ?_
      refine o_iload_n (pc := 30) dX9_order_30 rfl 1 rfl ?_
      obtain ⟨hg, h⟩ := oH_G h
      have hgi := hg
      refine o_iast (pc := 31) kd_1034 j_1034 hgi dX9_order_31 ?_
      refine o_nmS (fun zS2 hx => ?_)
      have h := oH_let h zS2 hx
      clear hx
      refine o_aload_n (pc := 32) dX9_order_32 rfl 0 rfl ?_
      refine o_dup (pc := 33) dX9_order_33 rfl ?_
      refine o_getI (pc := 34) fd_RX9_300 ft_1000_32 j_1000 dX9_order_34 ?_
      refine o_iconst (v := 1) (pc := 37) dX9_order_37 (by decide) ?_
      refine o_iadd (pc := 38) dX9_order_38 ?_
      refine o_putI (pc := 39) fd_RX9_300 fp_1000_32 ft_1000_32 rfl rfl j_1000 dX9_order_39 ?_
      refine o_nmS (fun zS3 hx => ?_)
      have h := oH_let h zS3 hx
      clear hx
      refine o_aload_n (pc := 42) dX9_order_42 rfl 0 rfl ?_
      refine o_getI (pc := 43) fd_RX9_300 ft_1000_32 j_1000 dX9_order_43 ?_
      refine o_iconst (v := 1) (pc := 46) dX9_order_46 (by decide) ?_
      refine o_isub (pc := 47) dX9_order_47 ?_
      exact hE _ _ _ _ dX9_order_48 (oH_some h)
    · have h := oH_T hc h
      refine o_bipush (v := -4) (pc := 19) dX9_order_19 (by decide) ?_
      exact hE _ _ _ _ dX9_order_21 (oH_some h)
  · have h := oH_T hc h
    refine o_bipush (v := -2) (pc := 8) dX9_order_8 (by decide) ?_
    exact hE _ _ _ _ dX9_order_10 (oH_some h)
def f_X9_plan   (S : oS) : Option (Int32 × oS) :=
  (f_X9_inside S).bind fun zz1 =>
  if zz1.1 ≤ 0 then (
  (f_X9_findPlan zz1.2).bind fun zz2 =>
  some (zz2.1, zz2.2)) else (
  some ((-3 : Int32), zz1.2))
set_option maxHeartbeats 4000000 in
theorem s_X9_plan {G : oG} {r : oR} (d : Nat) (hd : 7 ≤ d)   {S : oS} {P : Int32 × oS → Prop} (h : oH (f_X9_plan  S) P) : oCt G r d yX9_plan mX9_plan [orf 1000 0] S (oQi P) := by
  unfold f_X9_plan at h
  refine oCt_of (by decide) rfl (Nat.le_of_ble_eq_true rfl) ?_
  intro X hG hr hE0 hR
  subst hG; subst hr
  obtain ⟨e, rfl⟩ : ∃ e, d = e + 1 := ⟨d - 1, by omega⟩
  have he : 6 ≤ e := by omega
  have hE := oEI_of hE0 rfl
  clear hE0 hd
  show oVv X mX9_plan 0 [(0, orf 1000 0)] [] S
  refine o_aload_n (pc := 0) dX9_plan_0 rfl 0 rfl ?_
  have h := oH_bind h
  refine o_callVi (pc := 1) (st := []) [] hR md_X9_inside wd_1193 wd_1195 ws_38 tc_1000 j_1000 rfl (Nat.le_of_ble_eq_true rfl) rfl dX9_plan_1 (s_X9_inside e (by omega)  h) (fun zz1 h => ?_)
  refine o_if_le 12 (pc := 4) dX9_plan_4 (by decide) (fun hc => ?_) (fun hc => ?_)
  · have h := oH_T hc h
    refine o_aload_n (pc := 12) dX9_plan_12 rfl 0 rfl ?_
    have h := oH_bind h
    refine o_callVi (pc := 13) (st := []) [] hR md_X9_findPlan wd_1241 wd_1243 ws_42 tc_1000 j_1000 rfl (Nat.le_of_ble_eq_true rfl) rfl dX9_plan_13 (s_X9_findPlan e (by omega)  h) (fun zz2 h => ?_)
    exact hE _ _ _ _ dX9_plan_16 (oH_some h)
  · have h := oH_F hc h
    refine o_bipush (v := -3) (pc := 7) dX9_plan_7 (by decide) ?_
    refine o_goto 16 (pc := 9) dX9_plan_9 (by decide) ?_
    exact hE _ _ _ _ dX9_plan_16 (oH_some h)
def f_X9_planned_K104 (zs1 : Int32) (S : oS) : Option (Int32 × oS) :=
  if oIn zs1 4 then (
  some (S.1 1036 0 (Int32.toNatClampNeg zs1), S)) else none
set_option maxHeartbeats 4000000 in
theorem s_X9_planned_K104 {X : oX} {e : Nat} (he : 6 ≤ e) (hR : oRoom X (e + 1)) {zs1 : Int32} {P : Int32 × oS → Prop} (hE : oEI X mX9_planned P) {S : oS} (h : oH (f_X9_planned_K104 zs1 S) P) : oVv X mX9_planned 104 [] [oi zs1, orf 1036 0] S := by
  unfold f_X9_planned_K104 at h
  obtain ⟨hg, h⟩ := oH_G h
  refine o_iald (pc := 104) kd_1036 j_1036 hg dX9_planned_104 ?_
  exact hE _ _ _ _ dX9_planned_105 (oH_some h)
def f_X9_planned  (za1 : Int32) (za2 : Int32) (S : oS) : Option (Int32 × oS) :=
  (f_X9_in za1 (0 : Int32) ((S.1 1000 0 32) - (1 : Int32)) S).bind fun zz1 =>
  if zz1.1 = 0 then (
  some ((-2 : Int32), zz1.2)) else (
  (f_X9_in za2 (0 : Int32) (2 : Int32) zz1.2).bind fun zz2 =>
  if zz2.1 = 0 then (
  some ((-2 : Int32), zz2.2)) else (
  (f_X9_inside zz2.2).bind fun zz3 =>
  if zz3.1 ≤ 0 then (
  (f_X9_findPlan zz3.2).bind fun zz4 =>
  (f_X9_layGiven (zz4.2.1 1000 0 63) zz4.2).bind fun zz5 =>
  if oIn za1 4 then (
  oLet (zz5.2.1 1063 0 (Int32.toNatClampNeg za1)) fun zx6 =>
  if zx6 = (zz5.2.1 1000 0 57) then (
  some ((-1 : Int32), zz5.2)) else (
  if za2 = 0 then (
  if oIn zx6 13 then (
  some (zz5.2.1 1061 0 (Int32.toNatClampNeg zx6), zz5.2)) else none) else (
  if za2 = (1 : Int32) then (
  if oIn zx6 13 then (
  f_X9_planned_K104 (zz5.2.1 1059 0 (Int32.toNatClampNeg zx6)) zz5.2) else none) else (
  if oIn zx6 13 then (
  f_X9_planned_K104 (zz5.2.1 1060 0 (Int32.toNatClampNeg zx6)) zz5.2) else none)))) else none) else (
  some ((-3 : Int32), zz3.2))))
set_option maxHeartbeats 4000000 in
theorem s_X9_planned {G : oG} {r : oR} (d : Nat) (hd : 7 ≤ d) {za1 : Int32} {za2 : Int32}  {S : oS} {P : Int32 × oS → Prop} (h : oH (f_X9_planned za1 za2 S) P) : oCt G r d yX9_planned mX9_planned [orf 1000 0, oi za1, oi za2] S (oQi P) := by
  unfold f_X9_planned at h
  refine oCt_of (by decide) rfl (Nat.le_of_ble_eq_true rfl) ?_
  intro X hG hr hE0 hR
  subst hG; subst hr
  obtain ⟨e, rfl⟩ : ∃ e, d = e + 1 := ⟨d - 1, by omega⟩
  have he : 6 ≤ e := by omega
  have hE := oEI_of hE0 rfl
  clear hE0 hd
  show oVv X mX9_planned 0 [(0, orf 1000 0), (1, oi za1), (2, oi za2)] [] S
  refine o_iload_n (pc := 0) dX9_planned_0 rfl 1 rfl ?_
  refine o_iconst (v := 0) (pc := 1) dX9_planned_1 (by decide) ?_
  refine o_aload_n (pc := 2) dX9_planned_2 rfl 0 rfl ?_
  refine o_getI (pc := 3) fd_RX9_300 ft_1000_32 j_1000 dX9_planned_3 ?_
  refine o_iconst (v := 1) (pc := 6) dX9_planned_6 (by decide) ?_
  refine o_isub (pc := 7) dX9_planned_7 ?_
  have h := oH_bind h
  refine o_callSi (pc := 8) (st := []) [oi za1, oi (0 : Int32), oi ((S.1 1000 0 32) - (1 : Int32))] hR md_X9_in wd_1061 wd_1062 rfl (Nat.le_of_ble_eq_true rfl) rfl dX9_planned_8 (s_X9_in e (by omega)  h) (fun zz1 h => ?_)
  refine o_if_eq 23 (pc := 11) dX9_planned_11 (by decide) (fun hc => ?_) (fun hc => ?_)
  · have h := oH_T hc h
    refine o_bipush (v := -2) (pc := 23) dX9_planned_23 (by decide) ?_
    exact hE _ _ _ _ dX9_planned_25 (oH_some h)
  · have h := oH_F hc h
    refine o_iload_n (pc := 14) dX9_planned_14 rfl 2 rfl ?_
    refine o_iconst (v := 0) (pc := 15) dX9_planned_15 (by decide) ?_
    refine o_iconst (v := 2) (pc := 16) dX9_planned_16 (by decide) ?_
    have h := oH_bind h
    refine o_callSi (pc := 17) (st := []) [oi za2, oi (0 : Int32), oi (2 : Int32)] hR md_X9_in wd_1061 wd_1062 rfl (Nat.le_of_ble_eq_true rfl) rfl dX9_planned_17 (s_X9_in e (by omega)  h) (fun zz2 h => ?_)
    refine o_if_ne 26 (pc := 20) dX9_planned_20 (by decide) (fun hc => ?_) (fun hc => ?_)
    · have h := oH_F hc h
      refine o_aload_n (pc := 26) dX9_planned_26 rfl 0 rfl ?_
      have h := oH_bind h
      refine o_callVi (pc := 27) (st := []) [] hR md_X9_inside wd_1193 wd_1195 ws_38 tc_1000 j_1000 rfl (Nat.le_of_ble_eq_true rfl) rfl dX9_planned_27 (s_X9_inside e (by omega)  h) (fun zz3 h => ?_)
      refine o_if_le 36 (pc := 30) dX9_planned_30 (by decide) (fun hc => ?_) (fun hc => ?_)
      · have h := oH_T hc h
        refine o_aload_n (pc := 36) dX9_planned_36 rfl 0 rfl ?_
        have h := oH_bind h
        refine o_callVi (pc := 37) (st := []) [] hR md_X9_findPlan wd_1241 wd_1243 ws_42 tc_1000 j_1000 rfl (Nat.le_of_ble_eq_true rfl) rfl dX9_planned_37 (s_X9_findPlan e (by omega)  h) (fun zz4 h => ?_)
        refine o_pop (pc := 40) dX9_planned_40 rfl ?_
        refine o_aload_n (pc := 41) dX9_planned_41 rfl 0 rfl ?_
        refine o_aload_n (pc := 42) dX9_planned_42 rfl 0 rfl ?_
        refine o_getI (pc := 43) fd_RX9_331 ft_1000_63 j_1000 dX9_planned_43 ?_
        have h := oH_bind h
        refine o_callVi (pc := 46) (st := []) [oi (zz4.2.1 1000 0 63)] hR md_X9_layGiven wd_1261 wd_1263 ws_47 tc_1000 j_1000 rfl (Nat.le_of_ble_eq_true rfl) rfl dX9_planned_46 (s_X9_layGiven e (by omega)  h) (fun zz5 h => ?_)
        refine o_pop (pc := 49) dX9_planned_49 rfl ?_
        refine o_aload_n (pc := 50) dX9_planned_50 rfl 0 rfl ?_
        refine o_getA (pc := 51) fd_RX9_136 ft_1000_62 j_1000 dX9_planned_51 ?_
        refine o_iload_n (pc := 54) dX9_planned_54 rfl 1 rfl ?_
        obtain ⟨hg, h⟩ := oH_G h
        refine o_iald (pc := 55) kd_1063 j_1063 hg dX9_planned_55 ?_
        refine o_nmI (fun zx6 hx => ?_)
        have h := oH_let h zx6 hx
        clear hx
        refine o_istore_n (lv1 := [(0, orf 1000 0), (1, oi za1), (2, oi za2), (3, oi zx6)]) (pc := 56) dX9_planned_56 rfl (by decide) rfl ?_
        refine o_iload_n (pc := 57) dX9_planned_57 rfl 3 rfl ?_
        refine o_aload_n (pc := 58) dX9_planned_58 rfl 0 rfl ?_
        refine o_getI (pc := 59) fd_RX9_312 ft_1000_57 j_1000 dX9_planned_59 ?_
        refine o_icmp_ne 67 (pc := 62) dX9_planned_62 (by decide) (fun hc => ?_) (fun hc => ?_)
        · have h := oH_F hc h
          refine o_iload_n (pc := 67) dX9_planned_67 rfl 2 rfl ?_
          refine o_if_ne 80 (pc := 68) dX9_planned_68 (by decide) (fun hc => ?_) (fun hc => ?_)
          · have h := oH_F hc h
            refine o_aload_n (pc := 80) dX9_planned_80 rfl 0 rfl ?_
            refine o_getA (pc := 81) fd_RX9_82 ft_1000_35 j_1000 dX9_planned_81 ?_
            refine o_iload_n (pc := 84) dX9_planned_84 rfl 2 rfl ?_
            refine o_iconst (v := 1) (pc := 85) dX9_planned_85 (by decide) ?_
            refine o_icmp_ne 98 (pc := 86) dX9_planned_86 (by decide) (fun hc => ?_) (fun hc => ?_)
            · have h := oH_F hc h
              refine o_aload_n (pc := 98) dX9_planned_98 rfl 0 rfl ?_
              refine o_getA (pc := 99) fd_RX9_127 ft_1000_59 j_1000 dX9_planned_99 ?_
              refine o_iload_n (pc := 102) dX9_planned_102 rfl 3 rfl ?_
              obtain ⟨hg, h⟩ := oH_G h
              refine o_iald (pc := 103) kd_1060 j_1060 hg dX9_planned_103 ?_
              refine o_weak [] rfl ?_
              exact s_X9_planned_K104 he hR  hE h
            · have h := oH_T hc h
              refine o_aload_n (pc := 89) dX9_planned_89 rfl 0 rfl ?_
              refine o_getA (pc := 90) fd_RX9_124 ft_1000_58 j_1000 dX9_planned_90 ?_
              refine o_iload_n (pc := 93) dX9_planned_93 rfl 3 rfl ?_
              obtain ⟨hg, h⟩ := oH_G h
              refine o_iald (pc := 94) kd_1059 j_1059 hg dX9_planned_94 ?_
              refine o_goto 104 (pc := 95) dX9_planned_95 (by decide) ?_
              refine o_weak [] rfl ?_
              exact s_X9_planned_K104 he hR  hE h
          · have h := oH_T hc h
            refine o_aload_n (pc := 71) dX9_planned_71 rfl 0 rfl ?_
            refine o_getA (pc := 72) fd_RX9_130 ft_1000_60 j_1000 dX9_planned_72 ?_
            refine o_iload_n (pc := 75) dX9_planned_75 rfl 3 rfl ?_
            obtain ⟨hg, h⟩ := oH_G h
            refine o_iald (pc := 76) kd_1061 j_1061 hg dX9_planned_76 ?_
            refine o_goto 105 (pc := 77) dX9_planned_77 (by decide) ?_
            exact hE _ _ _ _ dX9_planned_105 (oH_some h)
        · have h := oH_T hc h
          refine o_iconst (v := -1) (pc := 65) dX9_planned_65 (by decide) ?_
          exact hE _ _ _ _ dX9_planned_66 (oH_some h)
      · have h := oH_F hc h
        refine o_bipush (v := -3) (pc := 33) dX9_planned_33 (by decide) ?_
        exact hE _ _ _ _ dX9_planned_35 (oH_some h)
    · have h := oH_T hc h
      refine o_bipush (v := -2) (pc := 23) dX9_planned_23 (by decide) ?_
      exact hE _ _ _ _ dX9_planned_25 (oH_some h)
def f_X9_put  (za1 : Int32) (za2 : Int32) (S : oS) : Option (Int32 × oS) :=
  (f_X9_isKind za1 S).bind fun zz1 =>
  if zz1.1 = 0 then (
  some ((-2 : Int32), zz1.2)) else (
  (f_X9_isRing za2 zz1.2).bind fun zz2 =>
  if zz2.1 = 0 then (
  some ((-2 : Int32), zz2.2)) else (
  (f_X9_hasRoom za2 za1 zz2.2).bind fun zz3 =>
  if zz3.1 = 0 then (
  some ((-3 : Int32), zz3.2)) else (
  (f_X9_inside zz3.2).bind fun zz4 =>
  if zz4.1 = (12 : Int32) then (
  some ((-4 : Int32), zz4.2)) else (
  if (zz4.2.1 1000 0 24) = (200 : Int32) then (
  some ((-4 : Int32), zz4.2)) else (
  if oIn (zz4.2.1 1000 0 24) 200 then (
  oLet (oStI zz4.2 1026 0 (Int32.toNatClampNeg (zz4.2.1 1000 0 24)) za1) fun zS5 =>
  if oIn (zS5.1 1000 0 24) 200 then (
  oLet (oStI zS5 1027 0 (Int32.toNatClampNeg (zS5.1 1000 0 24)) za2) fun zS6 =>
  oLet (oStI zS6 1000 0 24 ((zS6.1 1000 0 24) + (1 : Int32))) fun zS7 =>
  oLet (oStI zS7 1000 0 12 (1 : Int32)) fun zS8 =>
  some (((zS8.1 1000 0 24) - (1 : Int32)), zS8)) else none) else none)))))
set_option maxHeartbeats 4000000 in
theorem s_X9_put {G : oG} {r : oR} (d : Nat) (hd : 4 ≤ d) {za1 : Int32} {za2 : Int32}  {S : oS} {P : Int32 × oS → Prop} (h : oH (f_X9_put za1 za2 S) P) : oCt G r d yX9_put mX9_put [orf 1000 0, oi za1, oi za2] S (oQi P) := by
  unfold f_X9_put at h
  refine oCt_of (by decide) rfl (Nat.le_of_ble_eq_true rfl) ?_
  intro X hG hr hE0 hR
  subst hG; subst hr
  obtain ⟨e, rfl⟩ : ∃ e, d = e + 1 := ⟨d - 1, by omega⟩
  have he : 3 ≤ e := by omega
  have hE := oEI_of hE0 rfl
  clear hE0 hd
  show oVv X mX9_put 0 [(0, orf 1000 0), (1, oi za1), (2, oi za2)] [] S
  refine o_aload_n (pc := 0) dX9_put_0 rfl 0 rfl ?_
  refine o_iload_n (pc := 1) dX9_put_1 rfl 1 rfl ?_
  have h := oH_bind h
  refine o_callVi (pc := 2) (st := []) [oi za1] hR md_X9_isKind wd_1162 wd_1164 ws_32 tc_1000 j_1000 rfl (Nat.le_of_ble_eq_true rfl) rfl dX9_put_2 (s_X9_isKind e (by omega)  h) (fun zz1 h => ?_)
  refine o_if_eq 15 (pc := 5) dX9_put_5 (by decide) (fun hc => ?_) (fun hc => ?_)
  · have h := oH_T hc h
    refine o_bipush (v := -2) (pc := 15) dX9_put_15 (by decide) ?_
    exact hE _ _ _ _ dX9_put_17 (oH_some h)
  · have h := oH_F hc h
    refine o_iload_n (pc := 8) dX9_put_8 rfl 2 rfl ?_
    have h := oH_bind h
    refine o_callSi (pc := 9) (st := []) [oi za2] hR md_X9_isRing wd_1068 wd_1069 rfl (Nat.le_of_ble_eq_true rfl) rfl dX9_put_9 (s_X9_isRing e (by omega)  h) (fun zz2 h => ?_)
    refine o_if_ne 18 (pc := 12) dX9_put_12 (by decide) (fun hc => ?_) (fun hc => ?_)
    · have h := oH_F hc h
      refine o_aload_n (pc := 18) dX9_put_18 rfl 0 rfl ?_
      refine o_iload_n (pc := 19) dX9_put_19 rfl 2 rfl ?_
      refine o_iload_n (pc := 20) dX9_put_20 rfl 1 rfl ?_
      have h := oH_bind h
      refine o_callVi (pc := 21) (st := []) [oi za2, oi za1] hR md_X9_hasRoom wd_1170 wd_1172 ws_33 tc_1000 j_1000 rfl (Nat.le_of_ble_eq_true rfl) rfl dX9_put_21 (s_X9_hasRoom e (by omega)  h) (fun zz3 h => ?_)
      refine o_if_ne 30 (pc := 24) dX9_put_24 (by decide) (fun hc => ?_) (fun hc => ?_)
      · have h := oH_F hc h
        refine o_aload_n (pc := 30) dX9_put_30 rfl 0 rfl ?_
        have h := oH_bind h
        refine o_callVi (pc := 31) (st := []) [] hR md_X9_inside wd_1193 wd_1195 ws_38 tc_1000 j_1000 rfl (Nat.le_of_ble_eq_true rfl) rfl dX9_put_31 (s_X9_inside e (by omega)  h) (fun zz4 h => ?_)
        refine o_bipush (v := 12) (pc := 34) dX9_put_34 (by decide) ?_
        refine o_icmp_eq 49 (pc := 36) dX9_put_36 (by decide) (fun hc => ?_) (fun hc => ?_)
        · have h := oH_T hc h
          refine o_bipush (v := -4) (pc := 49) dX9_put_49 (by decide) ?_
          exact hE _ _ _ _ dX9_put_51 (oH_some h)
        · have h := oH_F hc h
          refine o_aload_n (pc := 39) dX9_put_39 rfl 0 rfl ?_
          refine o_getI (pc := 40) fd_RX9_193 ft_1000_24 j_1000 dX9_put_40 ?_
          refine o_sipush (v := 200) (pc := 43) dX9_put_43 (by decide) ?_
          refine o_icmp_ne 52 (pc := 46) dX9_put_46 (by decide) (fun hc => ?_) (fun hc => ?_)
          · have h := oH_F hc h
            refine o_aload_n (pc := 52) dX9_put_52 rfl 0 rfl ?_
            refine o_getA (pc := 53) fd_RX9_61 ft_1000_25 j_1000 dX9_put_53 ?_
            refine o_aload_n (pc := 56) dX9_put_56 rfl 0 rfl ?_
            refine o_getI (pc := 57) fd_RX9_193 ft_1000_24 j_1000 dX9_put_57 ?_
            refine o_iload_n (pc := 60) dX9_put_60 rfl 1 rfl ?_
            obtain ⟨hg, h⟩ := oH_G h
            have hgi := hg
            refine o_iast (pc := 61) kd_1026 j_1026 hgi dX9_put_61 ?_
            refine o_nmS (fun zS5 hx => ?_)
            have h := oH_let h zS5 hx
            clear hx
            refine o_aload_n (pc := 62) dX9_put_62 rfl 0 rfl ?_
            refine o_getA (pc := 63) fd_RX9_64 ft_1000_26 j_1000 dX9_put_63 ?_
            refine o_aload_n (pc := 66) dX9_put_66 rfl 0 rfl ?_
            refine o_getI (pc := 67) fd_RX9_193 ft_1000_24 j_1000 dX9_put_67 ?_
            refine o_iload_n (pc := 70) dX9_put_70 rfl 2 rfl ?_
            obtain ⟨hg, h⟩ := oH_G h
            have hgi := hg
            refine o_iast (pc := 71) kd_1027 j_1027 hgi dX9_put_71 ?_
            refine o_nmS (fun zS6 hx => ?_)
            have h := oH_let h zS6 hx
            clear hx
            refine o_aload_n (pc := 72) dX9_put_72 rfl 0 rfl ?_
            refine o_dup (pc := 73) dX9_put_73 rfl ?_
            refine o_getI (pc := 74) fd_RX9_193 ft_1000_24 j_1000 dX9_put_74 ?_
            refine o_iconst (v := 1) (pc := 77) dX9_put_77 (by decide) ?_
            refine o_iadd (pc := 78) dX9_put_78 ?_
            refine o_putI (pc := 79) fd_RX9_193 fp_1000_24 ft_1000_24 rfl rfl j_1000 dX9_put_79 ?_
            refine o_nmS (fun zS7 hx => ?_)
            have h := oH_let h zS7 hx
            clear hx
            refine o_aload_n (pc := 82) dX9_put_82 rfl 0 rfl ?_
            refine o_iconst (v := 1) (pc := 83) dX9_put_83 (by decide) ?_
            refine o_putI (pc := 84) fd_RX9_222 fp_1000_12 ft_1000_12 (oBl_n (by decide)) (oBl_f (by decide)) j_1000 dX9_put_84 ?_
            refine o_nmS (fun zS8 hx => ?_)
            have h := oH_let h zS8 hx
            clear hx
            refine o_aload_n (pc := 87) dX9_put_87 rfl 0 rfl ?_
            refine o_getI (pc := 88) fd_RX9_193 ft_1000_24 j_1000 dX9_put_88 ?_
            refine o_iconst (v := 1) (pc := 91) dX9_put_91 (by decide) ?_
            refine o_isub (pc := 92) dX9_put_92 ?_
            exact hE _ _ _ _ dX9_put_93 (oH_some h)
          · have h := oH_T hc h
            refine o_bipush (v := -4) (pc := 49) dX9_put_49 (by decide) ?_
            exact hE _ _ _ _ dX9_put_51 (oH_some h)
      · have h := oH_T hc h
        refine o_bipush (v := -3) (pc := 27) dX9_put_27 (by decide) ?_
        exact hE _ _ _ _ dX9_put_29 (oH_some h)
    · have h := oH_T hc h
      refine o_bipush (v := -2) (pc := 15) dX9_put_15 (by decide) ?_
      exact hE _ _ _ _ dX9_put_17 (oH_some h)
def f_X9_room  (za1 : Int32) (S : oS) : Option (Int32 × oS) :=
  (f_X9_isRing za1 S).bind fun zz1 =>
  if zz1.1 = 0 then (
  some ((-2 : Int32), zz1.2)) else (
  (f_X9_countRing za1 (-1 : Int32) zz1.2).bind fun zz2 =>
  (f_X9_roomOf za1 zz2).bind fun zz3 =>
  (f_X9_used zz3.2).bind fun zz4 =>
  some ((zz3.1 - zz4.1), zz4.2))
set_option maxHeartbeats 4000000 in
theorem s_X9_room {G : oG} {r : oR} (d : Nat) (hd : 3 ≤ d) {za1 : Int32}  {S : oS} {P : Int32 × oS → Prop} (h : oH (f_X9_room za1 S) P) : oCt G r d yX9_room mX9_room [orf 1000 0, oi za1] S (oQi P) := by
  unfold f_X9_room at h
  refine oCt_of (by decide) rfl (Nat.le_of_ble_eq_true rfl) ?_
  intro X hG hr hE0 hR
  subst hG; subst hr
  obtain ⟨e, rfl⟩ : ∃ e, d = e + 1 := ⟨d - 1, by omega⟩
  have he : 2 ≤ e := by omega
  have hE := oEI_of hE0 rfl
  clear hE0 hd
  show oVv X mX9_room 0 [(0, orf 1000 0), (1, oi za1)] [] S
  refine o_iload_n (pc := 0) dX9_room_0 rfl 1 rfl ?_
  have h := oH_bind h
  refine o_callSi (pc := 1) (st := []) [oi za1] hR md_X9_isRing wd_1068 wd_1069 rfl (Nat.le_of_ble_eq_true rfl) rfl dX9_room_1 (s_X9_isRing e (by omega)  h) (fun zz1 h => ?_)
  refine o_if_ne 10 (pc := 4) dX9_room_4 (by decide) (fun hc => ?_) (fun hc => ?_)
  · have h := oH_F hc h
    refine o_aload_n (pc := 10) dX9_room_10 rfl 0 rfl ?_
    refine o_iload_n (pc := 11) dX9_room_11 rfl 1 rfl ?_
    refine o_iconst (v := -1) (pc := 12) dX9_room_12 (by decide) ?_
    have h := oH_bind h
    refine o_callVv (pc := 13) (st := []) [oi za1, oi (-1 : Int32)] hR md_X9_countRing wd_1174 wd_1176 ws_34 tc_1000 j_1000 rfl (Nat.le_of_ble_eq_true rfl) rfl dX9_room_13 (s_X9_countRing e (by omega)  h) (fun zz2 h => ?_)
    refine o_iload_n (pc := 16) dX9_room_16 rfl 1 rfl ?_
    have h := oH_bind h
    refine o_callSi (pc := 17) (st := []) [oi za1] hR md_X9_roomOf wd_1190 wd_1191 rfl (Nat.le_of_ble_eq_true rfl) rfl dX9_room_17 (s_X9_roomOf e (by omega)  h) (fun zz3 h => ?_)
    refine o_aload_n (pc := 20) dX9_room_20 rfl 0 rfl ?_
    have h := oH_bind h
    refine o_callVi (pc := 21) (st := [oi zz3.1]) [] hR md_X9_used wd_1186 wd_1188 ws_37 tc_1000 j_1000 rfl (Nat.le_of_ble_eq_true rfl) rfl dX9_room_21 (s_X9_used e (by omega)  h) (fun zz4 h => ?_)
    refine o_isub (pc := 24) dX9_room_24 ?_
    exact hE _ _ _ _ dX9_room_25 (oH_some h)
  · have h := oH_T hc h
    refine o_bipush (v := -2) (pc := 7) dX9_room_7 (by decide) ?_
    exact hE _ _ _ _ dX9_room_9 (oH_some h)
def f_X9_second_K75 (zv1 : Int32) (zv2 : Int32) (zv3 : Int32) (zv4 : Int32) (zv6 : Int32) (zs0 : Int32) (S : oS) : Option ((Int32 × Int32 × oS) ⊕ (Int32 × oS)) :=
  oLet (zv6 + (1 : Int32)) fun zx4 =>
  some (Sum.inl (zs0, zx4, S))
set_option maxHeartbeats 4000000 in
theorem s_X9_second_K75 {X : oX} {e : Nat} (he : 2 ≤ e) (hR : oRoom X (e + 1)) {zv1 : Int32} {zv2 : Int32} {zv3 : Int32} {zv4 : Int32} {zv6 : Int32} {zs0 : Int32} {VH : Int32 × Int32 × oS → Prop} {VE : Int32 × oS → Prop} (hVH : ∀ z, VH z → oVv X mX9_second 36 [(0, orf 1000 0), (1, oi zv1), (2, oi zv2), (3, oi zv3), (4, oi zv4), (5, oi z.1), (6, oi z.2.1)] [] z.2.2) (hVE : ∀ z, VE z → oVv X mX9_second 83 [(0, orf 1000 0), (1, oi zv1), (2, oi zv2), (3, oi zv3), (4, oi zv4), (5, oi z.1)] [] z.2) {S : oS} (h : oH (f_X9_second_K75 zv1 zv2 zv3 zv4 zv6 zs0 S) (fun z => Sum.elim VH VE z)) : oVv X mX9_second 75 [(0, orf 1000 0), (1, oi zv1), (2, oi zv2), (3, oi zv3), (4, oi zv4), (6, oi zv6)] [oi zs0] S := by
  unfold f_X9_second_K75 at h
  refine o_istore (lv1 := [(0, orf 1000 0), (1, oi zv1), (2, oi zv2), (3, oi zv3), (4, oi zv4), (5, oi zs0), (6, oi zv6)]) (pc := 75) dX9_second_75 (by decide) rfl ?_
  obtain ⟨zx4, hx⟩ : ∃ y : Int32, y = zv6 + (1 : Int32) := ⟨_, rfl⟩
  have h := oH_let h zx4 hx
  refine o_iinc (lv1 := [(0, orf 1000 0), (1, oi zv1), (2, oi zv2), (3, oi zv3), (4, oi zv4), (5, oi zs0), (6, oi zx4)]) (pc := 77) dX9_second_77 6 rfl hx.symm (by decide) rfl ?_
  clear hx
  refine o_goto 36 (pc := 80) dX9_second_80 (by decide) ?_
  exact hVH _ (oH_some (P := fun z => Sum.elim VH VE z) h)
def f_X9_second_K70 (zv1 : Int32) (zv2 : Int32) (zv3 : Int32) (zv4 : Int32) (zv6 : Int32) (S : oS) : Option ((Int32 × Int32 × oS) ⊕ (Int32 × oS)) :=
  f_X9_second_K75 zv1 zv2 zv3 zv4 zv6 (1 : Int32) S
set_option maxHeartbeats 4000000 in
theorem s_X9_second_K70 {X : oX} {e : Nat} (he : 2 ≤ e) (hR : oRoom X (e + 1)) {zv1 : Int32} {zv2 : Int32} {zv3 : Int32} {zv4 : Int32} {zv6 : Int32} {VH : Int32 × Int32 × oS → Prop} {VE : Int32 × oS → Prop} (hVH : ∀ z, VH z → oVv X mX9_second 36 [(0, orf 1000 0), (1, oi zv1), (2, oi zv2), (3, oi zv3), (4, oi zv4), (5, oi z.1), (6, oi z.2.1)] [] z.2.2) (hVE : ∀ z, VE z → oVv X mX9_second 83 [(0, orf 1000 0), (1, oi zv1), (2, oi zv2), (3, oi zv3), (4, oi zv4), (5, oi z.1)] [] z.2) {S : oS} (h : oH (f_X9_second_K70 zv1 zv2 zv3 zv4 zv6 S) (fun z => Sum.elim VH VE z)) : oVv X mX9_second 70 [(0, orf 1000 0), (1, oi zv1), (2, oi zv2), (3, oi zv3), (4, oi zv4), (6, oi zv6)] [] S := by
  unfold f_X9_second_K70 at h
  refine o_iconst (v := 1) (pc := 70) dX9_second_70 (by decide) ?_
  refine o_goto 75 (pc := 71) dX9_second_71 (by decide) ?_
  exact s_X9_second_K75 he hR  hVH hVE h
def f_X9_second_K74 (zv1 : Int32) (zv2 : Int32) (zv3 : Int32) (zv4 : Int32) (zv6 : Int32) (S : oS) : Option ((Int32 × Int32 × oS) ⊕ (Int32 × oS)) :=
  f_X9_second_K75 zv1 zv2 zv3 zv4 zv6 (0 : Int32) S
set_option maxHeartbeats 4000000 in
theorem s_X9_second_K74 {X : oX} {e : Nat} (he : 2 ≤ e) (hR : oRoom X (e + 1)) {zv1 : Int32} {zv2 : Int32} {zv3 : Int32} {zv4 : Int32} {zv6 : Int32} {VH : Int32 × Int32 × oS → Prop} {VE : Int32 × oS → Prop} (hVH : ∀ z, VH z → oVv X mX9_second 36 [(0, orf 1000 0), (1, oi zv1), (2, oi zv2), (3, oi zv3), (4, oi zv4), (5, oi z.1), (6, oi z.2.1)] [] z.2.2) (hVE : ∀ z, VE z → oVv X mX9_second 83 [(0, orf 1000 0), (1, oi zv1), (2, oi zv2), (3, oi zv3), (4, oi zv4), (5, oi z.1)] [] z.2) {S : oS} (h : oH (f_X9_second_K74 zv1 zv2 zv3 zv4 zv6 S) (fun z => Sum.elim VH VE z)) : oVv X mX9_second 74 [(0, orf 1000 0), (1, oi zv1), (2, oi zv2), (3, oi zv3), (4, oi zv4), (6, oi zv6)] [] S := by
  unfold f_X9_second_K74 at h
  refine o_iconst (v := 0) (pc := 74) dX9_second_74 (by decide) ?_
  exact s_X9_second_K75 he hR  hVH hVE h
def f_X9_second_L36 (zv1 : Int32) (zv2 : Int32) (zv3 : Int32) (zv4 : Int32) : Int32 × Int32 × oS → Option ((Int32 × Int32 × oS) ⊕ (Int32 × oS)) := fun w =>
  match w with
  | (zv5, zv6, S) =>
    if (S.1 1000 0 24) ≤ zv6 then (
    some (Sum.inr (zv5, S))) else (
    if zv5 = 0 then (
    (f_X9_isInside zv6 S).bind fun zz5 =>
    if zz5.1 = 0 then (
    f_X9_second_K74 zv1 zv2 zv3 zv4 zv6 zz5.2) else (
    if oIn zv6 200 then (
    if (zz5.2.1 1026 0 (Int32.toNatClampNeg zv6)) = zv1 then (
    f_X9_second_K70 zv1 zv2 zv3 zv4 zv6 zz5.2) else (
    f_X9_second_K74 zv1 zv2 zv3 zv4 zv6 zz5.2)) else none)) else (
    f_X9_second_K70 zv1 zv2 zv3 zv4 zv6 S))
set_option maxHeartbeats 4000000 in
theorem s_X9_second_L36b {X : oX} {e : Nat} (he : 2 ≤ e) (hR : oRoom X (e + 1)) {zv1 : Int32} {zv2 : Int32} {zv3 : Int32} {zv4 : Int32} {VH : Int32 × Int32 × oS → Prop} {VE : Int32 × oS → Prop} (hVH : ∀ z, VH z → oVv X mX9_second 36 [(0, orf 1000 0), (1, oi zv1), (2, oi zv2), (3, oi zv3), (4, oi zv4), (5, oi z.1), (6, oi z.2.1)] [] z.2.2) (hVE : ∀ z, VE z → oVv X mX9_second 83 [(0, orf 1000 0), (1, oi zv1), (2, oi zv2), (3, oi zv3), (4, oi zv4), (5, oi z.1)] [] z.2) {zv5 : Int32} {zv6 : Int32} {S : oS} (h : oH (f_X9_second_L36 zv1 zv2 zv3 zv4 (zv5, zv6, S)) (fun z => Sum.elim VH VE z)) : oVv X mX9_second 36 [(0, orf 1000 0), (1, oi zv1), (2, oi zv2), (3, oi zv3), (4, oi zv4), (5, oi zv5), (6, oi zv6)] [] S := by
  dsimp only [f_X9_second_L36] at h
  refine o_iload (pc := 36) dX9_second_36 6 rfl ?_
  refine o_aload_n (pc := 38) dX9_second_38 rfl 0 rfl ?_
  refine o_getI (pc := 39) fd_RX9_193 ft_1000_24 j_1000 dX9_second_39 ?_
  refine o_icmp_ge 83 (pc := 42) dX9_second_42 (by decide) (fun hc => ?_) (fun hc => ?_)
  · have h := oH_T hc h
    refine o_weak [0, 1, 2, 3, 4, 5] rfl ?_
    exact hVE _ (oH_some (P := fun z => Sum.elim VH VE z) h)
  · have h := oH_F hc h
    refine o_iload (pc := 45) dX9_second_45 5 rfl ?_
    refine o_if_ne 70 (pc := 47) dX9_second_47 (by decide) (fun hc => ?_) (fun hc => ?_)
    · have h := oH_F hc h
      refine o_weak [0, 1, 2, 3, 4, 6] rfl ?_
      exact s_X9_second_K70 he hR  hVH hVE h
    · have h := oH_T hc h
      refine o_aload_n (pc := 50) dX9_second_50 rfl 0 rfl ?_
      refine o_iload (pc := 51) dX9_second_51 6 rfl ?_
      have h := oH_bind h
      refine o_callVi (pc := 53) (st := []) [oi zv6] hR md_X9_isInside wd_1128 wd_1130 ws_29 tc_1000 j_1000 rfl (Nat.le_of_ble_eq_true rfl) rfl dX9_second_53 (s_X9_isInside e (by omega)  h) (fun zz5 h => ?_)
      refine o_if_eq 74 (pc := 56) dX9_second_56 (by decide) (fun hc => ?_) (fun hc => ?_)
      · have h := oH_T hc h
        refine o_weak [0, 1, 2, 3, 4, 6] rfl ?_
        exact s_X9_second_K74 he hR  hVH hVE h
      · have h := oH_F hc h
        refine o_aload_n (pc := 59) dX9_second_59 rfl 0 rfl ?_
        refine o_getA (pc := 60) fd_RX9_61 ft_1000_25 j_1000 dX9_second_60 ?_
        refine o_iload (pc := 63) dX9_second_63 6 rfl ?_
        obtain ⟨hg, h⟩ := oH_G h
        refine o_iald (pc := 65) kd_1026 j_1026 hg dX9_second_65 ?_
        refine o_iload_n (pc := 66) dX9_second_66 rfl 1 rfl ?_
        refine o_icmp_ne 74 (pc := 67) dX9_second_67 (by decide) (fun hc => ?_) (fun hc => ?_)
        · have h := oH_F hc h
          refine o_weak [0, 1, 2, 3, 4, 6] rfl ?_
          exact s_X9_second_K74 he hR  hVH hVE h
        · have h := oH_T hc h
          refine o_weak [0, 1, 2, 3, 4, 6] rfl ?_
          exact s_X9_second_K70 he hR  hVH hVE h
theorem s_X9_second_L36 {X : oX} {e : Nat} (he : 2 ≤ e) (hR : oRoom X (e + 1)) {zv1 : Int32} {zv2 : Int32} {zv3 : Int32} {zv4 : Int32}  {VE : Int32 × oS → Prop} (hVE : ∀ z, VE z → oVv X mX9_second 83 [(0, orf 1000 0), (1, oi zv1), (2, oi zv2), (3, oi zv3), (4, oi zv4), (5, oi z.1)] [] z.2) (n : Nat) (w : Int32 × Int32 × oS) (h : oH (oLp (f_X9_second_L36 zv1 zv2 zv3 zv4) n w) VE) : oVv X mX9_second 36 [(0, orf 1000 0), (1, oi zv1), (2, oi zv2), (3, oi zv3), (4, oi zv4), (5, oi w.1), (6, oi w.2.1)] [] w.2.2 :=
  oLp_s (VH := fun w => oVv X mX9_second 36 [(0, orf 1000 0), (1, oi zv1), (2, oi zv2), (3, oi zv3), (4, oi zv4), (5, oi w.1), (6, oi w.2.1)] [] w.2.2) (fun w h => s_X9_second_L36b he hR  (fun _ h => h) hVE h) n w h
def f_X9_second  (za1 : Int32) (za2 : Int32) (za3 : Int32) (za4 : Int32) (S : oS) : Option (Int32 × oS) :=
  (f_X9_isKind za1 S).bind fun zz1 =>
  if zz1.1 = 0 then (
  some ((-2 : Int32), zz1.2)) else (
  (f_X9_in za2 (1 : Int32) (30 : Int32) zz1.2).bind fun zz2 =>
  if zz2.1 = 0 then (
  some ((-2 : Int32), zz2.2)) else (
  (f_X9_isSpan za3 za4 zz2.2).bind fun zz3 =>
  if zz3.1 = 0 then (
  some ((-2 : Int32), zz3.2)) else (
  (oLp (f_X9_second_L36 za1 za2 za3 za4) oFu ((0 : Int32), (0 : Int32), zz3.2)).bind fun zz6 =>
  if oIn za1 8 then (
  if 0 < (zz6.2.1 1022 0 (Int32.toNatClampNeg za1)) then (
  some ((-3 : Int32), zz6.2)) else (
  if zz6.1 = 0 then (
  if oIn za1 8 then (
  oLet (oStI zz6.2 1022 0 (Int32.toNatClampNeg za1) za2) fun zS7 =>
  if oIn za1 8 then (
  oLet (oStI zS7 1023 0 (Int32.toNatClampNeg za1) za3) fun zS8 =>
  if oIn za1 8 then (
  oLet (oStI zS8 1024 0 (Int32.toNatClampNeg za1) za4) fun zS9 =>
  some ((1 : Int32), zS9)) else none) else none) else none) else (
  some ((-3 : Int32), zz6.2)))) else none)))
set_option maxHeartbeats 4000000 in
theorem s_X9_second {G : oG} {r : oR} (d : Nat) (hd : 3 ≤ d) {za1 : Int32} {za2 : Int32} {za3 : Int32} {za4 : Int32}  {S : oS} {P : Int32 × oS → Prop} (h : oH (f_X9_second za1 za2 za3 za4 S) P) : oCt G r d yX9_second mX9_second [orf 1000 0, oi za1, oi za2, oi za3, oi za4] S (oQi P) := by
  unfold f_X9_second at h
  refine oCt_of (by decide) rfl (Nat.le_of_ble_eq_true rfl) ?_
  intro X hG hr hE0 hR
  subst hG; subst hr
  obtain ⟨e, rfl⟩ : ∃ e, d = e + 1 := ⟨d - 1, by omega⟩
  have he : 2 ≤ e := by omega
  have hE := oEI_of hE0 rfl
  clear hE0 hd
  show oVv X mX9_second 0 [(0, orf 1000 0), (1, oi za1), (2, oi za2), (3, oi za3), (4, oi za4)] [] S
  refine o_aload_n (pc := 0) dX9_second_0 rfl 0 rfl ?_
  refine o_iload_n (pc := 1) dX9_second_1 rfl 1 rfl ?_
  have h := oH_bind h
  refine o_callVi (pc := 2) (st := []) [oi za1] hR md_X9_isKind wd_1162 wd_1164 ws_32 tc_1000 j_1000 rfl (Nat.le_of_ble_eq_true rfl) rfl dX9_second_2 (s_X9_isKind e (by omega)  h) (fun zz1 h => ?_)
  refine o_if_eq 27 (pc := 5) dX9_second_5 (by decide) (fun hc => ?_) (fun hc => ?_)
  · have h := oH_T hc h
    refine o_bipush (v := -2) (pc := 27) dX9_second_27 (by decide) ?_
    exact hE _ _ _ _ dX9_second_29 (oH_some h)
  · have h := oH_F hc h
    refine o_iload_n (pc := 8) dX9_second_8 rfl 2 rfl ?_
    refine o_iconst (v := 1) (pc := 9) dX9_second_9 (by decide) ?_
    refine o_bipush (v := 30) (pc := 10) dX9_second_10 (by decide) ?_
    have h := oH_bind h
    refine o_callSi (pc := 12) (st := []) [oi za2, oi (1 : Int32), oi (30 : Int32)] hR md_X9_in wd_1061 wd_1062 rfl (Nat.le_of_ble_eq_true rfl) rfl dX9_second_12 (s_X9_in e (by omega)  h) (fun zz2 h => ?_)
    refine o_if_eq 27 (pc := 15) dX9_second_15 (by decide) (fun hc => ?_) (fun hc => ?_)
    · have h := oH_T hc h
      refine o_bipush (v := -2) (pc := 27) dX9_second_27 (by decide) ?_
      exact hE _ _ _ _ dX9_second_29 (oH_some h)
    · have h := oH_F hc h
      refine o_iload_n (pc := 18) dX9_second_18 rfl 3 rfl ?_
      refine o_iload (pc := 19) dX9_second_19 4 rfl ?_
      have h := oH_bind h
      refine o_callSi (pc := 21) (st := []) [oi za3, oi za4] hR md_X9_isSpan wd_1155 wd_1156 rfl (Nat.le_of_ble_eq_true rfl) rfl dX9_second_21 (s_X9_isSpan e (by omega)  h) (fun zz3 h => ?_)
      refine o_if_ne 30 (pc := 24) dX9_second_24 (by decide) (fun hc => ?_) (fun hc => ?_)
      · have h := oH_F hc h
        refine o_iconst (v := 0) (pc := 30) dX9_second_30 (by decide) ?_
        refine o_istore (lv1 := [(0, orf 1000 0), (1, oi za1), (2, oi za2), (3, oi za3), (4, oi za4), (5, oi (0 : Int32))]) (pc := 31) dX9_second_31 (by decide) rfl ?_
        refine o_iconst (v := 0) (pc := 33) dX9_second_33 (by decide) ?_
        refine o_istore (lv1 := [(0, orf 1000 0), (1, oi za1), (2, oi za2), (3, oi za3), (4, oi za4), (5, oi (0 : Int32)), (6, oi (0 : Int32))]) (pc := 34) dX9_second_34 (by decide) rfl ?_
        have h := oH_bind h
        refine s_X9_second_L36 he hR  (fun zz6 h => ?_) _ ((0 : Int32), (0 : Int32), zz3.2) h
        refine o_aload_n (pc := 83) dX9_second_83 rfl 0 rfl ?_
        refine o_getA (pc := 84) fd_RX9_52 ft_1000_21 j_1000 dX9_second_84 ?_
        refine o_iload_n (pc := 87) dX9_second_87 rfl 1 rfl ?_
        obtain ⟨hg, h⟩ := oH_G h
        refine o_iald (pc := 88) kd_1022 j_1022 hg dX9_second_88 ?_
        refine o_if_gt 97 (pc := 89) dX9_second_89 (by decide) (fun hc => ?_) (fun hc => ?_)
        · have h := oH_T hc h
          refine o_bipush (v := -3) (pc := 97) dX9_second_97 (by decide) ?_
          exact hE _ _ _ _ dX9_second_99 (oH_some h)
        · have h := oH_F hc h
          refine o_iload (pc := 92) dX9_second_92 5 rfl ?_
          refine o_if_eq 100 (pc := 94) dX9_second_94 (by decide) (fun hc => ?_) (fun hc => ?_)
          · have h := oH_T hc h
            refine o_aload_n (pc := 100) dX9_second_100 rfl 0 rfl ?_
            refine o_getA (pc := 101) fd_RX9_52 ft_1000_21 j_1000 dX9_second_101 ?_
            refine o_iload_n (pc := 104) dX9_second_104 rfl 1 rfl ?_
            refine o_iload_n (pc := 105) dX9_second_105 rfl 2 rfl ?_
            obtain ⟨hg, h⟩ := oH_G h
            have hgi := hg
            refine o_iast (pc := 106) kd_1022 j_1022 hgi dX9_second_106 ?_
            refine o_nmS (fun zS7 hx => ?_)
            have h := oH_let h zS7 hx
            clear hx
            refine o_aload_n (pc := 107) dX9_second_107 rfl 0 rfl ?_
            refine o_getA (pc := 108) fd_RX9_55 ft_1000_22 j_1000 dX9_second_108 ?_
            refine o_iload_n (pc := 111) dX9_second_111 rfl 1 rfl ?_
            refine o_iload_n (pc := 112) dX9_second_112 rfl 3 rfl ?_
            obtain ⟨hg, h⟩ := oH_G h
            have hgi := hg
            refine o_iast (pc := 113) kd_1023 j_1023 hgi dX9_second_113 ?_
            refine o_nmS (fun zS8 hx => ?_)
            have h := oH_let h zS8 hx
            clear hx
            refine o_aload_n (pc := 114) dX9_second_114 rfl 0 rfl ?_
            refine o_getA (pc := 115) fd_RX9_58 ft_1000_23 j_1000 dX9_second_115 ?_
            refine o_iload_n (pc := 118) dX9_second_118 rfl 1 rfl ?_
            refine o_iload (pc := 119) dX9_second_119 4 rfl ?_
            obtain ⟨hg, h⟩ := oH_G h
            have hgi := hg
            refine o_iast (pc := 121) kd_1024 j_1024 hgi dX9_second_121 ?_
            refine o_nmS (fun zS9 hx => ?_)
            have h := oH_let h zS9 hx
            clear hx
            refine o_iconst (v := 1) (pc := 122) dX9_second_122 (by decide) ?_
            exact hE _ _ _ _ dX9_second_123 (oH_some h)
          · have h := oH_F hc h
            refine o_bipush (v := -3) (pc := 97) dX9_second_97 (by decide) ?_
            exact hE _ _ _ _ dX9_second_99 (oH_some h)
      · have h := oH_T hc h
        refine o_bipush (v := -2) (pc := 27) dX9_second_27 (by decide) ?_
        exact hE _ _ _ _ dX9_second_29 (oH_some h)
def f_X9_slots  (za1 : Int32) (S : oS) : Option (Int32 × oS) :=
  (f_X9_in za1 (1 : Int32) (8 : Int32) S).bind fun zz1 =>
  if zz1.1 = 0 then (
  some ((-2 : Int32), zz1.2)) else (
  oLet (zz1.2.1 1000 0 39) fun zx2 =>
  oLet (oStI zz1.2 1000 0 39 za1) fun zS3 =>
  some (zx2, zS3))
set_option maxHeartbeats 4000000 in
theorem s_X9_slots {G : oG} {r : oR} (d : Nat) (hd : 2 ≤ d) {za1 : Int32}  {S : oS} {P : Int32 × oS → Prop} (h : oH (f_X9_slots za1 S) P) : oCt G r d yX9_slots mX9_slots [orf 1000 0, oi za1] S (oQi P) := by
  unfold f_X9_slots at h
  refine oCt_of (by decide) rfl (Nat.le_of_ble_eq_true rfl) ?_
  intro X hG hr hE0 hR
  subst hG; subst hr
  obtain ⟨e, rfl⟩ : ∃ e, d = e + 1 := ⟨d - 1, by omega⟩
  have he : 1 ≤ e := by omega
  have hE := oEI_of hE0 rfl
  clear hE0 hd
  show oVv X mX9_slots 0 [(0, orf 1000 0), (1, oi za1)] [] S
  refine o_iload_n (pc := 0) dX9_slots_0 rfl 1 rfl ?_
  refine o_iconst (v := 1) (pc := 1) dX9_slots_1 (by decide) ?_
  refine o_bipush (v := 8) (pc := 2) dX9_slots_2 (by decide) ?_
  have h := oH_bind h
  refine o_callSi (pc := 4) (st := []) [oi za1, oi (1 : Int32), oi (8 : Int32)] hR md_X9_in wd_1061 wd_1062 rfl (Nat.le_of_ble_eq_true rfl) rfl dX9_slots_4 (s_X9_in e (by omega)  h) (fun zz1 h => ?_)
  refine o_if_ne 13 (pc := 7) dX9_slots_7 (by decide) (fun hc => ?_) (fun hc => ?_)
  · have h := oH_F hc h
    refine o_aload_n (pc := 13) dX9_slots_13 rfl 0 rfl ?_
    refine o_getI (pc := 14) fd_RX9_88 ft_1000_39 j_1000 dX9_slots_14 ?_
    refine o_nmI (fun zx2 hx => ?_)
    have h := oH_let h zx2 hx
    clear hx
    refine o_istore_n (lv1 := [(0, orf 1000 0), (1, oi za1), (2, oi zx2)]) (pc := 17) dX9_slots_17 rfl (by decide) rfl ?_
    refine o_aload_n (pc := 18) dX9_slots_18 rfl 0 rfl ?_
    refine o_iload_n (pc := 19) dX9_slots_19 rfl 1 rfl ?_
    refine o_putI (pc := 20) fd_RX9_88 fp_1000_39 ft_1000_39 rfl rfl j_1000 dX9_slots_20 ?_
    refine o_nmS (fun zS3 hx => ?_)
    have h := oH_let h zS3 hx
    clear hx
    refine o_iload_n (pc := 23) dX9_slots_23 rfl 2 rfl ?_
    exact hE _ _ _ _ dX9_slots_24 (oH_some h)
  · have h := oH_T hc h
    refine o_bipush (v := -2) (pc := 10) dX9_slots_10 (by decide) ?_
    exact hE _ _ _ _ dX9_slots_12 (oH_some h)
def f_X9_sum_L44  : Int64 × Int32 × oS → Option ((Int64 × Int32 × oS) ⊕ (Int64 × oS)) := fun w =>
  match w with
  | (zv2, zv4, S) =>
    if (12 : Int32) ≤ zv4 then (
    some (Sum.inr (zv2, S))) else (
    if oIn zv4 12 then (
    oLet ((zv2 + (S.2 1002 0 (Int32.toNatClampNeg zv4)))) fun zx1 =>
    oLet (zv4 + (1 : Int32)) fun zx2 =>
    some (Sum.inl (zx1, zx2, S))) else none)
set_option maxHeartbeats 4000000 in
theorem s_X9_sum_L44b {X : oX} {e : Nat} (he : 0 ≤ e) (hR : oRoom X (e + 1))  {VH : Int64 × Int32 × oS → Prop} {VE : Int64 × oS → Prop} (hVH : ∀ z, VH z → oVv X mX9_sum 44 [(0, orf 1000 0), (2, ol z.1), (4, oi z.2.1)] [] z.2.2) (hVE : ∀ z, VE z → oVv X mX9_sum 67 [(2, ol z.1)] [] z.2) {zv2 : Int64} {zv4 : Int32} {S : oS} (h : oH (f_X9_sum_L44 (zv2, zv4, S)) (fun z => Sum.elim VH VE z)) : oVv X mX9_sum 44 [(0, orf 1000 0), (2, ol zv2), (4, oi zv4)] [] S := by
  dsimp only [f_X9_sum_L44] at h
  refine o_iload (pc := 44) dX9_sum_44 2 rfl ?_
  refine o_bipush (v := 12) (pc := 46) dX9_sum_46 (by decide) ?_
  refine o_icmp_ge 67 (pc := 48) dX9_sum_48 (by decide) (fun hc => ?_) (fun hc => ?_)
  · have h := oH_T hc h
    refine o_weak [1] rfl ?_
    exact hVE _ (oH_some (P := fun z => Sum.elim VH VE z) h)
  · have h := oH_F hc h
    refine o_lload_n (pc := 51) dX9_sum_51 rfl 1 rfl ?_
    refine o_aload_n (pc := 52) dX9_sum_52 rfl 0 rfl ?_
    refine o_getA (pc := 53) fd_RX9_13 ft_1000_1 j_1000 dX9_sum_53 ?_
    refine o_iload (pc := 56) dX9_sum_56 2 rfl ?_
    obtain ⟨hg, h⟩ := oH_G h
    refine o_lald (pc := 58) kd_1002 j_1002 hg dX9_sum_58 ?_
    refine o_ladd (pc := 59) dX9_sum_59 ?_
    refine o_nmL (fun zx1 hx => ?_)
    have h := oH_let h zx1 hx
    clear hx
    refine o_lstore_n (lv1 := [(0, orf 1000 0), (2, ol zx1), (4, oi zv4)]) (pc := 60) dX9_sum_60 rfl (by decide) rfl ?_
    obtain ⟨zx2, hx⟩ : ∃ y : Int32, y = zv4 + (1 : Int32) := ⟨_, rfl⟩
    have h := oH_let h zx2 hx
    refine o_iinc (lv1 := [(0, orf 1000 0), (2, ol zx1), (4, oi zx2)]) (pc := 61) dX9_sum_61 2 rfl hx.symm (by decide) rfl ?_
    clear hx
    refine o_goto 44 (pc := 64) dX9_sum_64 (by decide) ?_
    exact hVH _ (oH_some (P := fun z => Sum.elim VH VE z) h)
theorem s_X9_sum_L44 {X : oX} {e : Nat} (he : 0 ≤ e) (hR : oRoom X (e + 1))   {VE : Int64 × oS → Prop} (hVE : ∀ z, VE z → oVv X mX9_sum 67 [(2, ol z.1)] [] z.2) (n : Nat) (w : Int64 × Int32 × oS) (h : oH (oLp (f_X9_sum_L44) n w) VE) : oVv X mX9_sum 44 [(0, orf 1000 0), (2, ol w.1), (4, oi w.2.1)] [] w.2.2 :=
  oLp_s (VH := fun w => oVv X mX9_sum 44 [(0, orf 1000 0), (2, ol w.1), (4, oi w.2.1)] [] w.2.2) (fun w h => s_X9_sum_L44b he hR  (fun _ h => h) hVE h) n w h
def f_X9_sum  (za1 : Int32) (S : oS) : Option (Int64 × oS) :=
  if za1 = 0 then (
  some (S.2 1000 0 8, S)) else if za1 = 1 then (
  (oLp (f_X9_sum_L44) oFu ((0 : Int64), (0 : Int32), S)).bind fun zz3 =>
  some (zz3.1, zz3.2)) else if za1 = 2 then (
  some (S.2 1000 0 9, S)) else if za1 = 3 then (
  some (S.2 1000 0 10, S)) else if za1 = 4 then (
  some ((4000 : Int64), S)) else (
  some ((-2 : Int64), S))
set_option maxHeartbeats 4000000 in
theorem s_X9_sum {G : oG} {r : oR} (d : Nat) (hd : 1 ≤ d) {za1 : Int32}  {S : oS} {P : Int64 × oS → Prop} (h : oH (f_X9_sum za1 S) P) : oCt G r d yX9_sum mX9_sum [orf 1000 0, oi za1] S (oQl P) := by
  unfold f_X9_sum at h
  refine oCt_of (by decide) rfl (Nat.le_of_ble_eq_true rfl) ?_
  intro X hG hr hE0 hR
  subst hG; subst hr
  obtain ⟨e, rfl⟩ : ∃ e, d = e + 1 := ⟨d - 1, by omega⟩
  have he : 0 ≤ e := by omega
  have hE := oEL_of hE0 rfl
  clear hE0 hd
  show oVv X mX9_sum 0 [(0, orf 1000 0), (1, oi za1)] [] S
  refine o_lconst (v := 0) (pc := 0) dX9_sum_0 (by decide) ?_
  refine o_lstore_n (lv1 := [(0, orf 1000 0), (1, oi za1), (2, ol (0 : Int64))]) (pc := 1) dX9_sum_1 rfl (by decide) rfl ?_
  refine o_iload_n (pc := 2) dX9_sum_2 rfl 1 rfl ?_
  by_cases hc0 : za1 = 0
  · have h := oH_T hc0 h
    refine o_tabIn 36 (pc := 3) (off := 33) dX9_sum_3 (by rw [hc0]; decide) (by rw [hc0]; decide) (by rw [hc0]; rfl) (by decide) ?_
    refine o_aload_n (pc := 36) dX9_sum_36 rfl 0 rfl ?_
    refine o_getL (pc := 37) fd_RX9_233 ft_1000_8 j_1000 dX9_sum_37 ?_
    exact hE _ _ _ _ dX9_sum_40 (oH_some h)
  have h := oH_F hc0 h
  by_cases hc1 : za1 = 1
  · have h := oH_T hc1 h
    refine o_tabIn 41 (pc := 3) (off := 38) dX9_sum_3 (by rw [hc1]; decide) (by rw [hc1]; decide) (by rw [hc1]; rfl) (by decide) ?_
    refine o_iconst (v := 0) (pc := 41) dX9_sum_41 (by decide) ?_
    refine o_istore (lv1 := [(0, orf 1000 0), (1, oi za1), (2, ol (0 : Int64)), (4, oi (0 : Int32))]) (pc := 42) dX9_sum_42 (by decide) rfl ?_
    refine o_weak [0, 2, 3] rfl ?_
    have h := oH_bind h
    refine s_X9_sum_L44 he hR  (fun zz3 h => ?_) _ ((0 : Int64), (0 : Int32), S) h
    refine o_lload_n (pc := 67) dX9_sum_67 rfl 0 rfl ?_
    exact hE _ _ _ _ dX9_sum_68 (oH_some h)
  have h := oH_F hc1 h
  by_cases hc2 : za1 = 2
  · have h := oH_T hc2 h
    refine o_tabIn 69 (pc := 3) (off := 66) dX9_sum_3 (by rw [hc2]; decide) (by rw [hc2]; decide) (by rw [hc2]; rfl) (by decide) ?_
    refine o_aload_n (pc := 69) dX9_sum_69 rfl 0 rfl ?_
    refine o_getL (pc := 70) fd_RX9_235 ft_1000_9 j_1000 dX9_sum_70 ?_
    exact hE _ _ _ _ dX9_sum_73 (oH_some h)
  have h := oH_F hc2 h
  by_cases hc3 : za1 = 3
  · have h := oH_T hc3 h
    refine o_tabIn 74 (pc := 3) (off := 71) dX9_sum_3 (by rw [hc3]; decide) (by rw [hc3]; decide) (by rw [hc3]; rfl) (by decide) ?_
    refine o_aload_n (pc := 74) dX9_sum_74 rfl 0 rfl ?_
    refine o_getL (pc := 75) fd_RX9_201 ft_1000_10 j_1000 dX9_sum_75 ?_
    exact hE _ _ _ _ dX9_sum_78 (oH_some h)
  have h := oH_F hc3 h
  by_cases hc4 : za1 = 4
  · have h := oH_T hc4 h
    refine o_tabIn 79 (pc := 3) (off := 76) dX9_sum_3 (by rw [hc4]; decide) (by rw [hc4]; decide) (by rw [hc4]; rfl) (by decide) ?_
    refine o_ldc2 (v := 4000) (pc := 79) dX9_sum_79 wd_1150 ?_
    exact hE _ _ _ _ dX9_sum_82 (oH_some h)
  have h := oH_F hc4 h
  refine o_tabOut 83 (pc := 3) dX9_sum_3 (by
      have g0 : ¬ Int32.toInt za1 = 0 := fun z => hc0 (Int32.toInt_inj.mp z)
      have g1 : ¬ Int32.toInt za1 = 1 := fun z => hc1 (Int32.toInt_inj.mp z)
      have g2 : ¬ Int32.toInt za1 = 2 := fun z => hc2 (Int32.toInt_inj.mp z)
      have g3 : ¬ Int32.toInt za1 = 3 := fun z => hc3 (Int32.toInt_inj.mp z)
      have g4 : ¬ Int32.toInt za1 = 4 := fun z => hc4 (Int32.toInt_inj.mp z)
      omega) (by decide) ?_
  refine o_ldc2 (v := -2) (pc := 83) dX9_sum_83 wd_1145 ?_
  exact hE _ _ _ _ dX9_sum_86 (oH_some h)
def f_X9_take_K86 (zv2 : Int32) (zs1 : Int32) (zs2 : Int32) (S : oS) : Option (Int32 × oS) :=
  oLet (oStI S 1000 0 31 (zs1 + zs2)) fun zS7 =>
  some (zv2, zS7)
set_option maxHeartbeats 4000000 in
theorem s_X9_take_K86 {X : oX} {e : Nat} (he : 3 ≤ e) (hR : oRoom X (e + 1)) {zv2 : Int32} {zs1 : Int32} {zs2 : Int32} {P : Int32 × oS → Prop} (hE : oEI X mX9_take P) {S : oS} (h : oH (f_X9_take_K86 zv2 zs1 zs2 S) P) : oVv X mX9_take 86 [(2, oi zv2)] [oi zs2, oi zs1, orf 1000 0] S := by
  unfold f_X9_take_K86 at h
  refine o_iadd (pc := 86) dX9_take_86 ?_
  refine o_putI (pc := 87) fd_RX9_297 fp_1000_31 ft_1000_31 rfl rfl j_1000 dX9_take_87 ?_
  refine o_nmS (fun zS7 hx => ?_)
  have h := oH_let h zS7 hx
  clear hx
  refine o_iload_n (pc := 90) dX9_take_90 rfl 0 rfl ?_
  exact hE _ _ _ _ dX9_take_91 (oH_some h)
def f_X9_take  (za1 : Int32) (S : oS) : Option (Int32 × oS) :=
  (f_X9_isLoaf za1 S).bind fun zz1 =>
  if zz1.1 = 0 then (
  some ((-2 : Int32), zz1.2)) else (
  (f_X9_isInside za1 zz1.2).bind fun zz2 =>
  if zz2.1 = 0 then (
  some ((-3 : Int32), zz2.2)) else (
  (f_X9_canGo za1 zz2.2).bind fun zz3 =>
  if zz3.1 = 0 then (
  some ((-3 : Int32), zz3.2)) else (
  if oIn za1 200 then (
  oLet (oStI zz3.2 1027 0 (Int32.toNatClampNeg za1) (-1 : Int32)) fun zS4 =>
  oLet (oStI zS4 1000 0 12 (1 : Int32)) fun zS5 =>
  if oIn za1 200 then (
  if oIn za1 200 then (
  if oIn za1 200 then (
  if oIn za1 200 then (
  (f_X9_resultOf (zS5.1 1026 0 (Int32.toNatClampNeg za1)) (zS5.1 1030 0 (Int32.toNatClampNeg za1)) (zS5.1 1029 0 (Int32.toNatClampNeg za1)) (zS5.1 1028 0 (Int32.toNatClampNeg za1)) zS5).bind fun zz6 =>
  if zz6.1 = (1 : Int32) then (
  f_X9_take_K86 zz6.1 (zz6.2.1 1000 0 31) (1 : Int32) zz6.2) else (
  f_X9_take_K86 zz6.1 (zz6.2.1 1000 0 31) (0 : Int32) zz6.2)) else none) else none) else none) else none) else none)))
set_option maxHeartbeats 4000000 in
theorem s_X9_take {G : oG} {r : oR} (d : Nat) (hd : 4 ≤ d) {za1 : Int32}  {S : oS} {P : Int32 × oS → Prop} (h : oH (f_X9_take za1 S) P) : oCt G r d yX9_take mX9_take [orf 1000 0, oi za1] S (oQi P) := by
  unfold f_X9_take at h
  refine oCt_of (by decide) rfl (Nat.le_of_ble_eq_true rfl) ?_
  intro X hG hr hE0 hR
  subst hG; subst hr
  obtain ⟨e, rfl⟩ : ∃ e, d = e + 1 := ⟨d - 1, by omega⟩
  have he : 3 ≤ e := by omega
  have hE := oEI_of hE0 rfl
  clear hE0 hd
  show oVv X mX9_take 0 [(0, orf 1000 0), (1, oi za1)] [] S
  refine o_aload_n (pc := 0) dX9_take_0 rfl 0 rfl ?_
  refine o_iload_n (pc := 1) dX9_take_1 rfl 1 rfl ?_
  have h := oH_bind h
  refine o_callVi (pc := 2) (st := []) [oi za1] hR md_X9_isLoaf wd_1201 wd_1203 ws_39 tc_1000 j_1000 rfl (Nat.le_of_ble_eq_true rfl) rfl dX9_take_2 (s_X9_isLoaf e (by omega)  h) (fun zz1 h => ?_)
  refine o_if_ne 11 (pc := 5) dX9_take_5 (by decide) (fun hc => ?_) (fun hc => ?_)
  · have h := oH_F hc h
    refine o_aload_n (pc := 11) dX9_take_11 rfl 0 rfl ?_
    refine o_iload_n (pc := 12) dX9_take_12 rfl 1 rfl ?_
    have h := oH_bind h
    refine o_callVi (pc := 13) (st := []) [oi za1] hR md_X9_isInside wd_1128 wd_1130 ws_29 tc_1000 j_1000 rfl (Nat.le_of_ble_eq_true rfl) rfl dX9_take_13 (s_X9_isInside e (by omega)  h) (fun zz2 h => ?_)
    refine o_if_eq 27 (pc := 16) dX9_take_16 (by decide) (fun hc => ?_) (fun hc => ?_)
    · have h := oH_T hc h
      refine o_bipush (v := -3) (pc := 27) dX9_take_27 (by decide) ?_
      exact hE _ _ _ _ dX9_take_29 (oH_some h)
    · have h := oH_F hc h
      refine o_aload_n (pc := 19) dX9_take_19 rfl 0 rfl ?_
      refine o_iload_n (pc := 20) dX9_take_20 rfl 1 rfl ?_
      have h := oH_bind h
      refine o_callVi (pc := 21) (st := []) [oi za1] hR md_X9_canGo wd_1205 wd_1207 ws_40 tc_1000 j_1000 rfl (Nat.le_of_ble_eq_true rfl) rfl dX9_take_21 (s_X9_canGo e (by omega)  h) (fun zz3 h => ?_)
      refine o_if_ne 30 (pc := 24) dX9_take_24 (by decide) (fun hc => ?_) (fun hc => ?_)
      · have h := oH_F hc h
        refine o_aload_n (pc := 30) dX9_take_30 rfl 0 rfl ?_
        refine o_getA (pc := 31) fd_RX9_64 ft_1000_26 j_1000 dX9_take_31 ?_
        refine o_iload_n (pc := 34) dX9_take_34 rfl 1 rfl ?_
        refine o_iconst (v := -1) (pc := 35) dX9_take_35 (by decide) ?_
        obtain ⟨hg, h⟩ := oH_G h
        have hgi := hg
        refine o_iast (pc := 36) kd_1027 j_1027 hgi dX9_take_36 ?_
        refine o_nmS (fun zS4 hx => ?_)
        have h := oH_let h zS4 hx
        clear hx
        refine o_aload_n (pc := 37) dX9_take_37 rfl 0 rfl ?_
        refine o_iconst (v := 1) (pc := 38) dX9_take_38 (by decide) ?_
        refine o_putI (pc := 39) fd_RX9_222 fp_1000_12 ft_1000_12 (oBl_n (by decide)) (oBl_f (by decide)) j_1000 dX9_take_39 ?_
        refine o_nmS (fun zS5 hx => ?_)
        have h := oH_let h zS5 hx
        clear hx
        refine o_aload_n (pc := 42) dX9_take_42 rfl 0 rfl ?_
        refine o_aload_n (pc := 43) dX9_take_43 rfl 0 rfl ?_
        refine o_getA (pc := 44) fd_RX9_61 ft_1000_25 j_1000 dX9_take_44 ?_
        refine o_iload_n (pc := 47) dX9_take_47 rfl 1 rfl ?_
        obtain ⟨hg, h⟩ := oH_G h
        refine o_iald (pc := 48) kd_1026 j_1026 hg dX9_take_48 ?_
        refine o_aload_n (pc := 49) dX9_take_49 rfl 0 rfl ?_
        refine o_getA (pc := 50) fd_RX9_73 ft_1000_29 j_1000 dX9_take_50 ?_
        refine o_iload_n (pc := 53) dX9_take_53 rfl 1 rfl ?_
        obtain ⟨hg, h⟩ := oH_G h
        refine o_iald (pc := 54) kd_1030 j_1030 hg dX9_take_54 ?_
        refine o_aload_n (pc := 55) dX9_take_55 rfl 0 rfl ?_
        refine o_getA (pc := 56) fd_RX9_70 ft_1000_28 j_1000 dX9_take_56 ?_
        refine o_iload_n (pc := 59) dX9_take_59 rfl 1 rfl ?_
        obtain ⟨hg, h⟩ := oH_G h
        refine o_iald (pc := 60) kd_1029 j_1029 hg dX9_take_60 ?_
        refine o_aload_n (pc := 61) dX9_take_61 rfl 0 rfl ?_
        refine o_getA (pc := 62) fd_RX9_67 ft_1000_27 j_1000 dX9_take_62 ?_
        refine o_iload_n (pc := 65) dX9_take_65 rfl 1 rfl ?_
        obtain ⟨hg, h⟩ := oH_G h
        refine o_iald (pc := 66) kd_1028 j_1028 hg dX9_take_66 ?_
        have h := oH_bind h
        refine o_callVi (pc := 67) (st := []) [oi (zS5.1 1026 0 (Int32.toNatClampNeg za1)), oi (zS5.1 1030 0 (Int32.toNatClampNeg za1)), oi (zS5.1 1029 0 (Int32.toNatClampNeg za1)), oi (zS5.1 1028 0 (Int32.toNatClampNeg za1))] hR md_X9_resultOf wd_1213 wd_1215 ws_41 tc_1000 j_1000 rfl (Nat.le_of_ble_eq_true rfl) rfl dX9_take_67 (s_X9_resultOf e (by omega)  h) (fun zz6 h => ?_)
        refine o_istore_n (lv1 := [(0, orf 1000 0), (1, oi za1), (2, oi zz6.1)]) (pc := 70) dX9_take_70 rfl (by decide) rfl ?_
        refine o_aload_n (pc := 71) dX9_take_71 rfl 0 rfl ?_
        refine o_dup (pc := 72) dX9_take_72 rfl ?_
        refine o_getI (pc := 73) fd_RX9_297 ft_1000_31 j_1000 dX9_take_73 ?_
        refine o_iload_n (pc := 76) dX9_take_76 rfl 2 rfl ?_
        refine o_iconst (v := 1) (pc := 77) dX9_take_77 (by decide) ?_
        refine o_icmp_ne 85 (pc := 78) dX9_take_78 (by decide) (fun hc => ?_) (fun hc => ?_)
        · have h := oH_F hc h
          refine o_iconst (v := 0) (pc := 85) dX9_take_85 (by decide) ?_
          refine o_weak [2] rfl ?_
          exact s_X9_take_K86 he hR  hE h
        · have h := oH_T hc h
          refine o_iconst (v := 1) (pc := 81) dX9_take_81 (by decide) ?_
          refine o_goto 86 (pc := 82) dX9_take_82 (by decide) ?_
          refine o_weak [2] rfl ?_
          exact s_X9_take_K86 he hR  hE h
      · have h := oH_T hc h
        refine o_bipush (v := -3) (pc := 27) dX9_take_27 (by decide) ?_
        exact hE _ _ _ _ dX9_take_29 (oH_some h)
  · have h := oH_T hc h
    refine o_bipush (v := -2) (pc := 8) dX9_take_8 (by decide) ?_
    exact hE _ _ _ _ dX9_take_10 (oH_some h)
def f_X9_ticks_L107 (zv1 : Int32) (zv2 : Int32) : Int32 × oS → Option ((Int32 × oS) ⊕ (oS)) := fun w =>
  match w with
  | (zv5, S) =>
    if (12 : Int32) ≤ zv5 then (
    some (Sum.inr S)) else (
    if oIn zv5 12 then (
    if oIn zv5 12 then (
    oLet (oStL S 1002 0 (Int32.toNatClampNeg zv5) (S.2 1050 0 (Int32.toNatClampNeg zv5))) fun zS9 =>
    oLet (zv5 + (1 : Int32)) fun zx10 =>
    some (Sum.inl (zx10, zS9))) else none) else none)
set_option maxHeartbeats 4000000 in
theorem s_X9_ticks_L107b {X : oX} {e : Nat} (he : 3 ≤ e) (hR : oRoom X (e + 1)) {zv1 : Int32} {zv2 : Int32} {VH : Int32 × oS → Prop} {VE : oS → Prop} (hVH : ∀ z, VH z → oVv X mX9_ticks 107 [(0, orf 1000 0), (1, oi zv1), (2, oi zv2), (5, oi z.1)] [] z.2) (hVE : ∀ z, VE z → oVv X mX9_ticks 134 [(0, orf 1000 0), (1, oi zv1), (2, oi zv2)] [] z) {zv5 : Int32} {S : oS} (h : oH (f_X9_ticks_L107 zv1 zv2 (zv5, S)) (fun z => Sum.elim VH VE z)) : oVv X mX9_ticks 107 [(0, orf 1000 0), (1, oi zv1), (2, oi zv2), (5, oi zv5)] [] S := by
  dsimp only [f_X9_ticks_L107] at h
  refine o_iload (pc := 107) dX9_ticks_107 3 rfl ?_
  refine o_bipush (v := 12) (pc := 109) dX9_ticks_109 (by decide) ?_
  refine o_icmp_ge 134 (pc := 111) dX9_ticks_111 (by decide) (fun hc => ?_) (fun hc => ?_)
  · have h := oH_T hc h
    refine o_weak [0, 1, 2] rfl ?_
    exact hVE _ (oH_some (P := fun z => Sum.elim VH VE z) h)
  · have h := oH_F hc h
    refine o_aload_n (pc := 114) dX9_ticks_114 rfl 0 rfl ?_
    refine o_getA (pc := 115) fd_RX9_13 ft_1000_1 j_1000 dX9_ticks_115 ?_
    refine o_iload (pc := 118) dX9_ticks_118 3 rfl ?_
    refine o_aload_n (pc := 120) dX9_ticks_120 rfl 0 rfl ?_
    refine o_getA (pc := 121) fd_RX9_112 ft_1000_49 j_1000 dX9_ticks_121 ?_
    refine o_iload (pc := 124) dX9_ticks_124 3 rfl ?_
    obtain ⟨hg, h⟩ := oH_G h
    refine o_lald (pc := 126) kd_1050 j_1050 hg dX9_ticks_126 ?_
    obtain ⟨hg, h⟩ := oH_G h
    have hgi := hg
    refine o_last (pc := 127) kd_1002 j_1002 hgi dX9_ticks_127 ?_
    refine o_nmS (fun zS9 hx => ?_)
    have h := oH_let h zS9 hx
    clear hx
    obtain ⟨zx10, hx⟩ : ∃ y : Int32, y = zv5 + (1 : Int32) := ⟨_, rfl⟩
    have h := oH_let h zx10 hx
    refine o_iinc (lv1 := [(0, orf 1000 0), (1, oi zv1), (2, oi zv2), (5, oi zx10)]) (pc := 128) dX9_ticks_128 3 rfl hx.symm (by decide) rfl ?_
    clear hx
    refine o_goto 107 (pc := 131) dX9_ticks_131 (by decide) ?_
    exact hVH _ (oH_some (P := fun z => Sum.elim VH VE z) h)
theorem s_X9_ticks_L107 {X : oX} {e : Nat} (he : 3 ≤ e) (hR : oRoom X (e + 1)) {zv1 : Int32} {zv2 : Int32}  {VE : oS → Prop} (hVE : ∀ z, VE z → oVv X mX9_ticks 134 [(0, orf 1000 0), (1, oi zv1), (2, oi zv2)] [] z) (n : Nat) (w : Int32 × oS) (h : oH (oLp (f_X9_ticks_L107 zv1 zv2) n w) VE) : oVv X mX9_ticks 107 [(0, orf 1000 0), (1, oi zv1), (2, oi zv2), (5, oi w.1)] [] w.2 :=
  oLp_s (VH := fun w => oVv X mX9_ticks 107 [(0, orf 1000 0), (1, oi zv1), (2, oi zv2), (5, oi w.1)] [] w.2) (fun w h => s_X9_ticks_L107b he hR  (fun _ h => h) hVE h) n w h
def f_X9_ticks_L137 (zv1 : Int32) (zv2 : Int32) : Int32 × oS → Option ((Int32 × oS) ⊕ (oS)) := fun w =>
  match w with
  | (zv5, S) =>
    if (4 : Int32) ≤ zv5 then (
    some (Sum.inr S)) else (
    if oIn zv5 4 then (
    if oIn zv5 4 then (
    oLet (oStI S 1003 0 (Int32.toNatClampNeg zv5) (S.1 1052 0 (Int32.toNatClampNeg zv5))) fun zS12 =>
    oLet (zv5 + (1 : Int32)) fun zx13 =>
    some (Sum.inl (zx13, zS12))) else none) else none)
set_option maxHeartbeats 4000000 in
theorem s_X9_ticks_L137b {X : oX} {e : Nat} (he : 3 ≤ e) (hR : oRoom X (e + 1)) {zv1 : Int32} {zv2 : Int32} {VH : Int32 × oS → Prop} {VE : oS → Prop} (hVH : ∀ z, VH z → oVv X mX9_ticks 137 [(0, orf 1000 0), (1, oi zv1), (2, oi zv2), (5, oi z.1)] [] z.2) (hVE : ∀ z, VE z → oVv X mX9_ticks 163 [(0, orf 1000 0), (1, oi zv1), (2, oi zv2)] [] z) {zv5 : Int32} {S : oS} (h : oH (f_X9_ticks_L137 zv1 zv2 (zv5, S)) (fun z => Sum.elim VH VE z)) : oVv X mX9_ticks 137 [(0, orf 1000 0), (1, oi zv1), (2, oi zv2), (5, oi zv5)] [] S := by
  dsimp only [f_X9_ticks_L137] at h
  refine o_iload (pc := 137) dX9_ticks_137 3 rfl ?_
  refine o_iconst (v := 4) (pc := 139) dX9_ticks_139 (by decide) ?_
  refine o_icmp_ge 163 (pc := 140) dX9_ticks_140 (by decide) (fun hc => ?_) (fun hc => ?_)
  · have h := oH_T hc h
    refine o_weak [0, 1, 2] rfl ?_
    exact hVE _ (oH_some (P := fun z => Sum.elim VH VE z) h)
  · have h := oH_F hc h
    refine o_aload_n (pc := 143) dX9_ticks_143 rfl 0 rfl ?_
    refine o_getA (pc := 144) fd_RX9_17 ft_1000_2 j_1000 dX9_ticks_144 ?_
    refine o_iload (pc := 147) dX9_ticks_147 3 rfl ?_
    refine o_aload_n (pc := 149) dX9_ticks_149 rfl 0 rfl ?_
    refine o_getA (pc := 150) fd_RX9_118 ft_1000_51 j_1000 dX9_ticks_150 ?_
    refine o_iload (pc := 153) dX9_ticks_153 3 rfl ?_
    obtain ⟨hg, h⟩ := oH_G h
    refine o_iald (pc := 155) kd_1052 j_1052 hg dX9_ticks_155 ?_
    obtain ⟨hg, h⟩ := oH_G h
    have hgi := hg
    refine o_iast (pc := 156) kd_1003 j_1003 hgi dX9_ticks_156 ?_
    refine o_nmS (fun zS12 hx => ?_)
    have h := oH_let h zS12 hx
    clear hx
    obtain ⟨zx13, hx⟩ : ∃ y : Int32, y = zv5 + (1 : Int32) := ⟨_, rfl⟩
    have h := oH_let h zx13 hx
    refine o_iinc (lv1 := [(0, orf 1000 0), (1, oi zv1), (2, oi zv2), (5, oi zx13)]) (pc := 157) dX9_ticks_157 3 rfl hx.symm (by decide) rfl ?_
    clear hx
    refine o_goto 137 (pc := 160) dX9_ticks_160 (by decide) ?_
    exact hVH _ (oH_some (P := fun z => Sum.elim VH VE z) h)
theorem s_X9_ticks_L137 {X : oX} {e : Nat} (he : 3 ≤ e) (hR : oRoom X (e + 1)) {zv1 : Int32} {zv2 : Int32}  {VE : oS → Prop} (hVE : ∀ z, VE z → oVv X mX9_ticks 163 [(0, orf 1000 0), (1, oi zv1), (2, oi zv2)] [] z) (n : Nat) (w : Int32 × oS) (h : oH (oLp (f_X9_ticks_L137 zv1 zv2) n w) VE) : oVv X mX9_ticks 137 [(0, orf 1000 0), (1, oi zv1), (2, oi zv2), (5, oi w.1)] [] w.2 :=
  oLp_s (VH := fun w => oVv X mX9_ticks 137 [(0, orf 1000 0), (1, oi zv1), (2, oi zv2), (5, oi w.1)] [] w.2) (fun w h => s_X9_ticks_L137b he hR  (fun _ h => h) hVE h) n w h
def f_X9_ticks_K53 (zv1 : Int32) (zv2 : Int32) (zv3 : Int64) (S : oS) : Option ((Int32 × oS) ⊕ (oS)) :=
  (f_X9_step zv3 (S.1 1000 0 12) S).bind fun zz3 =>
  (f_X9_bake zz3).bind fun zz4 =>
  oLet (oStL zz4 1000 0 8 ((zz4.2 1000 0 8) + zv3)) fun zS5 =>
  oLet (oStL zS5 1000 0 9 ((zS5.2 1000 0 9) + (zS5.2 1000 0 52))) fun zS6 =>
  oLet (oStI zS6 1000 0 12 (0 : Int32)) fun zS7 =>
  oLet (oStI zS7 1000 0 11 ((zS7.1 1000 0 11) + (1 : Int32))) fun zS8 =>
  (oLp (f_X9_ticks_L107 zv1 zv2) oFu ((0 : Int32), zS8)).bind fun zz11 =>
  (oLp (f_X9_ticks_L137 zv1 zv2) oFu ((0 : Int32), zz11)).bind fun zz14 =>
  oLet (zv2 + (1 : Int32)) fun zx15 =>
  some (Sum.inl (zx15, zz14))
set_option maxHeartbeats 4000000 in
theorem s_X9_ticks_K53 {X : oX} {e : Nat} (he : 3 ≤ e) (hR : oRoom X (e + 1)) {zv1 : Int32} {zv2 : Int32} {zv3 : Int64} {VH : Int32 × oS → Prop} {VE : oS → Prop} (hVH : ∀ z, VH z → oVv X mX9_ticks 15 [(0, orf 1000 0), (1, oi zv1), (2, oi z.1)] [] z.2) (hVE : ∀ z, VE z → oVv X mX9_ticks 169 [(0, orf 1000 0)] [] z) {S : oS} (h : oH (f_X9_ticks_K53 zv1 zv2 zv3 S) (fun z => Sum.elim VH VE z)) : oVv X mX9_ticks 53 [(0, orf 1000 0), (1, oi zv1), (2, oi zv2), (3, ol zv3)] [] S := by
  unfold f_X9_ticks_K53 at h
  refine o_aload_n (pc := 53) dX9_ticks_53 rfl 0 rfl ?_
  refine o_lload_n (pc := 54) dX9_ticks_54 rfl 3 rfl ?_
  refine o_aload_n (pc := 55) dX9_ticks_55 rfl 0 rfl ?_
  refine o_getI (pc := 56) fd_RX9_222 ft_1000_12 j_1000 dX9_ticks_56 ?_
  have h := oH_bind h
  refine o_callVv (pc := 59) (st := []) [ol zv3, oi (S.1 1000 0 12)] hR md_X9_step wd_1101 wd_1103 ws_24 tc_1000 j_1000 rfl (Nat.le_of_ble_eq_true rfl) rfl dX9_ticks_59 (s_X9_step e (by omega)  h) (fun zz3 h => ?_)
  refine o_aload_n (pc := 62) dX9_ticks_62 rfl 0 rfl ?_
  have h := oH_bind h
  refine o_callVv (pc := 63) (st := []) [] hR md_X9_bake wd_1124 wd_1126 ws_28 tc_1000 j_1000 rfl (Nat.le_of_ble_eq_true rfl) rfl dX9_ticks_63 (s_X9_bake e (by omega)  h) (fun zz4 h => ?_)
  refine o_aload_n (pc := 66) dX9_ticks_66 rfl 0 rfl ?_
  refine o_dup (pc := 67) dX9_ticks_67 rfl ?_
  refine o_getL (pc := 68) fd_RX9_233 ft_1000_8 j_1000 dX9_ticks_68 ?_
  refine o_lload_n (pc := 71) dX9_ticks_71 rfl 3 rfl ?_
  refine o_ladd (pc := 72) dX9_ticks_72 ?_
  refine o_putL (pc := 73) fd_RX9_233 fp_1000_8 ft_1000_8 j_1000 dX9_ticks_73 ?_
  refine o_nmS (fun zS5 hx => ?_)
  have h := oH_let h zS5 hx
  clear hx
  refine o_aload_n (pc := 76) dX9_ticks_76 rfl 0 rfl ?_
  refine o_dup (pc := 77) dX9_ticks_77 rfl ?_
  refine o_getL (pc := 78) fd_RX9_235 ft_1000_9 j_1000 dX9_ticks_78 ?_
  refine o_aload_n (pc := 81) dX9_ticks_81 rfl 0 rfl ?_
  refine o_getL (pc := 82) fd_RX9_166 ft_1000_52 j_1000 dX9_ticks_82 ?_
  refine o_ladd (pc := 85) dX9_ticks_85 ?_
  refine o_putL (pc := 86) fd_RX9_235 fp_1000_9 ft_1000_9 j_1000 dX9_ticks_86 ?_
  refine o_nmS (fun zS6 hx => ?_)
  have h := oH_let h zS6 hx
  clear hx
  refine o_aload_n (pc := 89) dX9_ticks_89 rfl 0 rfl ?_
  refine o_iconst (v := 0) (pc := 90) dX9_ticks_90 (by decide) ?_
  refine o_putI (pc := 91) fd_RX9_222 fp_1000_12 ft_1000_12 (oBl_n (by decide)) (oBl_f (by decide)) j_1000 dX9_ticks_91 ?_
  refine o_nmS (fun zS7 hx => ?_)
  have h := oH_let h zS7 hx
  clear hx
  refine o_aload_n (pc := 94) dX9_ticks_94 rfl 0 rfl ?_
  refine o_dup (pc := 95) dX9_ticks_95 rfl ?_
  refine o_getI (pc := 96) fd_RX9_238 ft_1000_11 j_1000 dX9_ticks_96 ?_
  refine o_iconst (v := 1) (pc := 99) dX9_ticks_99 (by decide) ?_
  refine o_iadd (pc := 100) dX9_ticks_100 ?_
  refine o_putI (pc := 101) fd_RX9_238 fp_1000_11 ft_1000_11 rfl rfl j_1000 dX9_ticks_101 ?_
  refine o_nmS (fun zS8 hx => ?_)
  have h := oH_let h zS8 hx
  clear hx
  refine o_iconst (v := 0) (pc := 104) dX9_ticks_104 (by decide) ?_
  refine o_istore (lv1 := [(0, orf 1000 0), (1, oi zv1), (2, oi zv2), (3, ol zv3), (5, oi (0 : Int32))]) (pc := 105) dX9_ticks_105 (by decide) rfl ?_
  refine o_weak [0, 1, 2, 4] rfl ?_
  have h := oH_bind h
  refine s_X9_ticks_L107 he hR  (fun zz11 h => ?_) _ ((0 : Int32), zS8) h
  refine o_iconst (v := 0) (pc := 134) dX9_ticks_134 (by decide) ?_
  refine o_istore (lv1 := [(0, orf 1000 0), (1, oi zv1), (2, oi zv2), (5, oi (0 : Int32))]) (pc := 135) dX9_ticks_135 (by decide) rfl ?_
  have h := oH_bind h
  refine s_X9_ticks_L137 he hR  (fun zz14 h => ?_) _ ((0 : Int32), zz11) h
  obtain ⟨zx15, hx⟩ : ∃ y : Int32, y = zv2 + (1 : Int32) := ⟨_, rfl⟩
  have h := oH_let h zx15 hx
  refine o_iinc (lv1 := [(0, orf 1000 0), (1, oi zv1), (2, oi zx15)]) (pc := 163) dX9_ticks_163 2 rfl hx.symm (by decide) rfl ?_
  clear hx
  refine o_goto 15 (pc := 166) dX9_ticks_166 (by decide) ?_
  exact hVH _ (oH_some (P := fun z => Sum.elim VH VE z) h)
def f_X9_ticks_L15 (zv1 : Int32) : Int32 × oS → Option ((Int32 × oS) ⊕ (oS)) := fun w =>
  match w with
  | (zv2, S) =>
    if zv1 ≤ zv2 then (
    some (Sum.inr S)) else (
    (f_X9_takeNow S).bind fun zz2 =>
    if (zz2.1 1000 0 5) ≤ 0 then (
    f_X9_ticks_K53 zv1 zv2 (0 : Int64) zz2) else (
    (f_X9_burnt (zz2.1 1007 0 (Int32.toNatClampNeg (0 : Int32))) (zz2.1 1008 0 (Int32.toNatClampNeg (0 : Int32))) zz2).bind fun zz16 =>
    (f_X9_dropLog zz16.2).bind fun zz17 =>
    f_X9_ticks_K53 zv1 zv2 zz16.1 zz17))
set_option maxHeartbeats 4000000 in
theorem s_X9_ticks_L15b {X : oX} {e : Nat} (he : 3 ≤ e) (hR : oRoom X (e + 1)) {zv1 : Int32} {VH : Int32 × oS → Prop} {VE : oS → Prop} (hVH : ∀ z, VH z → oVv X mX9_ticks 15 [(0, orf 1000 0), (1, oi zv1), (2, oi z.1)] [] z.2) (hVE : ∀ z, VE z → oVv X mX9_ticks 169 [(0, orf 1000 0)] [] z) {zv2 : Int32} {S : oS} (h : oH (f_X9_ticks_L15 zv1 (zv2, S)) (fun z => Sum.elim VH VE z)) : oVv X mX9_ticks 15 [(0, orf 1000 0), (1, oi zv1), (2, oi zv2)] [] S := by
  dsimp only [f_X9_ticks_L15] at h
  refine o_iload_n (pc := 15) dX9_ticks_15 rfl 2 rfl ?_
  refine o_iload_n (pc := 16) dX9_ticks_16 rfl 1 rfl ?_
  refine o_icmp_ge 169 (pc := 17) dX9_ticks_17 (by decide) (fun hc => ?_) (fun hc => ?_)
  · have h := oH_T hc h
    refine o_weak [0] rfl ?_
    exact hVE _ (oH_some (P := fun z => Sum.elim VH VE z) h)
  · have h := oH_F hc h
    refine o_aload_n (pc := 20) dX9_ticks_20 rfl 0 rfl ?_
    have h := oH_bind h
    refine o_callVv (pc := 21) (st := []) [] hR md_X9_takeNow wd_1090 wd_1092 ws_22 tc_1000 j_1000 rfl (Nat.le_of_ble_eq_true rfl) rfl dX9_ticks_21 (s_X9_takeNow e (by omega)  h) (fun zz2 h => ?_)
    refine o_lconst (v := 0) (pc := 24) dX9_ticks_24 (by decide) ?_
    refine o_lstore_n (lv1 := [(0, orf 1000 0), (1, oi zv1), (2, oi zv2), (3, ol (0 : Int64))]) (pc := 25) dX9_ticks_25 rfl (by decide) rfl ?_
    refine o_aload_n (pc := 26) dX9_ticks_26 rfl 0 rfl ?_
    refine o_getI (pc := 27) fd_RX9_163 ft_1000_5 j_1000 dX9_ticks_27 ?_
    refine o_if_le 53 (pc := 30) dX9_ticks_30 (by decide) (fun hc => ?_) (fun hc => ?_)
    · have h := oH_T hc h
      exact s_X9_ticks_K53 he hR  hVH hVE h
    · have h := oH_F hc h
      refine o_aload_n (pc := 33) dX9_ticks_33 rfl 0 rfl ?_
      refine o_getA (pc := 34) fd_RX9_24 ft_1000_6 j_1000 dX9_ticks_34 ?_
      refine o_iconst (v := 0) (pc := 37) dX9_ticks_37 (by decide) ?_
      refine o_iald (pc := 38) kd_1007 j_1007 (by decide) dX9_ticks_38 ?_
      refine o_aload_n (pc := 39) dX9_ticks_39 rfl 0 rfl ?_
      refine o_getA (pc := 40) fd_RX9_27 ft_1000_7 j_1000 dX9_ticks_40 ?_
      refine o_iconst (v := 0) (pc := 43) dX9_ticks_43 (by decide) ?_
      refine o_iald (pc := 44) kd_1008 j_1008 (by decide) dX9_ticks_44 ?_
      have h := oH_bind h
      refine o_callSl (pc := 45) (st := []) [oi (zz2.1 1007 0 (Int32.toNatClampNeg (0 : Int32))), oi (zz2.1 1008 0 (Int32.toNatClampNeg (0 : Int32)))] hR md_X9_burnt wd_1094 wd_1095 rfl (Nat.le_of_ble_eq_true rfl) rfl dX9_ticks_45 (s_X9_burnt e (by omega)  h) (fun zz16 h => ?_)
      refine o_lstore_n (lv1 := [(0, orf 1000 0), (1, oi zv1), (2, oi zv2), (3, ol zz16.1)]) (pc := 48) dX9_ticks_48 rfl (by decide) rfl ?_
      refine o_aload_n (pc := 49) dX9_ticks_49 rfl 0 rfl ?_
      have h := oH_bind h
      refine o_callVv (pc := 50) (st := []) [] hR md_X9_dropLog wd_1097 wd_1099 ws_23 tc_1000 j_1000 rfl (Nat.le_of_ble_eq_true rfl) rfl dX9_ticks_50 (s_X9_dropLog e (by omega)  h) (fun zz17 h => ?_)
      exact s_X9_ticks_K53 he hR  hVH hVE h
theorem s_X9_ticks_L15 {X : oX} {e : Nat} (he : 3 ≤ e) (hR : oRoom X (e + 1)) {zv1 : Int32}  {VE : oS → Prop} (hVE : ∀ z, VE z → oVv X mX9_ticks 169 [(0, orf 1000 0)] [] z) (n : Nat) (w : Int32 × oS) (h : oH (oLp (f_X9_ticks_L15 zv1) n w) VE) : oVv X mX9_ticks 15 [(0, orf 1000 0), (1, oi zv1), (2, oi w.1)] [] w.2 :=
  oLp_s (VH := fun w => oVv X mX9_ticks 15 [(0, orf 1000 0), (1, oi zv1), (2, oi w.1)] [] w.2) (fun w h => s_X9_ticks_L15b he hR  (fun _ h => h) hVE h) n w h
def f_X9_ticks  (za1 : Int32) (S : oS) : Option (Int32 × oS) :=
  (f_X9_in za1 (1 : Int32) (60 : Int32) S).bind fun zz1 =>
  if zz1.1 = 0 then (
  some ((-2 : Int32), zz1.2)) else (
  (oLp (f_X9_ticks_L15 za1) oFu ((0 : Int32), zz1.2)).bind fun zz18 =>
  some (zz18.1 1000 0 5, zz18))
set_option maxHeartbeats 4000000 in
theorem s_X9_ticks {G : oG} {r : oR} (d : Nat) (hd : 4 ≤ d) {za1 : Int32}  {S : oS} {P : Int32 × oS → Prop} (h : oH (f_X9_ticks za1 S) P) : oCt G r d yX9_ticks mX9_ticks [orf 1000 0, oi za1] S (oQi P) := by
  unfold f_X9_ticks at h
  refine oCt_of (by decide) rfl (Nat.le_of_ble_eq_true rfl) ?_
  intro X hG hr hE0 hR
  subst hG; subst hr
  obtain ⟨e, rfl⟩ : ∃ e, d = e + 1 := ⟨d - 1, by omega⟩
  have he : 3 ≤ e := by omega
  have hE := oEI_of hE0 rfl
  clear hE0 hd
  show oVv X mX9_ticks 0 [(0, orf 1000 0), (1, oi za1)] [] S
  refine o_iload_n (pc := 0) dX9_ticks_0 rfl 1 rfl ?_
  refine o_iconst (v := 1) (pc := 1) dX9_ticks_1 (by decide) ?_
  refine o_bipush (v := 60) (pc := 2) dX9_ticks_2 (by decide) ?_
  have h := oH_bind h
  refine o_callSi (pc := 4) (st := []) [oi za1, oi (1 : Int32), oi (60 : Int32)] hR md_X9_in wd_1061 wd_1062 rfl (Nat.le_of_ble_eq_true rfl) rfl dX9_ticks_4 (s_X9_in e (by omega)  h) (fun zz1 h => ?_)
  refine o_if_ne 13 (pc := 7) dX9_ticks_7 (by decide) (fun hc => ?_) (fun hc => ?_)
  · have h := oH_F hc h
    refine o_iconst (v := 0) (pc := 13) dX9_ticks_13 (by decide) ?_
    refine o_istore_n (lv1 := [(0, orf 1000 0), (1, oi za1), (2, oi (0 : Int32))]) (pc := 14) dX9_ticks_14 rfl (by decide) rfl ?_
    have h := oH_bind h
    refine s_X9_ticks_L15 he hR  (fun zz18 h => ?_) _ ((0 : Int32), zz1.2) h
    refine o_aload_n (pc := 169) dX9_ticks_169 rfl 0 rfl ?_
    refine o_getI (pc := 170) fd_RX9_163 ft_1000_5 j_1000 dX9_ticks_170 ?_
    exact hE _ _ _ _ dX9_ticks_173 (oH_some h)
  · have h := oH_T hc h
    refine o_bipush (v := -2) (pc := 10) dX9_ticks_10 (by decide) ?_
    exact hE _ _ _ _ dX9_ticks_12 (oH_some h)
def f_X9_told  (za1 : Int32) (za2 : Int32) (za3 : Int32) (za4 : Int32) (S : oS) : Option (Int32 × oS) :=
  (f_X9_isWeek za1 S).bind fun zz1 =>
  if zz1.1 = 0 then (
  some ((-2 : Int32), zz1.2)) else (
  (f_X9_isHouse za2 zz1.2).bind fun zz2 =>
  if zz2.1 = 0 then (
  some ((-2 : Int32), zz2.2)) else (
  (f_X9_isHouse za3 zz2.2).bind fun zz3 =>
  if zz3.1 = 0 then (
  some ((-2 : Int32), zz3.2)) else (
  if za2 = za3 then (
  some ((-2 : Int32), zz3.2)) else (
  if (zz3.2.1 1000 0 40) = (30 : Int32) then (
  some ((-4 : Int32), zz3.2)) else (
  if oIn (zz3.2.1 1000 0 40) 30 then (
  oLet (oStI zz3.2 1042 0 (Int32.toNatClampNeg (zz3.2.1 1000 0 40)) za1) fun zS4 =>
  if oIn (zS4.1 1000 0 40) 30 then (
  oLet (oStI zS4 1043 0 (Int32.toNatClampNeg (zS4.1 1000 0 40)) za2) fun zS5 =>
  if oIn (zS5.1 1000 0 40) 30 then (
  oLet (oStI zS5 1044 0 (Int32.toNatClampNeg (zS5.1 1000 0 40)) za3) fun zS6 =>
  if oIn (zS6.1 1000 0 40) 30 then (
  if oBl za4 then (
  oLet (oStI zS6 1045 0 (Int32.toNatClampNeg (zS6.1 1000 0 40)) za4) fun zS7 =>
  oLet (oStI zS7 1000 0 40 ((zS7.1 1000 0 40) + (1 : Int32))) fun zS8 =>
  some ((1 : Int32), zS8)) else none) else none) else none) else none) else none)))))
set_option maxHeartbeats 4000000 in
theorem s_X9_told {G : oG} {r : oR} (d : Nat) (hd : 3 ≤ d) {za1 : Int32} {za2 : Int32} {za3 : Int32} {za4 : Int32}  {S : oS} {P : Int32 × oS → Prop} (h : oH (f_X9_told za1 za2 za3 za4 S) P) : oCt G r d yX9_told mX9_told [orf 1000 0, oi za1, oi za2, oi za3, oi za4] S (oQi P) := by
  unfold f_X9_told at h
  refine oCt_of (by decide) rfl (Nat.le_of_ble_eq_true rfl) ?_
  intro X hG hr hE0 hR
  subst hG; subst hr
  obtain ⟨e, rfl⟩ : ∃ e, d = e + 1 := ⟨d - 1, by omega⟩
  have he : 2 ≤ e := by omega
  have hE := oEI_of hE0 rfl
  clear hE0 hd
  show oVv X mX9_told 0 [(0, orf 1000 0), (1, oi za1), (2, oi za2), (3, oi za3), (4, oi za4)] [] S
  refine o_iload_n (pc := 0) dX9_told_0 rfl 1 rfl ?_
  have h := oH_bind h
  refine o_callSi (pc := 1) (st := []) [oi za1] hR md_X9_isWeek wd_1297 wd_1298 rfl (Nat.le_of_ble_eq_true rfl) rfl dX9_told_1 (s_X9_isWeek e (by omega)  h) (fun zz1 h => ?_)
  refine o_if_eq 28 (pc := 4) dX9_told_4 (by decide) (fun hc => ?_) (fun hc => ?_)
  · have h := oH_T hc h
    refine o_bipush (v := -2) (pc := 28) dX9_told_28 (by decide) ?_
    exact hE _ _ _ _ dX9_told_30 (oH_some h)
  · have h := oH_F hc h
    refine o_aload_n (pc := 7) dX9_told_7 rfl 0 rfl ?_
    refine o_iload_n (pc := 8) dX9_told_8 rfl 2 rfl ?_
    have h := oH_bind h
    refine o_callVi (pc := 9) (st := []) [oi za2] hR md_X9_isHouse wd_1300 wd_1302 ws_50 tc_1000 j_1000 rfl (Nat.le_of_ble_eq_true rfl) rfl dX9_told_9 (s_X9_isHouse e (by omega)  h) (fun zz2 h => ?_)
    refine o_if_eq 28 (pc := 12) dX9_told_12 (by decide) (fun hc => ?_) (fun hc => ?_)
    · have h := oH_T hc h
      refine o_bipush (v := -2) (pc := 28) dX9_told_28 (by decide) ?_
      exact hE _ _ _ _ dX9_told_30 (oH_some h)
    · have h := oH_F hc h
      refine o_aload_n (pc := 15) dX9_told_15 rfl 0 rfl ?_
      refine o_iload_n (pc := 16) dX9_told_16 rfl 3 rfl ?_
      have h := oH_bind h
      refine o_callVi (pc := 17) (st := []) [oi za3] hR md_X9_isHouse wd_1300 wd_1302 ws_50 tc_1000 j_1000 rfl (Nat.le_of_ble_eq_true rfl) rfl dX9_told_17 (s_X9_isHouse e (by omega)  h) (fun zz3 h => ?_)
      refine o_if_eq 28 (pc := 20) dX9_told_20 (by decide) (fun hc => ?_) (fun hc => ?_)
      · have h := oH_T hc h
        refine o_bipush (v := -2) (pc := 28) dX9_told_28 (by decide) ?_
        exact hE _ _ _ _ dX9_told_30 (oH_some h)
      · have h := oH_F hc h
        refine o_iload_n (pc := 23) dX9_told_23 rfl 2 rfl ?_
        refine o_iload_n (pc := 24) dX9_told_24 rfl 3 rfl ?_
        refine o_icmp_ne 31 (pc := 25) dX9_told_25 (by decide) (fun hc => ?_) (fun hc => ?_)
        · have h := oH_F hc h
          refine o_aload_n (pc := 31) dX9_told_31 rfl 0 rfl ?_
          refine o_getI (pc := 32) fd_RX9_337 ft_1000_40 j_1000 dX9_told_32 ?_
          refine o_bipush (v := 30) (pc := 35) dX9_told_35 (by decide) ?_
          refine o_icmp_ne 43 (pc := 37) dX9_told_37 (by decide) (fun hc => ?_) (fun hc => ?_)
          · have h := oH_F hc h
            refine o_aload_n (pc := 43) dX9_told_43 rfl 0 rfl ?_
            refine o_getA (pc := 44) fd_RX9_91 ft_1000_41 j_1000 dX9_told_44 ?_
            refine o_aload_n (pc := 47) dX9_told_47 rfl 0 rfl ?_
            refine o_getI (pc := 48) fd_RX9_337 ft_1000_40 j_1000 dX9_told_48 ?_
            refine o_iload_n (pc := 51) dX9_told_51 rfl 1 rfl ?_
            obtain ⟨hg, h⟩ := oH_G h
            have hgi := hg
            refine o_iast (pc := 52) kd_1042 j_1042 hgi dX9_told_52 ?_
            refine o_nmS (fun zS4 hx => ?_)
            have h := oH_let h zS4 hx
            clear hx
            refine o_aload_n (pc := 53) dX9_told_53 rfl 0 rfl ?_
            refine o_getA (pc := 54) fd_RX9_94 ft_1000_42 j_1000 dX9_told_54 ?_
            refine o_aload_n (pc := 57) dX9_told_57 rfl 0 rfl ?_
            refine o_getI (pc := 58) fd_RX9_337 ft_1000_40 j_1000 dX9_told_58 ?_
            refine o_iload_n (pc := 61) dX9_told_61 rfl 2 rfl ?_
            obtain ⟨hg, h⟩ := oH_G h
            have hgi := hg
            refine o_iast (pc := 62) kd_1043 j_1043 hgi dX9_told_62 ?_
            refine o_nmS (fun zS5 hx => ?_)
            have h := oH_let h zS5 hx
            clear hx
            refine o_aload_n (pc := 63) dX9_told_63 rfl 0 rfl ?_
            refine o_getA (pc := 64) fd_RX9_97 ft_1000_43 j_1000 dX9_told_64 ?_
            refine o_aload_n (pc := 67) dX9_told_67 rfl 0 rfl ?_
            refine o_getI (pc := 68) fd_RX9_337 ft_1000_40 j_1000 dX9_told_68 ?_
            refine o_iload_n (pc := 71) dX9_told_71 rfl 3 rfl ?_
            obtain ⟨hg, h⟩ := oH_G h
            have hgi := hg
            refine o_iast (pc := 72) kd_1044 j_1044 hgi dX9_told_72 ?_
            refine o_nmS (fun zS6 hx => ?_)
            have h := oH_let h zS6 hx
            clear hx
            refine o_aload_n (pc := 73) dX9_told_73 rfl 0 rfl ?_
            refine o_getA (pc := 74) fd_RX9_100 ft_1000_44 j_1000 dX9_told_74 ?_
            refine o_aload_n (pc := 77) dX9_told_77 rfl 0 rfl ?_
            refine o_getI (pc := 78) fd_RX9_337 ft_1000_40 j_1000 dX9_told_78 ?_
            refine o_iload (pc := 81) dX9_told_81 4 rfl ?_
            obtain ⟨hg, h⟩ := oH_G h
            have hgi := hg
            obtain ⟨hg, h⟩ := oH_G h
            refine o_zast (pc := 83) kd_1045 j_1045 hgi (oBl_p hg) dX9_told_83 ?_
            refine o_nmS (fun zS7 hx => ?_)
            have h := oH_let h zS7 hx
            clear hx
            refine o_aload_n (pc := 84) dX9_told_84 rfl 0 rfl ?_
            refine o_dup (pc := 85) dX9_told_85 rfl ?_
            refine o_getI (pc := 86) fd_RX9_337 ft_1000_40 j_1000 dX9_told_86 ?_
            refine o_iconst (v := 1) (pc := 89) dX9_told_89 (by decide) ?_
            refine o_iadd (pc := 90) dX9_told_90 ?_
            refine o_putI (pc := 91) fd_RX9_337 fp_1000_40 ft_1000_40 rfl rfl j_1000 dX9_told_91 ?_
            refine o_nmS (fun zS8 hx => ?_)
            have h := oH_let h zS8 hx
            clear hx
            refine o_iconst (v := 1) (pc := 94) dX9_told_94 (by decide) ?_
            exact hE _ _ _ _ dX9_told_95 (oH_some h)
          · have h := oH_T hc h
            refine o_bipush (v := -4) (pc := 40) dX9_told_40 (by decide) ?_
            exact hE _ _ _ _ dX9_told_42 (oH_some h)
        · have h := oH_T hc h
          refine o_bipush (v := -2) (pc := 28) dX9_told_28 (by decide) ?_
          exact hE _ _ _ _ dX9_told_30 (oH_some h)
def f_X9_waits_K106 (zv1 : Int32) (zv3 : Int32) (zv4 : Int32) (zv5 : Int32) (zv7 : Int32) (zs0 : Int32) (S : oS) : Option ((Int32 × Int32 × Int32 × oS) ⊕ (Int32 × Int32 × oS)) :=
  oLet (zv7 + (1 : Int32)) fun zx8 =>
  some (Sum.inl (zv5, zs0, zx8, S))
set_option maxHeartbeats 4000000 in
theorem s_X9_waits_K106 {X : oX} {e : Nat} (he : 3 ≤ e) (hR : oRoom X (e + 1)) {zv1 : Int32} {zv3 : Int32} {zv4 : Int32} {zv5 : Int32} {zv7 : Int32} {zs0 : Int32} {VH : Int32 × Int32 × Int32 × oS → Prop} {VE : Int32 × Int32 × oS → Prop} (hVH : ∀ z, VH z → oVv X mX9_waits 49 [(0, orf 1000 0), (1, oi zv1), (3, oi zv3), (4, oi zv4), (5, oi z.1), (6, oi z.2.1), (7, oi z.2.2.1)] [] z.2.2.2) (hVE : ∀ z, VE z → oVv X mX9_waits 114 [(4, oi zv4), (5, oi z.1), (6, oi z.2.1)] [] z.2.2) {S : oS} (h : oH (f_X9_waits_K106 zv1 zv3 zv4 zv5 zv7 zs0 S) (fun z => Sum.elim VH VE z)) : oVv X mX9_waits 106 [(0, orf 1000 0), (1, oi zv1), (3, oi zv3), (4, oi zv4), (5, oi zv5), (7, oi zv7)] [oi zs0] S := by
  unfold f_X9_waits_K106 at h
  refine o_istore (lv1 := [(0, orf 1000 0), (1, oi zv1), (3, oi zv3), (4, oi zv4), (5, oi zv5), (6, oi zs0), (7, oi zv7)]) (pc := 106) dX9_waits_106 (by decide) rfl ?_
  obtain ⟨zx8, hx⟩ : ∃ y : Int32, y = zv7 + (1 : Int32) := ⟨_, rfl⟩
  have h := oH_let h zx8 hx
  refine o_iinc (lv1 := [(0, orf 1000 0), (1, oi zv1), (3, oi zv3), (4, oi zv4), (5, oi zv5), (6, oi zs0), (7, oi zx8)]) (pc := 108) dX9_waits_108 6 rfl hx.symm (by decide) rfl ?_
  clear hx
  refine o_goto 49 (pc := 111) dX9_waits_111 (by decide) ?_
  exact hVH _ (oH_some (P := fun z => Sum.elim VH VE z) h)
def f_X9_waits_K104 (zv1 : Int32) (zv3 : Int32) (zv4 : Int32) (zv5 : Int32) (zv6 : Int32) (zv7 : Int32) (S : oS) : Option ((Int32 × Int32 × Int32 × oS) ⊕ (Int32 × Int32 × oS)) :=
  f_X9_waits_K106 zv1 zv3 zv4 zv5 zv7 zv6 S
set_option maxHeartbeats 4000000 in
theorem s_X9_waits_K104 {X : oX} {e : Nat} (he : 3 ≤ e) (hR : oRoom X (e + 1)) {zv1 : Int32} {zv3 : Int32} {zv4 : Int32} {zv5 : Int32} {zv6 : Int32} {zv7 : Int32} {VH : Int32 × Int32 × Int32 × oS → Prop} {VE : Int32 × Int32 × oS → Prop} (hVH : ∀ z, VH z → oVv X mX9_waits 49 [(0, orf 1000 0), (1, oi zv1), (3, oi zv3), (4, oi zv4), (5, oi z.1), (6, oi z.2.1), (7, oi z.2.2.1)] [] z.2.2.2) (hVE : ∀ z, VE z → oVv X mX9_waits 114 [(4, oi zv4), (5, oi z.1), (6, oi z.2.1)] [] z.2.2) {S : oS} (h : oH (f_X9_waits_K104 zv1 zv3 zv4 zv5 zv6 zv7 S) (fun z => Sum.elim VH VE z)) : oVv X mX9_waits 104 [(0, orf 1000 0), (1, oi zv1), (3, oi zv3), (4, oi zv4), (5, oi zv5), (6, oi zv6), (7, oi zv7)] [] S := by
  unfold f_X9_waits_K104 at h
  refine o_iload (pc := 104) dX9_waits_104 5 rfl ?_
  refine o_weak [0, 1, 2, 3, 4, 6] rfl ?_
  exact s_X9_waits_K106 he hR  hVH hVE h
def f_X9_waits_K80 (zv1 : Int32) (zv3 : Int32) (zv4 : Int32) (zv6 : Int32) (zv7 : Int32) (zs0 : Int32) (zs1 : Int32) (S : oS) : Option ((Int32 × Int32 × Int32 × oS) ⊕ (Int32 × Int32 × oS)) :=
  oLet ((zs0 + zs1)) fun zx7 =>
  if zv6 = (-1 : Int32) then (
  if (S.1 1065 0 (Int32.toNatClampNeg (0 : Int32))) = zv1 then (
  f_X9_waits_K106 zv1 zv3 zv4 zx7 zv7 zv7 S) else (
  f_X9_waits_K104 zv1 zv3 zv4 zx7 zv6 zv7 S)) else (
  f_X9_waits_K104 zv1 zv3 zv4 zx7 zv6 zv7 S)
set_option maxHeartbeats 4000000 in
theorem s_X9_waits_K80 {X : oX} {e : Nat} (he : 3 ≤ e) (hR : oRoom X (e + 1)) {zv1 : Int32} {zv3 : Int32} {zv4 : Int32} {zv6 : Int32} {zv7 : Int32} {zs0 : Int32} {zs1 : Int32} {VH : Int32 × Int32 × Int32 × oS → Prop} {VE : Int32 × Int32 × oS → Prop} (hVH : ∀ z, VH z → oVv X mX9_waits 49 [(0, orf 1000 0), (1, oi zv1), (3, oi zv3), (4, oi zv4), (5, oi z.1), (6, oi z.2.1), (7, oi z.2.2.1)] [] z.2.2.2) (hVE : ∀ z, VE z → oVv X mX9_waits 114 [(4, oi zv4), (5, oi z.1), (6, oi z.2.1)] [] z.2.2) {S : oS} (h : oH (f_X9_waits_K80 zv1 zv3 zv4 zv6 zv7 zs0 zs1 S) (fun z => Sum.elim VH VE z)) : oVv X mX9_waits 80 [(0, orf 1000 0), (1, oi zv1), (3, oi zv3), (4, oi zv4), (6, oi zv6), (7, oi zv7)] [oi zs1, oi zs0] S := by
  unfold f_X9_waits_K80 at h
  refine o_iadd (pc := 80) dX9_waits_80 ?_
  refine o_nmI (fun zx7 hx => ?_)
  have h := oH_let h zx7 hx
  clear hx
  refine o_istore (lv1 := [(0, orf 1000 0), (1, oi zv1), (3, oi zv3), (4, oi zv4), (5, oi zx7), (6, oi zv6), (7, oi zv7)]) (pc := 81) dX9_waits_81 (by decide) rfl ?_
  refine o_iload (pc := 83) dX9_waits_83 5 rfl ?_
  refine o_iconst (v := -1) (pc := 85) dX9_waits_85 (by decide) ?_
  refine o_icmp_ne 104 (pc := 86) dX9_waits_86 (by decide) (fun hc => ?_) (fun hc => ?_)
  · have h := oH_F hc h
    exact s_X9_waits_K104 he hR  hVH hVE h
  · have h := oH_T hc h
    refine o_aload_n (pc := 89) dX9_waits_89 rfl 0 rfl ?_
    refine o_getA (pc := 90) fd_RX9_139 ft_1000_64 j_1000 dX9_waits_90 ?_
    refine o_iconst (v := 0) (pc := 93) dX9_waits_93 (by decide) ?_
    refine o_iald (pc := 94) kd_1065 j_1065 (by decide) dX9_waits_94 ?_
    refine o_iload_n (pc := 95) dX9_waits_95 rfl 1 rfl ?_
    refine o_icmp_ne 104 (pc := 96) dX9_waits_96 (by decide) (fun hc => ?_) (fun hc => ?_)
    · have h := oH_F hc h
      exact s_X9_waits_K104 he hR  hVH hVE h
    · have h := oH_T hc h
      refine o_iload (pc := 99) dX9_waits_99 6 rfl ?_
      refine o_goto 106 (pc := 101) dX9_waits_101 (by decide) ?_
      refine o_weak [0, 1, 2, 3, 4, 6] rfl ?_
      exact s_X9_waits_K106 he hR  hVH hVE h
def f_X9_waits_L49 (zv1 : Int32) (zv3 : Int32) (zv4 : Int32) : Int32 × Int32 × Int32 × oS → Option ((Int32 × Int32 × Int32 × oS) ⊕ (Int32 × Int32 × oS)) := fun w =>
  match w with
  | (zv5, zv6, zv7, S) =>
    if zv3 < zv7 then (
    some (Sum.inr (zv5, zv6, S))) else (
    (f_X9_layRow zv7 S).bind fun zz5 =>
    (f_X9_placeOf zv1 zz5).bind fun zz6 =>
    if zz6.1 < (zz6.2.1 1000 0 39) then (
    f_X9_waits_K80 zv1 zv3 zv4 zv6 zv7 zv5 (0 : Int32) zz6.2) else (
    f_X9_waits_K80 zv1 zv3 zv4 zv6 zv7 zv5 (1 : Int32) zz6.2))
set_option maxHeartbeats 4000000 in
theorem s_X9_waits_L49b {X : oX} {e : Nat} (he : 3 ≤ e) (hR : oRoom X (e + 1)) {zv1 : Int32} {zv3 : Int32} {zv4 : Int32} {VH : Int32 × Int32 × Int32 × oS → Prop} {VE : Int32 × Int32 × oS → Prop} (hVH : ∀ z, VH z → oVv X mX9_waits 49 [(0, orf 1000 0), (1, oi zv1), (3, oi zv3), (4, oi zv4), (5, oi z.1), (6, oi z.2.1), (7, oi z.2.2.1)] [] z.2.2.2) (hVE : ∀ z, VE z → oVv X mX9_waits 114 [(4, oi zv4), (5, oi z.1), (6, oi z.2.1)] [] z.2.2) {zv5 : Int32} {zv6 : Int32} {zv7 : Int32} {S : oS} (h : oH (f_X9_waits_L49 zv1 zv3 zv4 (zv5, zv6, zv7, S)) (fun z => Sum.elim VH VE z)) : oVv X mX9_waits 49 [(0, orf 1000 0), (1, oi zv1), (3, oi zv3), (4, oi zv4), (5, oi zv5), (6, oi zv6), (7, oi zv7)] [] S := by
  dsimp only [f_X9_waits_L49] at h
  refine o_iload (pc := 49) dX9_waits_49 6 rfl ?_
  refine o_iload_n (pc := 51) dX9_waits_51 rfl 2 rfl ?_
  refine o_icmp_gt 114 (pc := 52) dX9_waits_52 (by decide) (fun hc => ?_) (fun hc => ?_)
  · have h := oH_T hc h
    refine o_weak [3, 4, 5] rfl ?_
    exact hVE _ (oH_some (P := fun z => Sum.elim VH VE z) h)
  · have h := oH_F hc h
    refine o_aload_n (pc := 55) dX9_waits_55 rfl 0 rfl ?_
    refine o_iload (pc := 56) dX9_waits_56 6 rfl ?_
    have h := oH_bind h
    refine o_callVv (pc := 58) (st := []) [oi zv7] hR md_X9_layRow wd_1312 wd_1314 ws_51 tc_1000 j_1000 rfl (Nat.le_of_ble_eq_true rfl) rfl dX9_waits_58 (s_X9_layRow e (by omega)  h) (fun zz5 h => ?_)
    refine o_iload (pc := 61) dX9_waits_61 4 rfl ?_
    refine o_aload_n (pc := 63) dX9_waits_63 rfl 0 rfl ?_
    refine o_iload_n (pc := 64) dX9_waits_64 rfl 1 rfl ?_
    have h := oH_bind h
    refine o_callVi (pc := 65) (st := [oi zv5]) [oi zv1] hR md_X9_placeOf wd_1328 wd_1330 ws_54 tc_1000 j_1000 rfl (Nat.le_of_ble_eq_true rfl) rfl dX9_waits_65 (s_X9_placeOf e (by omega)  h) (fun zz6 h => ?_)
    refine o_aload_n (pc := 68) dX9_waits_68 rfl 0 rfl ?_
    refine o_getI (pc := 69) fd_RX9_88 ft_1000_39 j_1000 dX9_waits_69 ?_
    refine o_icmp_lt 79 (pc := 72) dX9_waits_72 (by decide) (fun hc => ?_) (fun hc => ?_)
    · have h := oH_T hc h
      refine o_iconst (v := 0) (pc := 79) dX9_waits_79 (by decide) ?_
      refine o_weak [0, 1, 2, 3, 5, 6] rfl ?_
      exact s_X9_waits_K80 he hR  hVH hVE h
    · have h := oH_F hc h
      refine o_iconst (v := 1) (pc := 75) dX9_waits_75 (by decide) ?_
      refine o_goto 80 (pc := 76) dX9_waits_76 (by decide) ?_
      refine o_weak [0, 1, 2, 3, 5, 6] rfl ?_
      exact s_X9_waits_K80 he hR  hVH hVE h
theorem s_X9_waits_L49 {X : oX} {e : Nat} (he : 3 ≤ e) (hR : oRoom X (e + 1)) {zv1 : Int32} {zv3 : Int32} {zv4 : Int32}  {VE : Int32 × Int32 × oS → Prop} (hVE : ∀ z, VE z → oVv X mX9_waits 114 [(4, oi zv4), (5, oi z.1), (6, oi z.2.1)] [] z.2.2) (n : Nat) (w : Int32 × Int32 × Int32 × oS) (h : oH (oLp (f_X9_waits_L49 zv1 zv3 zv4) n w) VE) : oVv X mX9_waits 49 [(0, orf 1000 0), (1, oi zv1), (3, oi zv3), (4, oi zv4), (5, oi w.1), (6, oi w.2.1), (7, oi w.2.2.1)] [] w.2.2.2 :=
  oLp_s (VH := fun w => oVv X mX9_waits 49 [(0, orf 1000 0), (1, oi zv1), (3, oi zv3), (4, oi zv4), (5, oi w.1), (6, oi w.2.1), (7, oi w.2.2.1)] [] w.2.2.2) (fun w h => s_X9_waits_L49b he hR  (fun _ h => h) hVE h) n w h
def f_X9_waits  (za1 : Int32) (za2 : Int32) (za3 : Int32) (za4 : Int32) (S : oS) : Option (Int32 × oS) :=
  (f_X9_isHouse za1 S).bind fun zz1 =>
  if zz1.1 = 0 then (
  some ((-2 : Int32), zz1.2)) else (
  (f_X9_isWeek za2 zz1.2).bind fun zz2 =>
  if zz2.1 = 0 then (
  some ((-2 : Int32), zz2.2)) else (
  (f_X9_isWeek za3 zz2.2).bind fun zz3 =>
  if zz3.1 = 0 then (
  some ((-2 : Int32), zz3.2)) else (
  if za3 < za2 then (
  some ((-2 : Int32), zz3.2)) else (
  (f_X9_in za4 (0 : Int32) (1 : Int32) zz3.2).bind fun zz4 =>
  if zz4.1 = 0 then (
  some ((-2 : Int32), zz4.2)) else (
  (oLp (f_X9_waits_L49 za1 za3 za4) oFu ((0 : Int32), (-1 : Int32), za2, zz4.2)).bind fun zz9 =>
  if za4 = 0 then (
  some (zz9.1, zz9.2.2)) else (
  some (zz9.2.1, zz9.2.2)))))))
set_option maxHeartbeats 4000000 in
theorem s_X9_waits {G : oG} {r : oR} (d : Nat) (hd : 4 ≤ d) {za1 : Int32} {za2 : Int32} {za3 : Int32} {za4 : Int32}  {S : oS} {P : Int32 × oS → Prop} (h : oH (f_X9_waits za1 za2 za3 za4 S) P) : oCt G r d yX9_waits mX9_waits [orf 1000 0, oi za1, oi za2, oi za3, oi za4] S (oQi P) := by
  unfold f_X9_waits at h
  refine oCt_of (by decide) rfl (Nat.le_of_ble_eq_true rfl) ?_
  intro X hG hr hE0 hR
  subst hG; subst hr
  obtain ⟨e, rfl⟩ : ∃ e, d = e + 1 := ⟨d - 1, by omega⟩
  have he : 3 ≤ e := by omega
  have hE := oEI_of hE0 rfl
  clear hE0 hd
  show oVv X mX9_waits 0 [(0, orf 1000 0), (1, oi za1), (2, oi za2), (3, oi za3), (4, oi za4)] [] S
  refine o_aload_n (pc := 0) dX9_waits_0 rfl 0 rfl ?_
  refine o_iload_n (pc := 1) dX9_waits_1 rfl 1 rfl ?_
  have h := oH_bind h
  refine o_callVi (pc := 2) (st := []) [oi za1] hR md_X9_isHouse wd_1300 wd_1302 ws_50 tc_1000 j_1000 rfl (Nat.le_of_ble_eq_true rfl) rfl dX9_waits_2 (s_X9_isHouse e (by omega)  h) (fun zz1 h => ?_)
  refine o_if_eq 37 (pc := 5) dX9_waits_5 (by decide) (fun hc => ?_) (fun hc => ?_)
  · have h := oH_T hc h
    refine o_bipush (v := -2) (pc := 37) dX9_waits_37 (by decide) ?_
    exact hE _ _ _ _ dX9_waits_39 (oH_some h)
  · have h := oH_F hc h
    refine o_iload_n (pc := 8) dX9_waits_8 rfl 2 rfl ?_
    have h := oH_bind h
    refine o_callSi (pc := 9) (st := []) [oi za2] hR md_X9_isWeek wd_1297 wd_1298 rfl (Nat.le_of_ble_eq_true rfl) rfl dX9_waits_9 (s_X9_isWeek e (by omega)  h) (fun zz2 h => ?_)
    refine o_if_eq 37 (pc := 12) dX9_waits_12 (by decide) (fun hc => ?_) (fun hc => ?_)
    · have h := oH_T hc h
      refine o_bipush (v := -2) (pc := 37) dX9_waits_37 (by decide) ?_
      exact hE _ _ _ _ dX9_waits_39 (oH_some h)
    · have h := oH_F hc h
      refine o_iload_n (pc := 15) dX9_waits_15 rfl 3 rfl ?_
      have h := oH_bind h
      refine o_callSi (pc := 16) (st := []) [oi za3] hR md_X9_isWeek wd_1297 wd_1298 rfl (Nat.le_of_ble_eq_true rfl) rfl dX9_waits_16 (s_X9_isWeek e (by omega)  h) (fun zz3 h => ?_)
      refine o_if_eq 37 (pc := 19) dX9_waits_19 (by decide) (fun hc => ?_) (fun hc => ?_)
      · have h := oH_T hc h
        refine o_bipush (v := -2) (pc := 37) dX9_waits_37 (by decide) ?_
        exact hE _ _ _ _ dX9_waits_39 (oH_some h)
      · have h := oH_F hc h
        refine o_iload_n (pc := 22) dX9_waits_22 rfl 2 rfl ?_
        refine o_iload_n (pc := 23) dX9_waits_23 rfl 3 rfl ?_
        refine o_icmp_gt 37 (pc := 24) dX9_waits_24 (by decide) (fun hc => ?_) (fun hc => ?_)
        · have h := oH_T hc h
          refine o_bipush (v := -2) (pc := 37) dX9_waits_37 (by decide) ?_
          exact hE _ _ _ _ dX9_waits_39 (oH_some h)
        · have h := oH_F hc h
          refine o_iload (pc := 27) dX9_waits_27 4 rfl ?_
          refine o_iconst (v := 0) (pc := 29) dX9_waits_29 (by decide) ?_
          refine o_iconst (v := 1) (pc := 30) dX9_waits_30 (by decide) ?_
          have h := oH_bind h
          refine o_callSi (pc := 31) (st := []) [oi za4, oi (0 : Int32), oi (1 : Int32)] hR md_X9_in wd_1061 wd_1062 rfl (Nat.le_of_ble_eq_true rfl) rfl dX9_waits_31 (s_X9_in e (by omega)  h) (fun zz4 h => ?_)
          refine o_if_ne 40 (pc := 34) dX9_waits_34 (by decide) (fun hc => ?_) (fun hc => ?_)
          · have h := oH_F hc h
            refine o_iconst (v := 0) (pc := 40) dX9_waits_40 (by decide) ?_
            refine o_istore (lv1 := [(0, orf 1000 0), (1, oi za1), (2, oi za2), (3, oi za3), (4, oi za4), (5, oi (0 : Int32))]) (pc := 41) dX9_waits_41 (by decide) rfl ?_
            refine o_iconst (v := -1) (pc := 43) dX9_waits_43 (by decide) ?_
            refine o_istore (lv1 := [(0, orf 1000 0), (1, oi za1), (2, oi za2), (3, oi za3), (4, oi za4), (5, oi (0 : Int32)), (6, oi (-1 : Int32))]) (pc := 44) dX9_waits_44 (by decide) rfl ?_
            refine o_iload_n (pc := 46) dX9_waits_46 rfl 2 rfl ?_
            refine o_istore (lv1 := [(0, orf 1000 0), (1, oi za1), (2, oi za2), (3, oi za3), (4, oi za4), (5, oi (0 : Int32)), (6, oi (-1 : Int32)), (7, oi za2)]) (pc := 47) dX9_waits_47 (by decide) rfl ?_
            refine o_weak [0, 1, 3, 4, 5, 6, 7] rfl ?_
            have h := oH_bind h
            refine s_X9_waits_L49 he hR  (fun zz9 h => ?_) _ ((0 : Int32), (-1 : Int32), za2, zz4.2) h
            refine o_iload (pc := 114) dX9_waits_114 0 rfl ?_
            refine o_if_ne 124 (pc := 116) dX9_waits_116 (by decide) (fun hc => ?_) (fun hc => ?_)
            · have h := oH_F hc h
              refine o_iload (pc := 124) dX9_waits_124 2 rfl ?_
              exact hE _ _ _ _ dX9_waits_126 (oH_some h)
            · have h := oH_T hc h
              refine o_iload (pc := 119) dX9_waits_119 1 rfl ?_
              refine o_goto 126 (pc := 121) dX9_waits_121 (by decide) ?_
              exact hE _ _ _ _ dX9_waits_126 (oH_some h)
          · have h := oH_T hc h
            refine o_bipush (v := -2) (pc := 37) dX9_waits_37 (by decide) ?_
            exact hE _ _ _ _ dX9_waits_39 (oH_some h)
def f_X9_wood_K134 (zv1 : Int32) (zv2 : Int32) (zv3 : Int32) (zv4 : Int32) (zv5 : Int32) (zv6 : Int32) (zv7 : Int32) (zs0 : Int64) (S : oS) : Option ((Int32 × oS) ⊕ (oS)) :=
  (f_X9_step zs0 (0 : Int32) S).bind fun zz7 =>
  oLet (zv7 + (1 : Int32)) fun zx8 =>
  some (Sum.inl (zx8, zz7))
set_option maxHeartbeats 4000000 in
theorem s_X9_wood_K134 {X : oX} {e : Nat} (he : 3 ≤ e) (hR : oRoom X (e + 1)) {zv1 : Int32} {zv2 : Int32} {zv3 : Int32} {zv4 : Int32} {zv5 : Int32} {zv6 : Int32} {zv7 : Int32} {zs0 : Int64} {VH : Int32 × oS → Prop} {VE : oS → Prop} (hVH : ∀ z, VH z → oVv X mX9_wood 68 [(0, orf 1000 0), (1, oi zv1), (2, oi zv2), (3, oi zv3), (4, oi zv4), (5, oi zv5), (6, oi zv6), (7, oi z.1)] [] z.2) (hVE : ∀ z, VE z → oVv X mX9_wood 149 [(0, orf 1000 0), (1, oi zv1), (2, oi zv2), (3, oi zv3), (4, oi zv4), (5, oi zv5), (6, oi zv6)] [] z) {S : oS} (h : oH (f_X9_wood_K134 zv1 zv2 zv3 zv4 zv5 zv6 zv7 zs0 S) (fun z => Sum.elim VH VE z)) : oVv X mX9_wood 134 [(0, orf 1000 0), (1, oi zv1), (2, oi zv2), (3, oi zv3), (4, oi zv4), (5, oi zv5), (6, oi zv6), (7, oi zv7)] [ol zs0] S := by
  unfold f_X9_wood_K134 at h
  refine o_lstore (lv1 := [(0, orf 1000 0), (1, oi zv1), (2, oi zv2), (3, oi zv3), (4, oi zv4), (5, oi zv5), (6, oi zv6), (7, oi zv7), (8, ol zs0)]) (pc := 134) dX9_wood_134 (by decide) rfl ?_
  refine o_aload_n (pc := 136) dX9_wood_136 rfl 0 rfl ?_
  refine o_lload (pc := 137) dX9_wood_137 8 rfl ?_
  refine o_iconst (v := 0) (pc := 139) dX9_wood_139 (by decide) ?_
  have h := oH_bind h
  refine o_callVv (pc := 140) (st := []) [ol zs0, oi (0 : Int32)] hR md_X9_step wd_1101 wd_1103 ws_24 tc_1000 j_1000 rfl (Nat.le_of_ble_eq_true rfl) rfl dX9_wood_140 (s_X9_step e (by omega)  h) (fun zz7 h => ?_)
  obtain ⟨zx8, hx⟩ : ∃ y : Int32, y = zv7 + (1 : Int32) := ⟨_, rfl⟩
  have h := oH_let h zx8 hx
  refine o_iinc (lv1 := [(0, orf 1000 0), (1, oi zv1), (2, oi zv2), (3, oi zv3), (4, oi zv4), (5, oi zv5), (6, oi zv6), (7, oi zx8), (8, ol zs0)]) (pc := 143) dX9_wood_143 7 rfl hx.symm (by decide) rfl ?_
  clear hx
  refine o_goto 68 (pc := 146) dX9_wood_146 (by decide) ?_
  refine o_weak [0, 1, 2, 3, 4, 5, 6, 7] rfl ?_
  exact hVH _ (oH_some (P := fun z => Sum.elim VH VE z) h)
def f_X9_wood_L68 (zv1 : Int32) (zv2 : Int32) (zv3 : Int32) (zv4 : Int32) (zv5 : Int32) (zv6 : Int32) : Int32 × oS → Option ((Int32 × oS) ⊕ (oS)) := fun w =>
  match w with
  | (zv7, S) =>
    if (((S.1 1000 0 5) + zv6) + zv3) ≤ zv7 then (
    some (Sum.inr S)) else (
    if (S.1 1000 0 5) ≤ zv7 then (
    if ((S.1 1000 0 5) + zv6) ≤ zv7 then (
    f_X9_wood_K134 zv1 zv2 zv3 zv4 zv5 zv6 zv7 (0 : Int64) S) else (
    (f_X9_burnt zv4 zv5 S).bind fun zz9 =>
    f_X9_wood_K134 zv1 zv2 zv3 zv4 zv5 zv6 zv7 zz9.1 zz9.2)) else (
    if oIn zv7 30 then (
    if oIn zv7 30 then (
    (f_X9_burnt (S.1 1007 0 (Int32.toNatClampNeg zv7)) (S.1 1008 0 (Int32.toNatClampNeg zv7)) S).bind fun zz10 =>
    f_X9_wood_K134 zv1 zv2 zv3 zv4 zv5 zv6 zv7 zz10.1 zz10.2) else none) else none))
set_option maxHeartbeats 4000000 in
theorem s_X9_wood_L68b {X : oX} {e : Nat} (he : 3 ≤ e) (hR : oRoom X (e + 1)) {zv1 : Int32} {zv2 : Int32} {zv3 : Int32} {zv4 : Int32} {zv5 : Int32} {zv6 : Int32} {VH : Int32 × oS → Prop} {VE : oS → Prop} (hVH : ∀ z, VH z → oVv X mX9_wood 68 [(0, orf 1000 0), (1, oi zv1), (2, oi zv2), (3, oi zv3), (4, oi zv4), (5, oi zv5), (6, oi zv6), (7, oi z.1)] [] z.2) (hVE : ∀ z, VE z → oVv X mX9_wood 149 [(0, orf 1000 0), (1, oi zv1), (2, oi zv2), (3, oi zv3), (4, oi zv4), (5, oi zv5), (6, oi zv6)] [] z) {zv7 : Int32} {S : oS} (h : oH (f_X9_wood_L68 zv1 zv2 zv3 zv4 zv5 zv6 (zv7, S)) (fun z => Sum.elim VH VE z)) : oVv X mX9_wood 68 [(0, orf 1000 0), (1, oi zv1), (2, oi zv2), (3, oi zv3), (4, oi zv4), (5, oi zv5), (6, oi zv6), (7, oi zv7)] [] S := by
  dsimp only [f_X9_wood_L68] at h
  refine o_iload (pc := 68) dX9_wood_68 7 rfl ?_
  refine o_aload_n (pc := 70) dX9_wood_70 rfl 0 rfl ?_
  refine o_getI (pc := 71) fd_RX9_163 ft_1000_5 j_1000 dX9_wood_71 ?_
  refine o_iload (pc := 74) dX9_wood_74 6 rfl ?_
  refine o_iadd (pc := 76) dX9_wood_76 ?_
  refine o_iload_n (pc := 77) dX9_wood_77 rfl 3 rfl ?_
  refine o_iadd (pc := 78) dX9_wood_78 ?_
  refine o_icmp_ge 149 (pc := 79) dX9_wood_79 (by decide) (fun hc => ?_) (fun hc => ?_)
  · have h := oH_T hc h
    refine o_weak [0, 1, 2, 3, 4, 5, 6] rfl ?_
    exact hVE _ (oH_some (P := fun z => Sum.elim VH VE z) h)
  · have h := oH_F hc h
    refine o_iload (pc := 82) dX9_wood_82 7 rfl ?_
    refine o_aload_n (pc := 84) dX9_wood_84 rfl 0 rfl ?_
    refine o_getI (pc := 85) fd_RX9_163 ft_1000_5 j_1000 dX9_wood_85 ?_
    refine o_icmp_ge 111 (pc := 88) dX9_wood_88 (by decide) (fun hc => ?_) (fun hc => ?_)
    · have h := oH_T hc h
      refine o_iload (pc := 111) dX9_wood_111 7 rfl ?_
      refine o_aload_n (pc := 113) dX9_wood_113 rfl 0 rfl ?_
      refine o_getI (pc := 114) fd_RX9_163 ft_1000_5 j_1000 dX9_wood_114 ?_
      refine o_iload (pc := 117) dX9_wood_117 6 rfl ?_
      refine o_iadd (pc := 119) dX9_wood_119 ?_
      refine o_icmp_ge 133 (pc := 120) dX9_wood_120 (by decide) (fun hc => ?_) (fun hc => ?_)
      · have h := oH_T hc h
        refine o_lconst (v := 0) (pc := 133) dX9_wood_133 (by decide) ?_
        exact s_X9_wood_K134 he hR  hVH hVE h
      · have h := oH_F hc h
        refine o_iload (pc := 123) dX9_wood_123 4 rfl ?_
        refine o_iload (pc := 125) dX9_wood_125 5 rfl ?_
        have h := oH_bind h
        refine o_callSl (pc := 127) (st := []) [oi zv4, oi zv5] hR md_X9_burnt wd_1094 wd_1095 rfl (Nat.le_of_ble_eq_true rfl) rfl dX9_wood_127 (s_X9_burnt e (by omega)  h) (fun zz9 h => ?_)
        refine o_goto 134 (pc := 130) dX9_wood_130 (by decide) ?_
        exact s_X9_wood_K134 he hR  hVH hVE h
    · have h := oH_F hc h
      refine o_aload_n (pc := 91) dX9_wood_91 rfl 0 rfl ?_
      refine o_getA (pc := 92) fd_RX9_24 ft_1000_6 j_1000 dX9_wood_92 ?_
      refine o_iload (pc := 95) dX9_wood_95 7 rfl ?_
      obtain ⟨hg, h⟩ := oH_G h
      refine o_iald (pc := 97) kd_1007 j_1007 hg dX9_wood_97 ?_
      refine o_aload_n (pc := 98) dX9_wood_98 rfl 0 rfl ?_
      refine o_getA (pc := 99) fd_RX9_27 ft_1000_7 j_1000 dX9_wood_99 ?_
      refine o_iload (pc := 102) dX9_wood_102 7 rfl ?_
      obtain ⟨hg, h⟩ := oH_G h
      refine o_iald (pc := 104) kd_1008 j_1008 hg dX9_wood_104 ?_
      have h := oH_bind h
      refine o_callSl (pc := 105) (st := []) [oi (S.1 1007 0 (Int32.toNatClampNeg zv7)), oi (S.1 1008 0 (Int32.toNatClampNeg zv7))] hR md_X9_burnt wd_1094 wd_1095 rfl (Nat.le_of_ble_eq_true rfl) rfl dX9_wood_105 (s_X9_burnt e (by omega)  h) (fun zz10 h => ?_)
      refine o_goto 134 (pc := 108) dX9_wood_108 (by decide) ?_
      exact s_X9_wood_K134 he hR  hVH hVE h
theorem s_X9_wood_L68 {X : oX} {e : Nat} (he : 3 ≤ e) (hR : oRoom X (e + 1)) {zv1 : Int32} {zv2 : Int32} {zv3 : Int32} {zv4 : Int32} {zv5 : Int32} {zv6 : Int32}  {VE : oS → Prop} (hVE : ∀ z, VE z → oVv X mX9_wood 149 [(0, orf 1000 0), (1, oi zv1), (2, oi zv2), (3, oi zv3), (4, oi zv4), (5, oi zv5), (6, oi zv6)] [] z) (n : Nat) (w : Int32 × oS) (h : oH (oLp (f_X9_wood_L68 zv1 zv2 zv3 zv4 zv5 zv6) n w) VE) : oVv X mX9_wood 68 [(0, orf 1000 0), (1, oi zv1), (2, oi zv2), (3, oi zv3), (4, oi zv4), (5, oi zv5), (6, oi zv6), (7, oi w.1)] [] w.2 :=
  oLp_s (VH := fun w => oVv X mX9_wood 68 [(0, orf 1000 0), (1, oi zv1), (2, oi zv2), (3, oi zv3), (4, oi zv4), (5, oi zv5), (6, oi zv6), (7, oi w.1)] [] w.2) (fun w h => s_X9_wood_L68b he hR  (fun _ h => h) hVE h) n w h
def f_X9_wood_L54 (zv1 : Int32) (zv2 : Int32) (zv3 : Int32) (zv4 : Int32) (zv5 : Int32) : Int32 × oS → Option ((Int32 × oS) ⊕ ((oS) ⊕ (Int32 × oS))) := fun w =>
  match w with
  | (zv6, S) =>
    if (30 : Int32) < zv6 then (
    some (Sum.inr (Sum.inl S))) else (
    (f_X9_takeNow S).bind fun zz6 =>
    (oLp (f_X9_wood_L68 zv1 zv2 zv3 zv4 zv5 zv6) oFu ((0 : Int32), zz6)).bind fun zz11 =>
    (f_X9_faceOf zv2 zz11).bind fun zz12 =>
    if zz12.1 < (Int32.toInt64 zv1) then (
    oLet (zv6 + (1 : Int32)) fun zx13 =>
    some (Sum.inl (zx13, zz12.2))) else (
    some (Sum.inr (Sum.inr (zv6, zz12.2)))))
set_option maxHeartbeats 4000000 in
theorem s_X9_wood_L54b {X : oX} {e : Nat} (he : 3 ≤ e) (hR : oRoom X (e + 1)) {zv1 : Int32} {zv2 : Int32} {zv3 : Int32} {zv4 : Int32} {zv5 : Int32} {VH : Int32 × oS → Prop} {VE : (oS) ⊕ (Int32 × oS) → Prop} (hVH : ∀ z, VH z → oVv X mX9_wood 54 [(0, orf 1000 0), (1, oi zv1), (2, oi zv2), (3, oi zv3), (4, oi zv4), (5, oi zv5), (6, oi z.1)] [] z.2) (hVE : ∀ z, VE (Sum.inl z) → oVv X mX9_wood 169 [] [] z) {PQ : Int32 × oS → Prop} (hE : oEI X mX9_wood PQ) (hRet : ∀ z, VE (Sum.inr z) → PQ z) {zv6 : Int32} {S : oS} (h : oH (f_X9_wood_L54 zv1 zv2 zv3 zv4 zv5 (zv6, S)) (fun z => Sum.elim VH VE z)) : oVv X mX9_wood 54 [(0, orf 1000 0), (1, oi zv1), (2, oi zv2), (3, oi zv3), (4, oi zv4), (5, oi zv5), (6, oi zv6)] [] S := by
  dsimp only [f_X9_wood_L54] at h
  refine o_iload (pc := 54) dX9_wood_54 6 rfl ?_
  refine o_bipush (v := 30) (pc := 56) dX9_wood_56 (by decide) ?_
  refine o_icmp_gt 169 (pc := 58) dX9_wood_58 (by decide) (fun hc => ?_) (fun hc => ?_)
  · have h := oH_T hc h
    refine o_weak [] rfl ?_
    exact hVE _ (oH_some (P := fun z => Sum.elim VH VE z) h)
  · have h := oH_F hc h
    refine o_aload_n (pc := 61) dX9_wood_61 rfl 0 rfl ?_
    have h := oH_bind h
    refine o_callVv (pc := 62) (st := []) [] hR md_X9_takeNow wd_1090 wd_1092 ws_22 tc_1000 j_1000 rfl (Nat.le_of_ble_eq_true rfl) rfl dX9_wood_62 (s_X9_takeNow e (by omega)  h) (fun zz6 h => ?_)
    refine o_iconst (v := 0) (pc := 65) dX9_wood_65 (by decide) ?_
    refine o_istore (lv1 := [(0, orf 1000 0), (1, oi zv1), (2, oi zv2), (3, oi zv3), (4, oi zv4), (5, oi zv5), (6, oi zv6), (7, oi (0 : Int32))]) (pc := 66) dX9_wood_66 (by decide) rfl ?_
    have h := oH_bind h
    refine s_X9_wood_L68 he hR  (fun zz11 h => ?_) _ ((0 : Int32), zz6) h
    refine o_aload_n (pc := 149) dX9_wood_149 rfl 0 rfl ?_
    refine o_iload_n (pc := 150) dX9_wood_150 rfl 2 rfl ?_
    have h := oH_bind h
    refine o_callVl (pc := 151) (st := []) [oi zv2] hR md_X9_faceOf wd_1133 wd_1135 ws_30 tc_1000 j_1000 rfl (Nat.le_of_ble_eq_true rfl) rfl dX9_wood_151 (s_X9_faceOf e (by omega)  h) (fun zz12 h => ?_)
    refine o_iload_n (pc := 154) dX9_wood_154 rfl 1 rfl ?_
    refine o_i2l (pc := 155) dX9_wood_155 ?_
    refine o_lcmp_lt 163 (pc := 156) dX9_wood_156 dX9_wood_157 (by decide) (fun hc => ?_) (fun hc => ?_)
    · have h := oH_T hc h
      obtain ⟨zx13, hx⟩ : ∃ y : Int32, y = zv6 + (1 : Int32) := ⟨_, rfl⟩
      have h := oH_let h zx13 hx
      refine o_iinc (lv1 := [(0, orf 1000 0), (1, oi zv1), (2, oi zv2), (3, oi zv3), (4, oi zv4), (5, oi zv5), (6, oi zx13)]) (pc := 163) dX9_wood_163 6 rfl hx.symm (by decide) rfl ?_
      clear hx
      refine o_goto 54 (pc := 166) dX9_wood_166 (by decide) ?_
      exact hVH _ (oH_some (P := fun z => Sum.elim VH VE z) h)
    · have h := oH_F hc h
      refine o_iload (pc := 160) dX9_wood_160 6 rfl ?_
      exact hE _ _ _ _ dX9_wood_162 (hRet _ (oH_some (P := fun z => Sum.elim VH VE z) h))
theorem s_X9_wood_L54 {X : oX} {e : Nat} (he : 3 ≤ e) (hR : oRoom X (e + 1)) {zv1 : Int32} {zv2 : Int32} {zv3 : Int32} {zv4 : Int32} {zv5 : Int32}  {VE : (oS) ⊕ (Int32 × oS) → Prop} (hVE : ∀ z, VE (Sum.inl z) → oVv X mX9_wood 169 [] [] z) {PQ : Int32 × oS → Prop} (hE : oEI X mX9_wood PQ) (hRet : ∀ z, VE (Sum.inr z) → PQ z) (n : Nat) (w : Int32 × oS) (h : oH (oLp (f_X9_wood_L54 zv1 zv2 zv3 zv4 zv5) n w) VE) : oVv X mX9_wood 54 [(0, orf 1000 0), (1, oi zv1), (2, oi zv2), (3, oi zv3), (4, oi zv4), (5, oi zv5), (6, oi w.1)] [] w.2 :=
  oLp_s (VH := fun w => oVv X mX9_wood 54 [(0, orf 1000 0), (1, oi zv1), (2, oi zv2), (3, oi zv3), (4, oi zv4), (5, oi zv5), (6, oi w.1)] [] w.2) (fun w h => s_X9_wood_L54b he hR  (fun _ h => h) hVE hE hRet h) n w h
def f_X9_wood  (za1 : Int32) (za2 : Int32) (za3 : Int32) (za4 : Int32) (za5 : Int32) (S : oS) : Option (Int32 × oS) :=
  (f_X9_in za1 (0 : Int32) (2000 : Int32) S).bind fun zz1 =>
  if zz1.1 = 0 then (
  some ((-2 : Int32), zz1.2)) else (
  (f_X9_isRing za2 zz1.2).bind fun zz2 =>
  if zz2.1 = 0 then (
  some ((-2 : Int32), zz2.2)) else (
  (f_X9_in za3 (0 : Int32) (40 : Int32) zz2.2).bind fun zz3 =>
  if zz3.1 = 0 then (
  some ((-2 : Int32), zz3.2)) else (
  (f_X9_isLog za4 za5 zz3.2).bind fun zz4 =>
  if zz4.1 = 0 then (
  some ((-2 : Int32), zz4.2)) else (
  (f_X9_inside zz4.2).bind fun zz5 =>
  if zz5.1 ≤ 0 then (
  (oLp (f_X9_wood_L54 za1 za2 za3 za4 za5) oFu ((1 : Int32), zz5.2)).bind fun w => Sum.elim (fun zz14 =>
  some ((-1 : Int32), zz14)) (fun r => some r) w) else (
  some ((-3 : Int32), zz5.2))))))
set_option maxHeartbeats 4000000 in
theorem s_X9_wood {G : oG} {r : oR} (d : Nat) (hd : 4 ≤ d) {za1 : Int32} {za2 : Int32} {za3 : Int32} {za4 : Int32} {za5 : Int32}  {S : oS} {P : Int32 × oS → Prop} (h : oH (f_X9_wood za1 za2 za3 za4 za5 S) P) : oCt G r d yX9_wood mX9_wood [orf 1000 0, oi za1, oi za2, oi za3, oi za4, oi za5] S (oQi P) := by
  unfold f_X9_wood at h
  refine oCt_of (by decide) rfl (Nat.le_of_ble_eq_true rfl) ?_
  intro X hG hr hE0 hR
  subst hG; subst hr
  obtain ⟨e, rfl⟩ : ∃ e, d = e + 1 := ⟨d - 1, by omega⟩
  have he : 3 ≤ e := by omega
  have hE := oEI_of hE0 rfl
  clear hE0 hd
  show oVv X mX9_wood 0 [(0, orf 1000 0), (1, oi za1), (2, oi za2), (3, oi za3), (4, oi za4), (5, oi za5)] [] S
  refine o_iload_n (pc := 0) dX9_wood_0 rfl 1 rfl ?_
  refine o_iconst (v := 0) (pc := 1) dX9_wood_1 (by decide) ?_
  refine o_sipush (v := 2000) (pc := 2) dX9_wood_2 (by decide) ?_
  have h := oH_bind h
  refine o_callSi (pc := 5) (st := []) [oi za1, oi (0 : Int32), oi (2000 : Int32)] hR md_X9_in wd_1061 wd_1062 rfl (Nat.le_of_ble_eq_true rfl) rfl dX9_wood_5 (s_X9_in e (by omega)  h) (fun zz1 h => ?_)
  refine o_if_eq 38 (pc := 8) dX9_wood_8 (by decide) (fun hc => ?_) (fun hc => ?_)
  · have h := oH_T hc h
    refine o_bipush (v := -2) (pc := 38) dX9_wood_38 (by decide) ?_
    exact hE _ _ _ _ dX9_wood_40 (oH_some h)
  · have h := oH_F hc h
    refine o_iload_n (pc := 11) dX9_wood_11 rfl 2 rfl ?_
    have h := oH_bind h
    refine o_callSi (pc := 12) (st := []) [oi za2] hR md_X9_isRing wd_1068 wd_1069 rfl (Nat.le_of_ble_eq_true rfl) rfl dX9_wood_12 (s_X9_isRing e (by omega)  h) (fun zz2 h => ?_)
    refine o_if_eq 38 (pc := 15) dX9_wood_15 (by decide) (fun hc => ?_) (fun hc => ?_)
    · have h := oH_T hc h
      refine o_bipush (v := -2) (pc := 38) dX9_wood_38 (by decide) ?_
      exact hE _ _ _ _ dX9_wood_40 (oH_some h)
    · have h := oH_F hc h
      refine o_iload_n (pc := 18) dX9_wood_18 rfl 3 rfl ?_
      refine o_iconst (v := 0) (pc := 19) dX9_wood_19 (by decide) ?_
      refine o_bipush (v := 40) (pc := 20) dX9_wood_20 (by decide) ?_
      have h := oH_bind h
      refine o_callSi (pc := 22) (st := []) [oi za3, oi (0 : Int32), oi (40 : Int32)] hR md_X9_in wd_1061 wd_1062 rfl (Nat.le_of_ble_eq_true rfl) rfl dX9_wood_22 (s_X9_in e (by omega)  h) (fun zz3 h => ?_)
      refine o_if_eq 38 (pc := 25) dX9_wood_25 (by decide) (fun hc => ?_) (fun hc => ?_)
      · have h := oH_T hc h
        refine o_bipush (v := -2) (pc := 38) dX9_wood_38 (by decide) ?_
        exact hE _ _ _ _ dX9_wood_40 (oH_some h)
      · have h := oH_F hc h
        refine o_iload (pc := 28) dX9_wood_28 4 rfl ?_
        refine o_iload (pc := 30) dX9_wood_30 5 rfl ?_
        have h := oH_bind h
        refine o_callSi (pc := 32) (st := []) [oi za4, oi za5] hR md_X9_isLog wd_1083 wd_1084 rfl (Nat.le_of_ble_eq_true rfl) rfl dX9_wood_32 (s_X9_isLog e (by omega)  h) (fun zz4 h => ?_)
        refine o_if_ne 41 (pc := 35) dX9_wood_35 (by decide) (fun hc => ?_) (fun hc => ?_)
        · have h := oH_F hc h
          refine o_aload_n (pc := 41) dX9_wood_41 rfl 0 rfl ?_
          have h := oH_bind h
          refine o_callVi (pc := 42) (st := []) [] hR md_X9_inside wd_1193 wd_1195 ws_38 tc_1000 j_1000 rfl (Nat.le_of_ble_eq_true rfl) rfl dX9_wood_42 (s_X9_inside e (by omega)  h) (fun zz5 h => ?_)
          refine o_if_le 51 (pc := 45) dX9_wood_45 (by decide) (fun hc => ?_) (fun hc => ?_)
          · have h := oH_T hc h
            refine o_iconst (v := 1) (pc := 51) dX9_wood_51 (by decide) ?_
            refine o_istore (lv1 := [(0, orf 1000 0), (1, oi za1), (2, oi za2), (3, oi za3), (4, oi za4), (5, oi za5), (6, oi (1 : Int32))]) (pc := 52) dX9_wood_52 (by decide) rfl ?_
            have h := oH_bind h
            refine s_X9_wood_L54 he hR  ?_ hE ?_ _ ((1 : Int32), zz5.2) h
            · intro zz14 h
              have h := oElimL h
              refine o_iconst (v := -1) (pc := 169) dX9_wood_169 (by decide) ?_
              exact hE _ _ _ _ dX9_wood_170 (oH_some h)
            · intro r h
              have h := oElimR h
              exact oH_some (P := P) h
          · have h := oH_F hc h
            refine o_bipush (v := -3) (pc := 48) dX9_wood_48 (by decide) ?_
            exact hE _ _ _ _ dX9_wood_50 (oH_some h)
        · have h := oH_T hc h
          refine o_bipush (v := -2) (pc := 38) dX9_wood_38 (by decide) ?_
          exact hE _ _ _ _ dX9_wood_40 (oH_some h)
