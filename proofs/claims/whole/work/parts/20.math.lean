def f_X8_within  (za0 : Int32) (za1 : Int32) (za2 : Int32) (S : oS) : Option (Int32 × oS) :=
  if za0 < za1 then (
  some ((0 : Int32), S)) else (
  if za2 < za0 then (
  some ((0 : Int32), S)) else (
  some ((1 : Int32), S)))
set_option maxHeartbeats 4000000 in
theorem s_X8_within {G : oG} {r : oR} (d : Nat) (hd : 1 ≤ d) {za0 : Int32} {za1 : Int32} {za2 : Int32}  {S : oS} {P : Int32 × oS → Prop} (h : oH (f_X8_within za0 za1 za2 S) P) : oCt G r d yX8_within mX8_within [oi za0, oi za1, oi za2] S (oQi P) := by
  unfold f_X8_within at h
  refine oCt_of (by decide) rfl (Nat.le_of_ble_eq_true rfl) ?_
  intro X hG hr hE0 hR
  subst hG; subst hr
  obtain ⟨e, rfl⟩ : ∃ e, d = e + 1 := ⟨d - 1, by omega⟩
  have he : 0 ≤ e := by omega
  have hE := oEZ_of hE0 rfl
  clear hE0 hd
  show oVv X mX8_within 0 [(0, oi za0), (1, oi za1), (2, oi za2)] [] S
  refine o_iload_n (pc := 0) dX8_within_0 rfl 0 rfl ?_
  refine o_iload_n (pc := 1) dX8_within_1 rfl 1 rfl ?_
  refine o_icmp_lt 14 (pc := 2) dX8_within_2 (by decide) (fun hc => ?_) (fun hc => ?_)
  · have h := oH_T hc h
    refine o_iconst (v := 0) (pc := 14) dX8_within_14 (by decide) ?_
    exact hE _ _ _ _ dX8_within_15 (by decide) (oH_some h)
  · have h := oH_F hc h
    refine o_iload_n (pc := 5) dX8_within_5 rfl 0 rfl ?_
    refine o_iload_n (pc := 6) dX8_within_6 rfl 2 rfl ?_
    refine o_icmp_gt 14 (pc := 7) dX8_within_7 (by decide) (fun hc => ?_) (fun hc => ?_)
    · have h := oH_T hc h
      refine o_iconst (v := 0) (pc := 14) dX8_within_14 (by decide) ?_
      exact hE _ _ _ _ dX8_within_15 (by decide) (oH_some h)
    · have h := oH_F hc h
      refine o_iconst (v := 1) (pc := 10) dX8_within_10 (by decide) ?_
      refine o_goto 15 (pc := 11) dX8_within_11 (by decide) ?_
      exact hE _ _ _ _ dX8_within_15 (by decide) (oH_some h)
def f_X8_isWeek  (za0 : Int32) (S : oS) : Option (Int32 × oS) :=
  (f_X8_within za0 (0 : Int32) (60 : Int32) S).bind fun zz1 =>
  if oBl zz1.1 then (
  some (zz1.1, zz1.2)) else none
set_option maxHeartbeats 4000000 in
theorem s_X8_isWeek {G : oG} {r : oR} (d : Nat) (hd : 2 ≤ d) {za0 : Int32}  {S : oS} {P : Int32 × oS → Prop} (h : oH (f_X8_isWeek za0 S) P) : oCt G r d yX8_isWeek mX8_isWeek [oi za0] S (oQi P) := by
  unfold f_X8_isWeek at h
  refine oCt_of (by decide) rfl (Nat.le_of_ble_eq_true rfl) ?_
  intro X hG hr hE0 hR
  subst hG; subst hr
  obtain ⟨e, rfl⟩ : ∃ e, d = e + 1 := ⟨d - 1, by omega⟩
  have he : 1 ≤ e := by omega
  have hE := oEZ_of hE0 rfl
  clear hE0 hd
  show oVv X mX8_isWeek 0 [(0, oi za0)] [] S
  refine o_iload_n (pc := 0) dX8_isWeek_0 rfl 0 rfl ?_
  refine o_iconst (v := 0) (pc := 1) dX8_isWeek_1 (by decide) ?_
  refine o_bipush (v := 60) (pc := 2) dX8_isWeek_2 (by decide) ?_
  have h := oH_bind h
  refine o_callSi (pc := 4) (st := []) [oi za0, oi (0 : Int32), oi (60 : Int32)] hR md_X8_within wd_375 wd_376 rfl (Nat.le_of_ble_eq_true rfl) rfl dX8_isWeek_4 (s_X8_within e (by omega)  h) (fun zz1 h => ?_)
  obtain ⟨hg, h⟩ := oH_G h
  exact hE _ _ _ _ dX8_isWeek_7 hg (oH_some h)
def f_X8_isRing  (za0 : Int32) (S : oS) : Option (Int32 × oS) :=
  (f_X8_within za0 (0 : Int32) (3 : Int32) S).bind fun zz1 =>
  if oBl zz1.1 then (
  some (zz1.1, zz1.2)) else none
set_option maxHeartbeats 4000000 in
theorem s_X8_isRing {G : oG} {r : oR} (d : Nat) (hd : 2 ≤ d) {za0 : Int32}  {S : oS} {P : Int32 × oS → Prop} (h : oH (f_X8_isRing za0 S) P) : oCt G r d yX8_isRing mX8_isRing [oi za0] S (oQi P) := by
  unfold f_X8_isRing at h
  refine oCt_of (by decide) rfl (Nat.le_of_ble_eq_true rfl) ?_
  intro X hG hr hE0 hR
  subst hG; subst hr
  obtain ⟨e, rfl⟩ : ∃ e, d = e + 1 := ⟨d - 1, by omega⟩
  have he : 1 ≤ e := by omega
  have hE := oEZ_of hE0 rfl
  clear hE0 hd
  show oVv X mX8_isRing 0 [(0, oi za0)] [] S
  refine o_iload_n (pc := 0) dX8_isRing_0 rfl 0 rfl ?_
  refine o_iconst (v := 0) (pc := 1) dX8_isRing_1 (by decide) ?_
  refine o_iconst (v := 3) (pc := 2) dX8_isRing_2 (by decide) ?_
  have h := oH_bind h
  refine o_callSi (pc := 3) (st := []) [oi za0, oi (0 : Int32), oi (3 : Int32)] hR md_X8_within wd_375 wd_376 rfl (Nat.le_of_ble_eq_true rfl) rfl dX8_isRing_3 (s_X8_within e (by omega)  h) (fun zz1 h => ?_)
  obtain ⟨hg, h⟩ := oH_G h
  exact hE _ _ _ _ dX8_isRing_6 hg (oH_some h)
def f_X8_isLog  (za0 : Int32) (za1 : Int32) (S : oS) : Option (Int32 × oS) :=
  (f_X8_within za0 (1 : Int32) (50 : Int32) S).bind fun zz1 =>
  if zz1.1 = 0 then (
  some ((0 : Int32), zz1.2)) else (
  (f_X8_within za1 (0 : Int32) (60 : Int32) zz1.2).bind fun zz2 =>
  if zz2.1 = 0 then (
  some ((0 : Int32), zz2.2)) else (
  some ((1 : Int32), zz2.2)))
set_option maxHeartbeats 4000000 in
theorem s_X8_isLog {G : oG} {r : oR} (d : Nat) (hd : 2 ≤ d) {za0 : Int32} {za1 : Int32}  {S : oS} {P : Int32 × oS → Prop} (h : oH (f_X8_isLog za0 za1 S) P) : oCt G r d yX8_isLog mX8_isLog [oi za0, oi za1] S (oQi P) := by
  unfold f_X8_isLog at h
  refine oCt_of (by decide) rfl (Nat.le_of_ble_eq_true rfl) ?_
  intro X hG hr hE0 hR
  subst hG; subst hr
  obtain ⟨e, rfl⟩ : ∃ e, d = e + 1 := ⟨d - 1, by omega⟩
  have he : 1 ≤ e := by omega
  have hE := oEZ_of hE0 rfl
  clear hE0 hd
  show oVv X mX8_isLog 0 [(0, oi za0), (1, oi za1)] [] S
  refine o_iload_n (pc := 0) dX8_isLog_0 rfl 0 rfl ?_
  refine o_iconst (v := 1) (pc := 1) dX8_isLog_1 (by decide) ?_
  refine o_bipush (v := 50) (pc := 2) dX8_isLog_2 (by decide) ?_
  have h := oH_bind h
  refine o_callSi (pc := 4) (st := []) [oi za0, oi (1 : Int32), oi (50 : Int32)] hR md_X8_within wd_375 wd_376 rfl (Nat.le_of_ble_eq_true rfl) rfl dX8_isLog_4 (s_X8_within e (by omega)  h) (fun zz1 h => ?_)
  refine o_if_eq 24 (pc := 7) dX8_isLog_7 (by decide) (fun hc => ?_) (fun hc => ?_)
  · have h := oH_T hc h
    refine o_iconst (v := 0) (pc := 24) dX8_isLog_24 (by decide) ?_
    exact hE _ _ _ _ dX8_isLog_25 (by decide) (oH_some h)
  · have h := oH_F hc h
    refine o_iload_n (pc := 10) dX8_isLog_10 rfl 1 rfl ?_
    refine o_iconst (v := 0) (pc := 11) dX8_isLog_11 (by decide) ?_
    refine o_bipush (v := 60) (pc := 12) dX8_isLog_12 (by decide) ?_
    have h := oH_bind h
    refine o_callSi (pc := 14) (st := []) [oi za1, oi (0 : Int32), oi (60 : Int32)] hR md_X8_within wd_375 wd_376 rfl (Nat.le_of_ble_eq_true rfl) rfl dX8_isLog_14 (s_X8_within e (by omega)  h) (fun zz2 h => ?_)
    refine o_if_eq 24 (pc := 17) dX8_isLog_17 (by decide) (fun hc => ?_) (fun hc => ?_)
    · have h := oH_T hc h
      refine o_iconst (v := 0) (pc := 24) dX8_isLog_24 (by decide) ?_
      exact hE _ _ _ _ dX8_isLog_25 (by decide) (oH_some h)
    · have h := oH_F hc h
      refine o_iconst (v := 1) (pc := 20) dX8_isLog_20 (by decide) ?_
      refine o_goto 25 (pc := 21) dX8_isLog_21 (by decide) ?_
      exact hE _ _ _ _ dX8_isLog_25 (by decide) (oH_some h)
def f_X8_isSpan  (za0 : Int32) (za1 : Int32) (S : oS) : Option (Int32 × oS) :=
  (f_X8_within za0 (0 : Int32) (2000 : Int32) S).bind fun zz1 =>
  if zz1.1 = 0 then (
  some ((0 : Int32), zz1.2)) else (
  (f_X8_within za1 za0 (2000 : Int32) zz1.2).bind fun zz2 =>
  if zz2.1 = 0 then (
  some ((0 : Int32), zz2.2)) else (
  some ((1 : Int32), zz2.2)))
set_option maxHeartbeats 4000000 in
theorem s_X8_isSpan {G : oG} {r : oR} (d : Nat) (hd : 2 ≤ d) {za0 : Int32} {za1 : Int32}  {S : oS} {P : Int32 × oS → Prop} (h : oH (f_X8_isSpan za0 za1 S) P) : oCt G r d yX8_isSpan mX8_isSpan [oi za0, oi za1] S (oQi P) := by
  unfold f_X8_isSpan at h
  refine oCt_of (by decide) rfl (Nat.le_of_ble_eq_true rfl) ?_
  intro X hG hr hE0 hR
  subst hG; subst hr
  obtain ⟨e, rfl⟩ : ∃ e, d = e + 1 := ⟨d - 1, by omega⟩
  have he : 1 ≤ e := by omega
  have hE := oEZ_of hE0 rfl
  clear hE0 hd
  show oVv X mX8_isSpan 0 [(0, oi za0), (1, oi za1)] [] S
  refine o_iload_n (pc := 0) dX8_isSpan_0 rfl 0 rfl ?_
  refine o_iconst (v := 0) (pc := 1) dX8_isSpan_1 (by decide) ?_
  refine o_sipush (v := 2000) (pc := 2) dX8_isSpan_2 (by decide) ?_
  have h := oH_bind h
  refine o_callSi (pc := 5) (st := []) [oi za0, oi (0 : Int32), oi (2000 : Int32)] hR md_X8_within wd_375 wd_376 rfl (Nat.le_of_ble_eq_true rfl) rfl dX8_isSpan_5 (s_X8_within e (by omega)  h) (fun zz1 h => ?_)
  refine o_if_eq 26 (pc := 8) dX8_isSpan_8 (by decide) (fun hc => ?_) (fun hc => ?_)
  · have h := oH_T hc h
    refine o_iconst (v := 0) (pc := 26) dX8_isSpan_26 (by decide) ?_
    exact hE _ _ _ _ dX8_isSpan_27 (by decide) (oH_some h)
  · have h := oH_F hc h
    refine o_iload_n (pc := 11) dX8_isSpan_11 rfl 1 rfl ?_
    refine o_iload_n (pc := 12) dX8_isSpan_12 rfl 0 rfl ?_
    refine o_sipush (v := 2000) (pc := 13) dX8_isSpan_13 (by decide) ?_
    have h := oH_bind h
    refine o_callSi (pc := 16) (st := []) [oi za1, oi za0, oi (2000 : Int32)] hR md_X8_within wd_375 wd_376 rfl (Nat.le_of_ble_eq_true rfl) rfl dX8_isSpan_16 (s_X8_within e (by omega)  h) (fun zz2 h => ?_)
    refine o_if_eq 26 (pc := 19) dX8_isSpan_19 (by decide) (fun hc => ?_) (fun hc => ?_)
    · have h := oH_T hc h
      refine o_iconst (v := 0) (pc := 26) dX8_isSpan_26 (by decide) ?_
      exact hE _ _ _ _ dX8_isSpan_27 (by decide) (oH_some h)
    · have h := oH_F hc h
      refine o_iconst (v := 1) (pc := 22) dX8_isSpan_22 (by decide) ?_
      refine o_goto 27 (pc := 23) dX8_isSpan_23 (by decide) ?_
      exact hE _ _ _ _ dX8_isSpan_27 (by decide) (oH_some h)
