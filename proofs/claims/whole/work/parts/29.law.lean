def f_L_law_K488 (r0 : oR) (zv3 : Int32) (zs0 : Int32) (zs2 : Int32) (zs3 : Int32) (S : oS) : Option ((Int32 × oS) ⊕ ((oS) ⊕ (Int32 × oS))) :=
  if oIn (zv3 + (3 : Int32)) (oSl r0 5) then (
  if oIn (zv3 + (4 : Int32)) (oSl r0 5) then (
  if oIn (zv3 + (5 : Int32)) (oSl r0 5) then (
  if oIn (zv3 + (6 : Int32)) (oSl r0 5) then (
  if oIn (zv3 + (7 : Int32)) (oSl r0 5) then (
  (f_X9_kind zs2 zs3 (oSv r0 5 (Int32.toNatClampNeg (zv3 + (3 : Int32)))) (oSv r0 5 (Int32.toNatClampNeg (zv3 + (4 : Int32)))) (oSv r0 5 (Int32.toNatClampNeg (zv3 + (5 : Int32)))) (oSv r0 5 (Int32.toNatClampNeg (zv3 + (6 : Int32)))) (oSv r0 5 (Int32.toNatClampNeg (zv3 + (7 : Int32)))) S).bind fun zz27 =>
  if zs0 = zz27.1 then (
  oLet (zv3 + (8 : Int32)) fun zx28 =>
  some (Sum.inl (zx28, zz27.2))) else (
  some (Sum.inr (Sum.inr ((0 : Int32), zz27.2))))) else none) else none) else none) else none) else none
set_option maxHeartbeats 4000000 in
theorem s_L_law_K488 {X : oX} {e : Nat} (he : 20 ≤ e) (hR : oRoom X (e + 1)) {r0 : oR} (hr : oXr X = r0) {zv3 : Int32} {zs0 : Int32} {zs2 : Int32} {zs3 : Int32} {VH : Int32 × oS → Prop} {VE : (oS) ⊕ (Int32 × oS) → Prop} (hVH : ∀ z, VH z → oVv X mL_law 18 [(0, orf 2005 0), (1, orf 900 0), (2, orf 1000 0), (3, oi z.1)] [] z.2) (hVE : ∀ z, VE (Sum.inl z) → oVv X mL_law 1340 [] [] z) {PQ : Int32 × oS → Prop} (hE : oEZ X mL_law PQ) (hRet : ∀ z, VE (Sum.inr z) → PQ z) {S : oS} (h : oH (f_L_law_K488 r0 zv3 zs0 zs2 zs3 S) (fun z => Sum.elim VH VE z)) : oVv X mL_law 488 [(0, orf 2005 0), (1, orf 900 0), (2, orf 1000 0), (3, oi zv3)] [oi zs3, oi zs2, orf 1000 0, oi zs0] S := by
  unfold f_L_law_K488 at h
  refine o_aload_n (pc := 488) dL_law_488 rfl 0 rfl ?_
  refine o_iload_n (pc := 489) dL_law_489 rfl 3 rfl ?_
  refine o_iconst (v := 3) (pc := 490) dL_law_490 (by decide) ?_
  refine o_iadd (pc := 491) dL_law_491 ?_
  obtain ⟨hg, h⟩ := oH_G h
  refine o_sald (i := 5) (pc := 492) hr (by decide) hg dL_law_492 ?_
  refine o_aload_n (pc := 493) dL_law_493 rfl 0 rfl ?_
  refine o_iload_n (pc := 494) dL_law_494 rfl 3 rfl ?_
  refine o_iconst (v := 4) (pc := 495) dL_law_495 (by decide) ?_
  refine o_iadd (pc := 496) dL_law_496 ?_
  obtain ⟨hg, h⟩ := oH_G h
  refine o_sald (i := 5) (pc := 497) hr (by decide) hg dL_law_497 ?_
  refine o_aload_n (pc := 498) dL_law_498 rfl 0 rfl ?_
  refine o_iload_n (pc := 499) dL_law_499 rfl 3 rfl ?_
  refine o_iconst (v := 5) (pc := 500) dL_law_500 (by decide) ?_
  refine o_iadd (pc := 501) dL_law_501 ?_
  obtain ⟨hg, h⟩ := oH_G h
  refine o_sald (i := 5) (pc := 502) hr (by decide) hg dL_law_502 ?_
  refine o_aload_n (pc := 503) dL_law_503 rfl 0 rfl ?_
  refine o_iload_n (pc := 504) dL_law_504 rfl 3 rfl ?_
  refine o_bipush (v := 6) (pc := 505) dL_law_505 (by decide) ?_
  refine o_iadd (pc := 507) dL_law_507 ?_
  obtain ⟨hg, h⟩ := oH_G h
  refine o_sald (i := 5) (pc := 508) hr (by decide) hg dL_law_508 ?_
  refine o_aload_n (pc := 509) dL_law_509 rfl 0 rfl ?_
  refine o_iload_n (pc := 510) dL_law_510 rfl 3 rfl ?_
  refine o_bipush (v := 7) (pc := 511) dL_law_511 (by decide) ?_
  refine o_iadd (pc := 513) dL_law_513 ?_
  obtain ⟨hg, h⟩ := oH_G h
  refine o_sald (i := 5) (pc := 514) hr (by decide) hg dL_law_514 ?_
  have h := oH_bind h
  refine o_callVi (pc := 515) (st := [oi zs0]) [oi zs2, oi zs3, oi (oSv r0 5 (Int32.toNatClampNeg (zv3 + (3 : Int32)))), oi (oSv r0 5 (Int32.toNatClampNeg (zv3 + (4 : Int32)))), oi (oSv r0 5 (Int32.toNatClampNeg (zv3 + (5 : Int32)))), oi (oSv r0 5 (Int32.toNatClampNeg (zv3 + (6 : Int32)))), oi (oSv r0 5 (Int32.toNatClampNeg (zv3 + (7 : Int32))))] hR md_X9_kind wd_1151 wd_1152 wd_1153 tc_1000 j_1000 rfl (Nat.le_of_ble_eq_true rfl) rfl dL_law_515 (s_X9_kind e (by omega)  h) (fun zz27 h => ?_)
  refine o_icmp_eq 1334 (pc := 518) dL_law_518 (by decide) (fun hc => ?_) (fun hc => ?_)
  · have h := oH_T hc h
    obtain ⟨zx28, hx⟩ : ∃ y : Int32, y = zv3 + (8 : Int32) := ⟨_, rfl⟩
    have h := oH_let h zx28 hx
    refine o_iinc (lv1 := [(0, orf 2005 0), (1, orf 900 0), (2, orf 1000 0), (3, oi zx28)]) (pc := 1334) dL_law_1334 3 rfl hx.symm (by decide) rfl ?_
    clear hx
    refine o_goto 18 (pc := 1337) dL_law_1337 (by decide) ?_
    exact hVH _ (oH_some (P := fun z => Sum.elim VH VE z) h)
  · have h := oH_F hc h
    refine o_iconst (v := 0) (pc := 521) dL_law_521 (by decide) ?_
    exact hE _ _ _ _ dL_law_522 (by decide) (hRet _ (oH_some (P := fun z => Sum.elim VH VE z) h))
def f_L_law_K439 (r0 : oR) (zv3 : Int32) (zs1 : Int32) (zs2 : Int32) (S : oS) : Option ((Int32 × oS) ⊕ ((oS) ⊕ (Int32 × oS))) :=
  if oIn (zv3 + (3 : Int32)) (oSl r0 5) then (
  if oIn (zv3 + (4 : Int32)) (oSl r0 5) then (
  if oIn (zv3 + (5 : Int32)) (oSl r0 5) then (
  if oIn (zv3 + (6 : Int32)) (oSl r0 5) then (
  if oIn (zv3 + (7 : Int32)) (oSl r0 5) then (
  (f_X8_kind zs1 zs2 (oSv r0 5 (Int32.toNatClampNeg (zv3 + (3 : Int32)))) (oSv r0 5 (Int32.toNatClampNeg (zv3 + (4 : Int32)))) (oSv r0 5 (Int32.toNatClampNeg (zv3 + (5 : Int32)))) (oSv r0 5 (Int32.toNatClampNeg (zv3 + (6 : Int32)))) (oSv r0 5 (Int32.toNatClampNeg (zv3 + (7 : Int32)))) S).bind fun zz26 =>
  if oIn (zv3 + (1 : Int32)) (oSl r0 5) then (
  if oIn (zv3 + (2 : Int32)) (oSl r0 5) then (
  if (oSv r0 5 (Int32.toNatClampNeg (zv3 + (2 : Int32)))) = 0 then (
  f_L_law_K488 r0 zv3 zz26.1 (oSv r0 5 (Int32.toNatClampNeg (zv3 + (1 : Int32)))) (0 : Int32) zz26.2) else (
  f_L_law_K488 r0 zv3 zz26.1 (oSv r0 5 (Int32.toNatClampNeg (zv3 + (1 : Int32)))) (1 : Int32) zz26.2)) else none) else none) else none) else none) else none) else none) else none
set_option maxHeartbeats 4000000 in
theorem s_L_law_K439 {X : oX} {e : Nat} (he : 20 ≤ e) (hR : oRoom X (e + 1)) {r0 : oR} (hr : oXr X = r0) {zv3 : Int32} {zs1 : Int32} {zs2 : Int32} {VH : Int32 × oS → Prop} {VE : (oS) ⊕ (Int32 × oS) → Prop} (hVH : ∀ z, VH z → oVv X mL_law 18 [(0, orf 2005 0), (1, orf 900 0), (2, orf 1000 0), (3, oi z.1)] [] z.2) (hVE : ∀ z, VE (Sum.inl z) → oVv X mL_law 1340 [] [] z) {PQ : Int32 × oS → Prop} (hE : oEZ X mL_law PQ) (hRet : ∀ z, VE (Sum.inr z) → PQ z) {S : oS} (h : oH (f_L_law_K439 r0 zv3 zs1 zs2 S) (fun z => Sum.elim VH VE z)) : oVv X mL_law 439 [(0, orf 2005 0), (1, orf 900 0), (2, orf 1000 0), (3, oi zv3)] [oi zs2, oi zs1, orf 900 0] S := by
  unfold f_L_law_K439 at h
  refine o_aload_n (pc := 439) dL_law_439 rfl 0 rfl ?_
  refine o_iload_n (pc := 440) dL_law_440 rfl 3 rfl ?_
  refine o_iconst (v := 3) (pc := 441) dL_law_441 (by decide) ?_
  refine o_iadd (pc := 442) dL_law_442 ?_
  obtain ⟨hg, h⟩ := oH_G h
  refine o_sald (i := 5) (pc := 443) hr (by decide) hg dL_law_443 ?_
  refine o_aload_n (pc := 444) dL_law_444 rfl 0 rfl ?_
  refine o_iload_n (pc := 445) dL_law_445 rfl 3 rfl ?_
  refine o_iconst (v := 4) (pc := 446) dL_law_446 (by decide) ?_
  refine o_iadd (pc := 447) dL_law_447 ?_
  obtain ⟨hg, h⟩ := oH_G h
  refine o_sald (i := 5) (pc := 448) hr (by decide) hg dL_law_448 ?_
  refine o_aload_n (pc := 449) dL_law_449 rfl 0 rfl ?_
  refine o_iload_n (pc := 450) dL_law_450 rfl 3 rfl ?_
  refine o_iconst (v := 5) (pc := 451) dL_law_451 (by decide) ?_
  refine o_iadd (pc := 452) dL_law_452 ?_
  obtain ⟨hg, h⟩ := oH_G h
  refine o_sald (i := 5) (pc := 453) hr (by decide) hg dL_law_453 ?_
  refine o_aload_n (pc := 454) dL_law_454 rfl 0 rfl ?_
  refine o_iload_n (pc := 455) dL_law_455 rfl 3 rfl ?_
  refine o_bipush (v := 6) (pc := 456) dL_law_456 (by decide) ?_
  refine o_iadd (pc := 458) dL_law_458 ?_
  obtain ⟨hg, h⟩ := oH_G h
  refine o_sald (i := 5) (pc := 459) hr (by decide) hg dL_law_459 ?_
  refine o_aload_n (pc := 460) dL_law_460 rfl 0 rfl ?_
  refine o_iload_n (pc := 461) dL_law_461 rfl 3 rfl ?_
  refine o_bipush (v := 7) (pc := 462) dL_law_462 (by decide) ?_
  refine o_iadd (pc := 464) dL_law_464 ?_
  obtain ⟨hg, h⟩ := oH_G h
  refine o_sald (i := 5) (pc := 465) hr (by decide) hg dL_law_465 ?_
  have h := oH_bind h
  refine o_callVi (pc := 466) (st := []) [oi zs1, oi zs2, oi (oSv r0 5 (Int32.toNatClampNeg (zv3 + (3 : Int32)))), oi (oSv r0 5 (Int32.toNatClampNeg (zv3 + (4 : Int32)))), oi (oSv r0 5 (Int32.toNatClampNeg (zv3 + (5 : Int32)))), oi (oSv r0 5 (Int32.toNatClampNeg (zv3 + (6 : Int32)))), oi (oSv r0 5 (Int32.toNatClampNeg (zv3 + (7 : Int32))))] hR md_X8_kind wd_503 wd_504 wd_505 tc_900 j_900 rfl (Nat.le_of_ble_eq_true rfl) rfl dL_law_466 (s_X8_kind e (by omega)  h) (fun zz26 h => ?_)
  refine o_aload_n (pc := 469) dL_law_469 rfl 2 rfl ?_
  refine o_aload_n (pc := 470) dL_law_470 rfl 0 rfl ?_
  refine o_iload_n (pc := 471) dL_law_471 rfl 3 rfl ?_
  refine o_iconst (v := 1) (pc := 472) dL_law_472 (by decide) ?_
  refine o_iadd (pc := 473) dL_law_473 ?_
  obtain ⟨hg, h⟩ := oH_G h
  refine o_sald (i := 5) (pc := 474) hr (by decide) hg dL_law_474 ?_
  refine o_aload_n (pc := 475) dL_law_475 rfl 0 rfl ?_
  refine o_iload_n (pc := 476) dL_law_476 rfl 3 rfl ?_
  refine o_iconst (v := 2) (pc := 477) dL_law_477 (by decide) ?_
  refine o_iadd (pc := 478) dL_law_478 ?_
  obtain ⟨hg, h⟩ := oH_G h
  refine o_sald (i := 5) (pc := 479) hr (by decide) hg dL_law_479 ?_
  refine o_if_eq 487 (pc := 480) dL_law_480 (by decide) (fun hc => ?_) (fun hc => ?_)
  · have h := oH_T hc h
    refine o_iconst (v := 0) (pc := 487) dL_law_487 (by decide) ?_
    exact s_L_law_K488 he hR hr  hVH hVE hE hRet h
  · have h := oH_F hc h
    refine o_iconst (v := 1) (pc := 483) dL_law_483 (by decide) ?_
    refine o_goto 488 (pc := 484) dL_law_484 (by decide) ?_
    exact s_L_law_K488 he hR hr  hVH hVE hE hRet h
def f_L_law_K1029 (r0 : oR) (zv3 : Int32) (zs0 : Int32) (zs2 : Int32) (zs3 : Int32) (zs4 : Int32) (zs5 : Int32) (S : oS) : Option ((Int32 × oS) ⊕ ((oS) ⊕ (Int32 × oS))) :=
  (f_X9_told zs2 zs3 zs4 zs5 S).bind fun zz75 =>
  if zs0 = zz75.1 then (
  oLet (zv3 + (8 : Int32)) fun zx76 =>
  some (Sum.inl (zx76, zz75.2))) else (
  some (Sum.inr (Sum.inr ((0 : Int32), zz75.2))))
set_option maxHeartbeats 4000000 in
theorem s_L_law_K1029 {X : oX} {e : Nat} (he : 20 ≤ e) (hR : oRoom X (e + 1)) {r0 : oR} (hr : oXr X = r0) {zv3 : Int32} {zs0 : Int32} {zs2 : Int32} {zs3 : Int32} {zs4 : Int32} {zs5 : Int32} {VH : Int32 × oS → Prop} {VE : (oS) ⊕ (Int32 × oS) → Prop} (hVH : ∀ z, VH z → oVv X mL_law 18 [(0, orf 2005 0), (1, orf 900 0), (2, orf 1000 0), (3, oi z.1)] [] z.2) (hVE : ∀ z, VE (Sum.inl z) → oVv X mL_law 1340 [] [] z) {PQ : Int32 × oS → Prop} (hE : oEZ X mL_law PQ) (hRet : ∀ z, VE (Sum.inr z) → PQ z) {S : oS} (h : oH (f_L_law_K1029 r0 zv3 zs0 zs2 zs3 zs4 zs5 S) (fun z => Sum.elim VH VE z)) : oVv X mL_law 1029 [(0, orf 2005 0), (1, orf 900 0), (2, orf 1000 0), (3, oi zv3)] [oi zs5, oi zs4, oi zs3, oi zs2, orf 1000 0, oi zs0] S := by
  unfold f_L_law_K1029 at h
  have h := oH_bind h
  refine o_callVi (pc := 1029) (st := [oi zs0]) [oi zs2, oi zs3, oi zs4, oi zs5] hR md_X9_told wd_1293 wd_1294 wd_1295 tc_1000 j_1000 rfl (Nat.le_of_ble_eq_true rfl) rfl dL_law_1029 (s_X9_told e (by omega)  h) (fun zz75 h => ?_)
  refine o_icmp_eq 1334 (pc := 1032) dL_law_1032 (by decide) (fun hc => ?_) (fun hc => ?_)
  · have h := oH_T hc h
    obtain ⟨zx76, hx⟩ : ∃ y : Int32, y = zv3 + (8 : Int32) := ⟨_, rfl⟩
    have h := oH_let h zx76 hx
    refine o_iinc (lv1 := [(0, orf 2005 0), (1, orf 900 0), (2, orf 1000 0), (3, oi zx76)]) (pc := 1334) dL_law_1334 3 rfl hx.symm (by decide) rfl ?_
    clear hx
    refine o_goto 18 (pc := 1337) dL_law_1337 (by decide) ?_
    exact hVH _ (oH_some (P := fun z => Sum.elim VH VE z) h)
  · have h := oH_F hc h
    refine o_iconst (v := 0) (pc := 1035) dL_law_1035 (by decide) ?_
    exact hE _ _ _ _ dL_law_1036 (by decide) (hRet _ (oH_some (P := fun z => Sum.elim VH VE z) h))
def f_L_law_K997 (r0 : oR) (zv3 : Int32) (zs1 : Int32) (zs2 : Int32) (zs3 : Int32) (zs4 : Int32) (S : oS) : Option ((Int32 × oS) ⊕ ((oS) ⊕ (Int32 × oS))) :=
  (f_X8_told zs1 zs2 zs3 zs4 S).bind fun zz74 =>
  if oIn (zv3 + (1 : Int32)) (oSl r0 5) then (
  if oIn (zv3 + (2 : Int32)) (oSl r0 5) then (
  if oIn (zv3 + (3 : Int32)) (oSl r0 5) then (
  if oIn (zv3 + (4 : Int32)) (oSl r0 5) then (
  if (oSv r0 5 (Int32.toNatClampNeg (zv3 + (4 : Int32)))) = 0 then (
  f_L_law_K1029 r0 zv3 zz74.1 (oSv r0 5 (Int32.toNatClampNeg (zv3 + (1 : Int32)))) (oSv r0 5 (Int32.toNatClampNeg (zv3 + (2 : Int32)))) (oSv r0 5 (Int32.toNatClampNeg (zv3 + (3 : Int32)))) (0 : Int32) zz74.2) else (
  f_L_law_K1029 r0 zv3 zz74.1 (oSv r0 5 (Int32.toNatClampNeg (zv3 + (1 : Int32)))) (oSv r0 5 (Int32.toNatClampNeg (zv3 + (2 : Int32)))) (oSv r0 5 (Int32.toNatClampNeg (zv3 + (3 : Int32)))) (1 : Int32) zz74.2)) else none) else none) else none) else none
set_option maxHeartbeats 4000000 in
theorem s_L_law_K997 {X : oX} {e : Nat} (he : 20 ≤ e) (hR : oRoom X (e + 1)) {r0 : oR} (hr : oXr X = r0) {zv3 : Int32} {zs1 : Int32} {zs2 : Int32} {zs3 : Int32} {zs4 : Int32} {VH : Int32 × oS → Prop} {VE : (oS) ⊕ (Int32 × oS) → Prop} (hVH : ∀ z, VH z → oVv X mL_law 18 [(0, orf 2005 0), (1, orf 900 0), (2, orf 1000 0), (3, oi z.1)] [] z.2) (hVE : ∀ z, VE (Sum.inl z) → oVv X mL_law 1340 [] [] z) {PQ : Int32 × oS → Prop} (hE : oEZ X mL_law PQ) (hRet : ∀ z, VE (Sum.inr z) → PQ z) {S : oS} (h : oH (f_L_law_K997 r0 zv3 zs1 zs2 zs3 zs4 S) (fun z => Sum.elim VH VE z)) : oVv X mL_law 997 [(0, orf 2005 0), (1, orf 900 0), (2, orf 1000 0), (3, oi zv3)] [oi zs4, oi zs3, oi zs2, oi zs1, orf 900 0] S := by
  unfold f_L_law_K997 at h
  have h := oH_bind h
  refine o_callVi (pc := 997) (st := []) [oi zs1, oi zs2, oi zs3, oi zs4] hR md_X8_told wd_725 wd_726 wd_727 tc_900 j_900 rfl (Nat.le_of_ble_eq_true rfl) rfl dL_law_997 (s_X8_told e (by omega)  h) (fun zz74 h => ?_)
  refine o_aload_n (pc := 1000) dL_law_1000 rfl 2 rfl ?_
  refine o_aload_n (pc := 1001) dL_law_1001 rfl 0 rfl ?_
  refine o_iload_n (pc := 1002) dL_law_1002 rfl 3 rfl ?_
  refine o_iconst (v := 1) (pc := 1003) dL_law_1003 (by decide) ?_
  refine o_iadd (pc := 1004) dL_law_1004 ?_
  obtain ⟨hg, h⟩ := oH_G h
  refine o_sald (i := 5) (pc := 1005) hr (by decide) hg dL_law_1005 ?_
  refine o_aload_n (pc := 1006) dL_law_1006 rfl 0 rfl ?_
  refine o_iload_n (pc := 1007) dL_law_1007 rfl 3 rfl ?_
  refine o_iconst (v := 2) (pc := 1008) dL_law_1008 (by decide) ?_
  refine o_iadd (pc := 1009) dL_law_1009 ?_
  obtain ⟨hg, h⟩ := oH_G h
  refine o_sald (i := 5) (pc := 1010) hr (by decide) hg dL_law_1010 ?_
  refine o_aload_n (pc := 1011) dL_law_1011 rfl 0 rfl ?_
  refine o_iload_n (pc := 1012) dL_law_1012 rfl 3 rfl ?_
  refine o_iconst (v := 3) (pc := 1013) dL_law_1013 (by decide) ?_
  refine o_iadd (pc := 1014) dL_law_1014 ?_
  obtain ⟨hg, h⟩ := oH_G h
  refine o_sald (i := 5) (pc := 1015) hr (by decide) hg dL_law_1015 ?_
  refine o_aload_n (pc := 1016) dL_law_1016 rfl 0 rfl ?_
  refine o_iload_n (pc := 1017) dL_law_1017 rfl 3 rfl ?_
  refine o_iconst (v := 4) (pc := 1018) dL_law_1018 (by decide) ?_
  refine o_iadd (pc := 1019) dL_law_1019 ?_
  obtain ⟨hg, h⟩ := oH_G h
  refine o_sald (i := 5) (pc := 1020) hr (by decide) hg dL_law_1020 ?_
  refine o_if_eq 1028 (pc := 1021) dL_law_1021 (by decide) (fun hc => ?_) (fun hc => ?_)
  · have h := oH_T hc h
    refine o_iconst (v := 0) (pc := 1028) dL_law_1028 (by decide) ?_
    exact s_L_law_K1029 he hR hr  hVH hVE hE hRet h
  · have h := oH_F hc h
    refine o_iconst (v := 1) (pc := 1024) dL_law_1024 (by decide) ?_
    refine o_goto 1029 (pc := 1025) dL_law_1025 (by decide) ?_
    exact s_L_law_K1029 he hR hr  hVH hVE hE hRet h
def f_L_law_L18 (r0 : oR) : Int32 × oS → Option ((Int32 × oS) ⊕ ((oS) ⊕ (Int32 × oS))) := fun w =>
  match w with
  | (zv3, S) =>
    if ((Int32.ofNat (oSl r0 5)) - (8 : Int32)) < zv3 then (
    some (Sum.inr (Sum.inl S))) else (
    if oIn zv3 (oSl r0 5) then (
    oLet (((oSv r0 5 (Int32.toNatClampNeg zv3)) &&& (63 : Int32))) fun zx1 =>
    if zx1 = 0 then (
    if oIn (zv3 + (1 : Int32)) (oSl r0 5) then (
    (f_X8_air (oSv r0 5 (Int32.toNatClampNeg (zv3 + (1 : Int32)))) S).bind fun zz2 =>
    if oIn (zv3 + (1 : Int32)) (oSl r0 5) then (
    (f_X9_air (oSv r0 5 (Int32.toNatClampNeg (zv3 + (1 : Int32)))) zz2.2).bind fun zz3 =>
    if zz2.1 = zz3.1 then (
    oLet (zv3 + (8 : Int32)) fun zx4 =>
    some (Sum.inl (zx4, zz3.2))) else (
    some (Sum.inr (Sum.inr ((0 : Int32), zz3.2))))) else none) else none) else if zx1 = 1 then (
    if oIn (zv3 + (1 : Int32)) (oSl r0 5) then (
    if oIn (zv3 + (2 : Int32)) (oSl r0 5) then (
    (f_X8_damp (oSv r0 5 (Int32.toNatClampNeg (zv3 + (1 : Int32)))) (oSv r0 5 (Int32.toNatClampNeg (zv3 + (2 : Int32)))) S).bind fun zz5 =>
    if oIn (zv3 + (1 : Int32)) (oSl r0 5) then (
    if oIn (zv3 + (2 : Int32)) (oSl r0 5) then (
    (f_X9_damp (oSv r0 5 (Int32.toNatClampNeg (zv3 + (1 : Int32)))) (oSv r0 5 (Int32.toNatClampNeg (zv3 + (2 : Int32)))) zz5.2).bind fun zz6 =>
    if zz5.1 = zz6.1 then (
    oLet (zv3 + (8 : Int32)) fun zx7 =>
    some (Sum.inl (zx7, zz6.2))) else (
    some (Sum.inr (Sum.inr ((0 : Int32), zz6.2))))) else none) else none) else none) else none) else if zx1 = 2 then (
    if oIn (zv3 + (1 : Int32)) (oSl r0 5) then (
    if oIn (zv3 + (2 : Int32)) (oSl r0 5) then (
    (f_X8_crack (oSv r0 5 (Int32.toNatClampNeg (zv3 + (1 : Int32)))) (oSv r0 5 (Int32.toNatClampNeg (zv3 + (2 : Int32)))) S).bind fun zz8 =>
    if oIn (zv3 + (1 : Int32)) (oSl r0 5) then (
    if oIn (zv3 + (2 : Int32)) (oSl r0 5) then (
    (f_X9_crack (oSv r0 5 (Int32.toNatClampNeg (zv3 + (1 : Int32)))) (oSv r0 5 (Int32.toNatClampNeg (zv3 + (2 : Int32)))) zz8.2).bind fun zz9 =>
    if zz8.1 = zz9.1 then (
    oLet (zv3 + (8 : Int32)) fun zx10 =>
    some (Sum.inl (zx10, zz9.2))) else (
    some (Sum.inr (Sum.inr ((0 : Int32), zz9.2))))) else none) else none) else none) else none) else if zx1 = 3 then (
    if oIn (zv3 + (1 : Int32)) (oSl r0 5) then (
    (f_X8_fire (oSv r0 5 (Int32.toNatClampNeg (zv3 + (1 : Int32)))) S).bind fun zz11 =>
    if oIn (zv3 + (1 : Int32)) (oSl r0 5) then (
    (f_X9_fire (oSv r0 5 (Int32.toNatClampNeg (zv3 + (1 : Int32)))) zz11.2).bind fun zz12 =>
    if zz11.1 = zz12.1 then (
    oLet (zv3 + (8 : Int32)) fun zx13 =>
    some (Sum.inl (zx13, zz12.2))) else (
    some (Sum.inr (Sum.inr ((0 : Int32), zz12.2))))) else none) else none) else if zx1 = 4 then (
    if oIn (zv3 + (1 : Int32)) (oSl r0 5) then (
    if oIn (zv3 + (2 : Int32)) (oSl r0 5) then (
    (f_X8_log (oSv r0 5 (Int32.toNatClampNeg (zv3 + (1 : Int32)))) (oSv r0 5 (Int32.toNatClampNeg (zv3 + (2 : Int32)))) S).bind fun zz14 =>
    if oIn (zv3 + (1 : Int32)) (oSl r0 5) then (
    if oIn (zv3 + (2 : Int32)) (oSl r0 5) then (
    (f_X9_log (oSv r0 5 (Int32.toNatClampNeg (zv3 + (1 : Int32)))) (oSv r0 5 (Int32.toNatClampNeg (zv3 + (2 : Int32)))) zz14.2).bind fun zz15 =>
    if zz14.1 = zz15.1 then (
    oLet (zv3 + (8 : Int32)) fun zx16 =>
    some (Sum.inl (zx16, zz15.2))) else (
    some (Sum.inr (Sum.inr ((0 : Int32), zz15.2))))) else none) else none) else none) else none) else if zx1 = 5 then (
    if oIn (zv3 + (1 : Int32)) (oSl r0 5) then (
    (f_X8_ticks (oSv r0 5 (Int32.toNatClampNeg (zv3 + (1 : Int32)))) S).bind fun zz17 =>
    if oIn (zv3 + (1 : Int32)) (oSl r0 5) then (
    (f_X9_ticks (oSv r0 5 (Int32.toNatClampNeg (zv3 + (1 : Int32)))) zz17.2).bind fun zz18 =>
    if zz17.1 = zz18.1 then (
    oLet (zv3 + (8 : Int32)) fun zx19 =>
    some (Sum.inl (zx19, zz18.2))) else (
    some (Sum.inr (Sum.inr ((0 : Int32), zz18.2))))) else none) else none) else if zx1 = 6 then (
    if oIn (zv3 + (1 : Int32)) (oSl r0 5) then (
    if oIn (zv3 + (2 : Int32)) (oSl r0 5) then (
    if oIn (zv3 + (3 : Int32)) (oSl r0 5) then (
    (f_X8_heat (oSv r0 5 (Int32.toNatClampNeg (zv3 + (1 : Int32)))) (oSv r0 5 (Int32.toNatClampNeg (zv3 + (2 : Int32)))) (oSv r0 5 (Int32.toNatClampNeg (zv3 + (3 : Int32)))) S).bind fun zz20 =>
    if oIn (zv3 + (1 : Int32)) (oSl r0 5) then (
    if oIn (zv3 + (2 : Int32)) (oSl r0 5) then (
    if oIn (zv3 + (3 : Int32)) (oSl r0 5) then (
    (f_X9_heat (oSv r0 5 (Int32.toNatClampNeg (zv3 + (1 : Int32)))) (oSv r0 5 (Int32.toNatClampNeg (zv3 + (2 : Int32)))) (oSv r0 5 (Int32.toNatClampNeg (zv3 + (3 : Int32)))) zz20.2).bind fun zz21 =>
    if zz20.1 = zz21.1 then (
    oLet (zv3 + (8 : Int32)) fun zx22 =>
    some (Sum.inl (zx22, zz21.2))) else (
    some (Sum.inr (Sum.inr ((0 : Int32), zz21.2))))) else none) else none) else none) else none) else none) else none) else if zx1 = 7 then (
    if oIn (zv3 + (1 : Int32)) (oSl r0 5) then (
    (f_X8_sum (oSv r0 5 (Int32.toNatClampNeg (zv3 + (1 : Int32)))) S).bind fun zz23 =>
    if oIn (zv3 + (1 : Int32)) (oSl r0 5) then (
    (f_X9_sum (oSv r0 5 (Int32.toNatClampNeg (zv3 + (1 : Int32)))) zz23.2).bind fun zz24 =>
    if zz23.1 = zz24.1 then (
    oLet (zv3 + (8 : Int32)) fun zx25 =>
    some (Sum.inl (zx25, zz24.2))) else (
    some (Sum.inr (Sum.inr ((0 : Int32), zz24.2))))) else none) else none) else if zx1 = 8 then (
    if oIn (zv3 + (1 : Int32)) (oSl r0 5) then (
    if oIn (zv3 + (2 : Int32)) (oSl r0 5) then (
    if (oSv r0 5 (Int32.toNatClampNeg (zv3 + (2 : Int32)))) = 0 then (
    f_L_law_K439 r0 zv3 (oSv r0 5 (Int32.toNatClampNeg (zv3 + (1 : Int32)))) (0 : Int32) S) else (
    f_L_law_K439 r0 zv3 (oSv r0 5 (Int32.toNatClampNeg (zv3 + (1 : Int32)))) (1 : Int32) S)) else none) else none) else if zx1 = 9 then (
    if oIn (zv3 + (1 : Int32)) (oSl r0 5) then (
    if oIn (zv3 + (2 : Int32)) (oSl r0 5) then (
    if oIn (zv3 + (3 : Int32)) (oSl r0 5) then (
    if oIn (zv3 + (4 : Int32)) (oSl r0 5) then (
    (f_X8_second (oSv r0 5 (Int32.toNatClampNeg (zv3 + (1 : Int32)))) (oSv r0 5 (Int32.toNatClampNeg (zv3 + (2 : Int32)))) (oSv r0 5 (Int32.toNatClampNeg (zv3 + (3 : Int32)))) (oSv r0 5 (Int32.toNatClampNeg (zv3 + (4 : Int32)))) S).bind fun zz29 =>
    if oIn (zv3 + (1 : Int32)) (oSl r0 5) then (
    if oIn (zv3 + (2 : Int32)) (oSl r0 5) then (
    if oIn (zv3 + (3 : Int32)) (oSl r0 5) then (
    if oIn (zv3 + (4 : Int32)) (oSl r0 5) then (
    (f_X9_second (oSv r0 5 (Int32.toNatClampNeg (zv3 + (1 : Int32)))) (oSv r0 5 (Int32.toNatClampNeg (zv3 + (2 : Int32)))) (oSv r0 5 (Int32.toNatClampNeg (zv3 + (3 : Int32)))) (oSv r0 5 (Int32.toNatClampNeg (zv3 + (4 : Int32)))) zz29.2).bind fun zz30 =>
    if zz29.1 = zz30.1 then (
    oLet (zv3 + (8 : Int32)) fun zx31 =>
    some (Sum.inl (zx31, zz30.2))) else (
    some (Sum.inr (Sum.inr ((0 : Int32), zz30.2))))) else none) else none) else none) else none) else none) else none) else none) else none) else if zx1 = 10 then (
    if oIn (zv3 + (1 : Int32)) (oSl r0 5) then (
    if oIn (zv3 + (2 : Int32)) (oSl r0 5) then (
    (f_X8_put (oSv r0 5 (Int32.toNatClampNeg (zv3 + (1 : Int32)))) (oSv r0 5 (Int32.toNatClampNeg (zv3 + (2 : Int32)))) S).bind fun zz32 =>
    if oIn (zv3 + (1 : Int32)) (oSl r0 5) then (
    if oIn (zv3 + (2 : Int32)) (oSl r0 5) then (
    (f_X9_put (oSv r0 5 (Int32.toNatClampNeg (zv3 + (1 : Int32)))) (oSv r0 5 (Int32.toNatClampNeg (zv3 + (2 : Int32)))) zz32.2).bind fun zz33 =>
    if zz32.1 = zz33.1 then (
    oLet (zv3 + (8 : Int32)) fun zx34 =>
    some (Sum.inl (zx34, zz33.2))) else (
    some (Sum.inr (Sum.inr ((0 : Int32), zz33.2))))) else none) else none) else none) else none) else if zx1 = 11 then (
    if oIn (zv3 + (1 : Int32)) (oSl r0 5) then (
    if oIn (zv3 + (2 : Int32)) (oSl r0 5) then (
    (f_X8_move (oSv r0 5 (Int32.toNatClampNeg (zv3 + (1 : Int32)))) (oSv r0 5 (Int32.toNatClampNeg (zv3 + (2 : Int32)))) S).bind fun zz35 =>
    if oIn (zv3 + (1 : Int32)) (oSl r0 5) then (
    if oIn (zv3 + (2 : Int32)) (oSl r0 5) then (
    (f_X9_move (oSv r0 5 (Int32.toNatClampNeg (zv3 + (1 : Int32)))) (oSv r0 5 (Int32.toNatClampNeg (zv3 + (2 : Int32)))) zz35.2).bind fun zz36 =>
    if zz35.1 = zz36.1 then (
    oLet (zv3 + (8 : Int32)) fun zx37 =>
    some (Sum.inl (zx37, zz36.2))) else (
    some (Sum.inr (Sum.inr ((0 : Int32), zz36.2))))) else none) else none) else none) else none) else if zx1 = 12 then (
    if oIn (zv3 + (1 : Int32)) (oSl r0 5) then (
    (f_X8_take (oSv r0 5 (Int32.toNatClampNeg (zv3 + (1 : Int32)))) S).bind fun zz38 =>
    if oIn (zv3 + (1 : Int32)) (oSl r0 5) then (
    (f_X9_take (oSv r0 5 (Int32.toNatClampNeg (zv3 + (1 : Int32)))) zz38.2).bind fun zz39 =>
    if zz38.1 = zz39.1 then (
    oLet (zv3 + (8 : Int32)) fun zx40 =>
    some (Sum.inl (zx40, zz39.2))) else (
    some (Sum.inr (Sum.inr ((0 : Int32), zz39.2))))) else none) else none) else if zx1 = 13 then (
    if oIn (zv3 + (1 : Int32)) (oSl r0 5) then (
    if oIn (zv3 + (2 : Int32)) (oSl r0 5) then (
    (f_X8_loaf (oSv r0 5 (Int32.toNatClampNeg (zv3 + (1 : Int32)))) (oSv r0 5 (Int32.toNatClampNeg (zv3 + (2 : Int32)))) S).bind fun zz41 =>
    if oIn (zv3 + (1 : Int32)) (oSl r0 5) then (
    if oIn (zv3 + (2 : Int32)) (oSl r0 5) then (
    (f_X9_loaf (oSv r0 5 (Int32.toNatClampNeg (zv3 + (1 : Int32)))) (oSv r0 5 (Int32.toNatClampNeg (zv3 + (2 : Int32)))) zz41.2).bind fun zz42 =>
    if zz41.1 = zz42.1 then (
    oLet (zv3 + (8 : Int32)) fun zx43 =>
    some (Sum.inl (zx43, zz42.2))) else (
    some (Sum.inr (Sum.inr ((0 : Int32), zz42.2))))) else none) else none) else none) else none) else if zx1 = 14 then (
    if oIn (zv3 + (1 : Int32)) (oSl r0 5) then (
    (f_X8_room (oSv r0 5 (Int32.toNatClampNeg (zv3 + (1 : Int32)))) S).bind fun zz44 =>
    if oIn (zv3 + (1 : Int32)) (oSl r0 5) then (
    (f_X9_room (oSv r0 5 (Int32.toNatClampNeg (zv3 + (1 : Int32)))) zz44.2).bind fun zz45 =>
    if zz44.1 = zz45.1 then (
    oLet (zv3 + (8 : Int32)) fun zx46 =>
    some (Sum.inl (zx46, zz45.2))) else (
    some (Sum.inr (Sum.inr ((0 : Int32), zz45.2))))) else none) else none) else if zx1 = 15 then (
    if oIn (zv3 + (1 : Int32)) (oSl r0 5) then (
    (f_X8_order (oSv r0 5 (Int32.toNatClampNeg (zv3 + (1 : Int32)))) S).bind fun zz47 =>
    if oIn (zv3 + (1 : Int32)) (oSl r0 5) then (
    (f_X9_order (oSv r0 5 (Int32.toNatClampNeg (zv3 + (1 : Int32)))) zz47.2).bind fun zz48 =>
    if zz47.1 = zz48.1 then (
    oLet (zv3 + (8 : Int32)) fun zx49 =>
    some (Sum.inl (zx49, zz48.2))) else (
    some (Sum.inr (Sum.inr ((0 : Int32), zz48.2))))) else none) else none) else if zx1 = 16 then (
    if oIn (zv3 + (1 : Int32)) (oSl r0 5) then (
    (f_X8_opening (oSv r0 5 (Int32.toNatClampNeg (zv3 + (1 : Int32)))) S).bind fun zz50 =>
    if oIn (zv3 + (1 : Int32)) (oSl r0 5) then (
    (f_X9_opening (oSv r0 5 (Int32.toNatClampNeg (zv3 + (1 : Int32)))) zz50.2).bind fun zz51 =>
    if zz50.1 = zz51.1 then (
    oLet (zv3 + (8 : Int32)) fun zx52 =>
    some (Sum.inl (zx52, zz51.2))) else (
    some (Sum.inr (Sum.inr ((0 : Int32), zz51.2))))) else none) else none) else if zx1 = 17 then (
    (f_X8_clear S).bind fun zz53 =>
    (f_X9_clear zz53.2).bind fun zz54 =>
    if zz53.1 = zz54.1 then (
    oLet (zv3 + (8 : Int32)) fun zx55 =>
    some (Sum.inl (zx55, zz54.2))) else (
    some (Sum.inr (Sum.inr ((0 : Int32), zz54.2))))) else if zx1 = 18 then (
    (f_X8_plan S).bind fun zz56 =>
    (f_X9_plan zz56.2).bind fun zz57 =>
    if zz56.1 = zz57.1 then (
    oLet (zv3 + (8 : Int32)) fun zx58 =>
    some (Sum.inl (zx58, zz57.2))) else (
    some (Sum.inr (Sum.inr ((0 : Int32), zz57.2))))) else if zx1 = 19 then (
    if oIn (zv3 + (1 : Int32)) (oSl r0 5) then (
    if oIn (zv3 + (2 : Int32)) (oSl r0 5) then (
    (f_X8_planned (oSv r0 5 (Int32.toNatClampNeg (zv3 + (1 : Int32)))) (oSv r0 5 (Int32.toNatClampNeg (zv3 + (2 : Int32)))) S).bind fun zz59 =>
    if oIn (zv3 + (1 : Int32)) (oSl r0 5) then (
    if oIn (zv3 + (2 : Int32)) (oSl r0 5) then (
    (f_X9_planned (oSv r0 5 (Int32.toNatClampNeg (zv3 + (1 : Int32)))) (oSv r0 5 (Int32.toNatClampNeg (zv3 + (2 : Int32)))) zz59.2).bind fun zz60 =>
    if zz59.1 = zz60.1 then (
    oLet (zv3 + (8 : Int32)) fun zx61 =>
    some (Sum.inl (zx61, zz60.2))) else (
    some (Sum.inr (Sum.inr ((0 : Int32), zz60.2))))) else none) else none) else none) else none) else if zx1 = 20 then (
    if oIn (zv3 + (1 : Int32)) (oSl r0 5) then (
    (f_X8_last (oSv r0 5 (Int32.toNatClampNeg (zv3 + (1 : Int32)))) S).bind fun zz62 =>
    if oIn (zv3 + (1 : Int32)) (oSl r0 5) then (
    (f_X9_last (oSv r0 5 (Int32.toNatClampNeg (zv3 + (1 : Int32)))) zz62.2).bind fun zz63 =>
    if zz62.1 = zz63.1 then (
    oLet (zv3 + (8 : Int32)) fun zx64 =>
    some (Sum.inl (zx64, zz63.2))) else (
    some (Sum.inr (Sum.inr ((0 : Int32), zz63.2))))) else none) else none) else if zx1 = 21 then (
    if oIn (zv3 + (1 : Int32)) (oSl r0 5) then (
    if oIn (zv3 + (2 : Int32)) (oSl r0 5) then (
    if oIn (zv3 + (3 : Int32)) (oSl r0 5) then (
    if oIn (zv3 + (4 : Int32)) (oSl r0 5) then (
    if oIn (zv3 + (5 : Int32)) (oSl r0 5) then (
    (f_X8_wood (oSv r0 5 (Int32.toNatClampNeg (zv3 + (1 : Int32)))) (oSv r0 5 (Int32.toNatClampNeg (zv3 + (2 : Int32)))) (oSv r0 5 (Int32.toNatClampNeg (zv3 + (3 : Int32)))) (oSv r0 5 (Int32.toNatClampNeg (zv3 + (4 : Int32)))) (oSv r0 5 (Int32.toNatClampNeg (zv3 + (5 : Int32)))) S).bind fun zz65 =>
    if oIn (zv3 + (1 : Int32)) (oSl r0 5) then (
    if oIn (zv3 + (2 : Int32)) (oSl r0 5) then (
    if oIn (zv3 + (3 : Int32)) (oSl r0 5) then (
    if oIn (zv3 + (4 : Int32)) (oSl r0 5) then (
    if oIn (zv3 + (5 : Int32)) (oSl r0 5) then (
    (f_X9_wood (oSv r0 5 (Int32.toNatClampNeg (zv3 + (1 : Int32)))) (oSv r0 5 (Int32.toNatClampNeg (zv3 + (2 : Int32)))) (oSv r0 5 (Int32.toNatClampNeg (zv3 + (3 : Int32)))) (oSv r0 5 (Int32.toNatClampNeg (zv3 + (4 : Int32)))) (oSv r0 5 (Int32.toNatClampNeg (zv3 + (5 : Int32)))) zz65.2).bind fun zz66 =>
    if zz65.1 = zz66.1 then (
    oLet (zv3 + (8 : Int32)) fun zx67 =>
    some (Sum.inl (zx67, zz66.2))) else (
    some (Sum.inr (Sum.inr ((0 : Int32), zz66.2))))) else none) else none) else none) else none) else none) else none) else none) else none) else none) else none) else if zx1 = 22 then (
    if oIn (zv3 + (1 : Int32)) (oSl r0 5) then (
    (f_X8_households (oSv r0 5 (Int32.toNatClampNeg (zv3 + (1 : Int32)))) S).bind fun zz68 =>
    if oIn (zv3 + (1 : Int32)) (oSl r0 5) then (
    (f_X9_households (oSv r0 5 (Int32.toNatClampNeg (zv3 + (1 : Int32)))) zz68.2).bind fun zz69 =>
    if zz68.1 = zz69.1 then (
    oLet (zv3 + (8 : Int32)) fun zx70 =>
    some (Sum.inl (zx70, zz69.2))) else (
    some (Sum.inr (Sum.inr ((0 : Int32), zz69.2))))) else none) else none) else if zx1 = 23 then (
    if oIn (zv3 + (1 : Int32)) (oSl r0 5) then (
    if oIn (zv3 + (2 : Int32)) (oSl r0 5) then (
    (f_X8_custom (oSv r0 5 (Int32.toNatClampNeg (zv3 + (1 : Int32)))) (oSv r0 5 (Int32.toNatClampNeg (zv3 + (2 : Int32)))) S).bind fun zz71 =>
    if oIn (zv3 + (1 : Int32)) (oSl r0 5) then (
    if oIn (zv3 + (2 : Int32)) (oSl r0 5) then (
    (f_X9_custom (oSv r0 5 (Int32.toNatClampNeg (zv3 + (1 : Int32)))) (oSv r0 5 (Int32.toNatClampNeg (zv3 + (2 : Int32)))) zz71.2).bind fun zz72 =>
    if zz71.1 = zz72.1 then (
    oLet (zv3 + (8 : Int32)) fun zx73 =>
    some (Sum.inl (zx73, zz72.2))) else (
    some (Sum.inr (Sum.inr ((0 : Int32), zz72.2))))) else none) else none) else none) else none) else if zx1 = 24 then (
    if oIn (zv3 + (1 : Int32)) (oSl r0 5) then (
    if oIn (zv3 + (2 : Int32)) (oSl r0 5) then (
    if oIn (zv3 + (3 : Int32)) (oSl r0 5) then (
    if oIn (zv3 + (4 : Int32)) (oSl r0 5) then (
    if (oSv r0 5 (Int32.toNatClampNeg (zv3 + (4 : Int32)))) = 0 then (
    f_L_law_K997 r0 zv3 (oSv r0 5 (Int32.toNatClampNeg (zv3 + (1 : Int32)))) (oSv r0 5 (Int32.toNatClampNeg (zv3 + (2 : Int32)))) (oSv r0 5 (Int32.toNatClampNeg (zv3 + (3 : Int32)))) (0 : Int32) S) else (
    f_L_law_K997 r0 zv3 (oSv r0 5 (Int32.toNatClampNeg (zv3 + (1 : Int32)))) (oSv r0 5 (Int32.toNatClampNeg (zv3 + (2 : Int32)))) (oSv r0 5 (Int32.toNatClampNeg (zv3 + (3 : Int32)))) (1 : Int32) S)) else none) else none) else none) else none) else if zx1 = 25 then (
    if oIn (zv3 + (1 : Int32)) (oSl r0 5) then (
    (f_X8_slots (oSv r0 5 (Int32.toNatClampNeg (zv3 + (1 : Int32)))) S).bind fun zz77 =>
    if oIn (zv3 + (1 : Int32)) (oSl r0 5) then (
    (f_X9_slots (oSv r0 5 (Int32.toNatClampNeg (zv3 + (1 : Int32)))) zz77.2).bind fun zz78 =>
    if zz77.1 = zz78.1 then (
    oLet (zv3 + (8 : Int32)) fun zx79 =>
    some (Sum.inl (zx79, zz78.2))) else (
    some (Sum.inr (Sum.inr ((0 : Int32), zz78.2))))) else none) else none) else if zx1 = 26 then (
    if oIn (zv3 + (1 : Int32)) (oSl r0 5) then (
    if oIn (zv3 + (2 : Int32)) (oSl r0 5) then (
    (f_X8_at (oSv r0 5 (Int32.toNatClampNeg (zv3 + (1 : Int32)))) (oSv r0 5 (Int32.toNatClampNeg (zv3 + (2 : Int32)))) S).bind fun zz80 =>
    if oIn (zv3 + (1 : Int32)) (oSl r0 5) then (
    if oIn (zv3 + (2 : Int32)) (oSl r0 5) then (
    (f_X9_at (oSv r0 5 (Int32.toNatClampNeg (zv3 + (1 : Int32)))) (oSv r0 5 (Int32.toNatClampNeg (zv3 + (2 : Int32)))) zz80.2).bind fun zz81 =>
    if zz80.1 = zz81.1 then (
    oLet (zv3 + (8 : Int32)) fun zx82 =>
    some (Sum.inl (zx82, zz81.2))) else (
    some (Sum.inr (Sum.inr ((0 : Int32), zz81.2))))) else none) else none) else none) else none) else if zx1 = 27 then (
    if oIn (zv3 + (1 : Int32)) (oSl r0 5) then (
    if oIn (zv3 + (2 : Int32)) (oSl r0 5) then (
    if oIn (zv3 + (3 : Int32)) (oSl r0 5) then (
    if oIn (zv3 + (4 : Int32)) (oSl r0 5) then (
    (f_X8_waits (oSv r0 5 (Int32.toNatClampNeg (zv3 + (1 : Int32)))) (oSv r0 5 (Int32.toNatClampNeg (zv3 + (2 : Int32)))) (oSv r0 5 (Int32.toNatClampNeg (zv3 + (3 : Int32)))) (oSv r0 5 (Int32.toNatClampNeg (zv3 + (4 : Int32)))) S).bind fun zz83 =>
    if oIn (zv3 + (1 : Int32)) (oSl r0 5) then (
    if oIn (zv3 + (2 : Int32)) (oSl r0 5) then (
    if oIn (zv3 + (3 : Int32)) (oSl r0 5) then (
    if oIn (zv3 + (4 : Int32)) (oSl r0 5) then (
    (f_X9_waits (oSv r0 5 (Int32.toNatClampNeg (zv3 + (1 : Int32)))) (oSv r0 5 (Int32.toNatClampNeg (zv3 + (2 : Int32)))) (oSv r0 5 (Int32.toNatClampNeg (zv3 + (3 : Int32)))) (oSv r0 5 (Int32.toNatClampNeg (zv3 + (4 : Int32)))) zz83.2).bind fun zz84 =>
    if zz83.1 = zz84.1 then (
    oLet (zv3 + (8 : Int32)) fun zx85 =>
    some (Sum.inl (zx85, zz84.2))) else (
    some (Sum.inr (Sum.inr ((0 : Int32), zz84.2))))) else none) else none) else none) else none) else none) else none) else none) else none) else if zx1 = 28 then (
    if oIn (zv3 + (1 : Int32)) (oSl r0 5) then (
    if oIn (zv3 + (2 : Int32)) (oSl r0 5) then (
    if oIn (zv3 + (3 : Int32)) (oSl r0 5) then (
    (f_X8_note (oSv r0 5 (Int32.toNatClampNeg (zv3 + (1 : Int32)))) (oSv r0 5 (Int32.toNatClampNeg (zv3 + (2 : Int32)))) (oSv r0 5 (Int32.toNatClampNeg (zv3 + (3 : Int32)))) S).bind fun zz86 =>
    if oIn (zv3 + (1 : Int32)) (oSl r0 5) then (
    if oIn (zv3 + (2 : Int32)) (oSl r0 5) then (
    if oIn (zv3 + (3 : Int32)) (oSl r0 5) then (
    (f_X9_note (oSv r0 5 (Int32.toNatClampNeg (zv3 + (1 : Int32)))) (oSv r0 5 (Int32.toNatClampNeg (zv3 + (2 : Int32)))) (oSv r0 5 (Int32.toNatClampNeg (zv3 + (3 : Int32)))) zz86.2).bind fun zz87 =>
    if zz86.1 = zz87.1 then (
    oLet (zv3 + (8 : Int32)) fun zx88 =>
    some (Sum.inl (zx88, zz87.2))) else (
    some (Sum.inr (Sum.inr ((0 : Int32), zz87.2))))) else none) else none) else none) else none) else none) else none) else if zx1 = 29 then (
    if oIn (zv3 + (1 : Int32)) (oSl r0 5) then (
    (f_X8_lose (oSv r0 5 (Int32.toNatClampNeg (zv3 + (1 : Int32)))) S).bind fun zz89 =>
    if oIn (zv3 + (1 : Int32)) (oSl r0 5) then (
    (f_X9_lose (oSv r0 5 (Int32.toNatClampNeg (zv3 + (1 : Int32)))) zz89.2).bind fun zz90 =>
    if zz89.1 = zz90.1 then (
    oLet (zv3 + (8 : Int32)) fun zx91 =>
    some (Sum.inl (zx91, zz90.2))) else (
    some (Sum.inr (Sum.inr ((0 : Int32), zz90.2))))) else none) else none) else if zx1 = 30 then (
    if oIn (zv3 + (1 : Int32)) (oSl r0 5) then (
    if oIn (zv3 + (2 : Int32)) (oSl r0 5) then (
    (f_X8_bricks (oSv r0 5 (Int32.toNatClampNeg (zv3 + (1 : Int32)))) (oSv r0 5 (Int32.toNatClampNeg (zv3 + (2 : Int32)))) S).bind fun zz92 =>
    if oIn (zv3 + (1 : Int32)) (oSl r0 5) then (
    if oIn (zv3 + (2 : Int32)) (oSl r0 5) then (
    (f_X9_bricks (oSv r0 5 (Int32.toNatClampNeg (zv3 + (1 : Int32)))) (oSv r0 5 (Int32.toNatClampNeg (zv3 + (2 : Int32)))) zz92.2).bind fun zz93 =>
    if zz92.1 = zz93.1 then (
    oLet (zv3 + (8 : Int32)) fun zx94 =>
    some (Sum.inl (zx94, zz93.2))) else (
    some (Sum.inr (Sum.inr ((0 : Int32), zz93.2))))) else none) else none) else none) else none) else if zx1 = 31 then (
    if oIn (zv3 + (1 : Int32)) (oSl r0 5) then (
    (f_X8_best (oSv r0 5 (Int32.toNatClampNeg (zv3 + (1 : Int32)))) S).bind fun zz95 =>
    if oIn (zv3 + (1 : Int32)) (oSl r0 5) then (
    (f_X9_best (oSv r0 5 (Int32.toNatClampNeg (zv3 + (1 : Int32)))) zz95.2).bind fun zz96 =>
    if zz95.1 = zz96.1 then (
    oLet (zv3 + (8 : Int32)) fun zx97 =>
    some (Sum.inl (zx97, zz96.2))) else (
    some (Sum.inr (Sum.inr ((0 : Int32), zz96.2))))) else none) else none) else if zx1 = 32 then (
    if oIn (zv3 + (1 : Int32)) (oSl r0 5) then (
    if oIn (zv3 + (2 : Int32)) (oSl r0 5) then (
    if oIn (zv3 + (3 : Int32)) (oSl r0 5) then (
    (f_X8_explains (oSv r0 5 (Int32.toNatClampNeg (zv3 + (1 : Int32)))) (oSv r0 5 (Int32.toNatClampNeg (zv3 + (2 : Int32)))) (oSv r0 5 (Int32.toNatClampNeg (zv3 + (3 : Int32)))) S).bind fun zz98 =>
    if oIn (zv3 + (1 : Int32)) (oSl r0 5) then (
    if oIn (zv3 + (2 : Int32)) (oSl r0 5) then (
    if oIn (zv3 + (3 : Int32)) (oSl r0 5) then (
    (f_X9_explains (oSv r0 5 (Int32.toNatClampNeg (zv3 + (1 : Int32)))) (oSv r0 5 (Int32.toNatClampNeg (zv3 + (2 : Int32)))) (oSv r0 5 (Int32.toNatClampNeg (zv3 + (3 : Int32)))) zz98.2).bind fun zz99 =>
    if zz98.1 = zz99.1 then (
    oLet (zv3 + (8 : Int32)) fun zx100 =>
    some (Sum.inl (zx100, zz99.2))) else (
    some (Sum.inr (Sum.inr ((0 : Int32), zz99.2))))) else none) else none) else none) else none) else none) else none) else if zx1 = 33 then (
    if oIn (zv3 + (1 : Int32)) (oSl r0 5) then (
    (f_X8_count (oSv r0 5 (Int32.toNatClampNeg (zv3 + (1 : Int32)))) S).bind fun zz101 =>
    if oIn (zv3 + (1 : Int32)) (oSl r0 5) then (
    (f_X9_count (oSv r0 5 (Int32.toNatClampNeg (zv3 + (1 : Int32)))) zz101.2).bind fun zz102 =>
    if zz101.1 = zz102.1 then (
    oLet (zv3 + (8 : Int32)) fun zx103 =>
    some (Sum.inl (zx103, zz102.2))) else (
    some (Sum.inr (Sum.inr ((0 : Int32), zz102.2))))) else none) else none) else (
    oLet (zv3 + (8 : Int32)) fun zx104 =>
    some (Sum.inl (zx104, S)))) else none)
set_option maxHeartbeats 4000000 in
theorem s_L_law_L18b {X : oX} {e : Nat} (he : 20 ≤ e) (hR : oRoom X (e + 1)) {r0 : oR} (hr : oXr X = r0)  {VH : Int32 × oS → Prop} {VE : (oS) ⊕ (Int32 × oS) → Prop} (hVH : ∀ z, VH z → oVv X mL_law 18 [(0, orf 2005 0), (1, orf 900 0), (2, orf 1000 0), (3, oi z.1)] [] z.2) (hVE : ∀ z, VE (Sum.inl z) → oVv X mL_law 1340 [] [] z) {PQ : Int32 × oS → Prop} (hE : oEZ X mL_law PQ) (hRet : ∀ z, VE (Sum.inr z) → PQ z) {zv3 : Int32} {S : oS} (h : oH (f_L_law_L18 r0 (zv3, S)) (fun z => Sum.elim VH VE z)) : oVv X mL_law 18 [(0, orf 2005 0), (1, orf 900 0), (2, orf 1000 0), (3, oi zv3)] [] S := by
  dsimp only [f_L_law_L18] at h
  refine o_iload_n (pc := 18) dL_law_18 rfl 3 rfl ?_
  refine o_aload_n (pc := 19) dL_law_19 rfl 0 rfl ?_
  refine o_slen (i := 5) (pc := 20) hr (by decide) dL_law_20 ?_
  refine o_bipush (v := 8) (pc := 21) dL_law_21 (by decide) ?_
  refine o_isub (pc := 23) dL_law_23 ?_
  refine o_icmp_gt 1340 (pc := 24) dL_law_24 (by decide) (fun hc => ?_) (fun hc => ?_)
  · have h := oH_T hc h
    refine o_weak [] rfl ?_
    exact hVE _ (oH_some (P := fun z => Sum.elim VH VE z) h)
  · have h := oH_F hc h
    refine o_aload_n (pc := 27) dL_law_27 rfl 0 rfl ?_
    refine o_iload_n (pc := 28) dL_law_28 rfl 3 rfl ?_
    obtain ⟨hg, h⟩ := oH_G h
    refine o_sald (i := 5) (pc := 29) hr (by decide) hg dL_law_29 ?_
    refine o_bipush (v := 63) (pc := 30) dL_law_30 (by decide) ?_
    refine o_iand (pc := 32) dL_law_32 ?_
    refine o_nmI (fun zx1 hx => ?_)
    have h := oH_let h zx1 hx
    clear hx
    by_cases hc0 : zx1 = 0
    · have h := oH_T hc0 h
      refine o_tabIn 184 (pc := 33) (off := 151) dL_law_33 (by rw [hc0]; decide) (by rw [hc0]; decide) (by rw [hc0]; rfl) (by decide) ?_
      refine o_aload_n (pc := 184) dL_law_184 rfl 1 rfl ?_
      refine o_aload_n (pc := 185) dL_law_185 rfl 0 rfl ?_
      refine o_iload_n (pc := 186) dL_law_186 rfl 3 rfl ?_
      refine o_iconst (v := 1) (pc := 187) dL_law_187 (by decide) ?_
      refine o_iadd (pc := 188) dL_law_188 ?_
      obtain ⟨hg, h⟩ := oH_G h
      refine o_sald (i := 5) (pc := 189) hr (by decide) hg dL_law_189 ?_
      have h := oH_bind h
      refine o_callVi (pc := 190) (st := []) [oi (oSv r0 5 (Int32.toNatClampNeg (zv3 + (1 : Int32))))] hR md_X8_air wd_371 wd_372 wd_373 tc_900 j_900 rfl (Nat.le_of_ble_eq_true rfl) rfl dL_law_190 (s_X8_air e (by omega)  h) (fun zz2 h => ?_)
      refine o_aload_n (pc := 193) dL_law_193 rfl 2 rfl ?_
      refine o_aload_n (pc := 194) dL_law_194 rfl 0 rfl ?_
      refine o_iload_n (pc := 195) dL_law_195 rfl 3 rfl ?_
      refine o_iconst (v := 1) (pc := 196) dL_law_196 (by decide) ?_
      refine o_iadd (pc := 197) dL_law_197 ?_
      obtain ⟨hg, h⟩ := oH_G h
      refine o_sald (i := 5) (pc := 198) hr (by decide) hg dL_law_198 ?_
      have h := oH_bind h
      refine o_callVi (pc := 199) (st := [oi zz2.1]) [oi (oSv r0 5 (Int32.toNatClampNeg (zv3 + (1 : Int32))))] hR md_X9_air wd_1057 wd_1058 wd_1059 tc_1000 j_1000 rfl (Nat.le_of_ble_eq_true rfl) rfl dL_law_199 (s_X9_air e (by omega)  h) (fun zz3 h => ?_)
      refine o_icmp_eq 1334 (pc := 202) dL_law_202 (by decide) (fun hc => ?_) (fun hc => ?_)
      · have h := oH_T hc h
        obtain ⟨zx4, hx⟩ : ∃ y : Int32, y = zv3 + (8 : Int32) := ⟨_, rfl⟩
        have h := oH_let h zx4 hx
        refine o_iinc (lv1 := [(0, orf 2005 0), (1, orf 900 0), (2, orf 1000 0), (3, oi zx4)]) (pc := 1334) dL_law_1334 3 rfl hx.symm (by decide) rfl ?_
        clear hx
        refine o_goto 18 (pc := 1337) dL_law_1337 (by decide) ?_
        exact hVH _ (oH_some (P := fun z => Sum.elim VH VE z) h)
      · have h := oH_F hc h
        refine o_iconst (v := 0) (pc := 205) dL_law_205 (by decide) ?_
        exact hE _ _ _ _ dL_law_206 (by decide) (hRet _ (oH_some (P := fun z => Sum.elim VH VE z) h))
    have h := oH_F hc0 h
    by_cases hc1 : zx1 = 1
    · have h := oH_T hc1 h
      refine o_tabIn 207 (pc := 33) (off := 174) dL_law_33 (by rw [hc1]; decide) (by rw [hc1]; decide) (by rw [hc1]; rfl) (by decide) ?_
      refine o_aload_n (pc := 207) dL_law_207 rfl 1 rfl ?_
      refine o_aload_n (pc := 208) dL_law_208 rfl 0 rfl ?_
      refine o_iload_n (pc := 209) dL_law_209 rfl 3 rfl ?_
      refine o_iconst (v := 1) (pc := 210) dL_law_210 (by decide) ?_
      refine o_iadd (pc := 211) dL_law_211 ?_
      obtain ⟨hg, h⟩ := oH_G h
      refine o_sald (i := 5) (pc := 212) hr (by decide) hg dL_law_212 ?_
      refine o_aload_n (pc := 213) dL_law_213 rfl 0 rfl ?_
      refine o_iload_n (pc := 214) dL_law_214 rfl 3 rfl ?_
      refine o_iconst (v := 2) (pc := 215) dL_law_215 (by decide) ?_
      refine o_iadd (pc := 216) dL_law_216 ?_
      obtain ⟨hg, h⟩ := oH_G h
      refine o_sald (i := 5) (pc := 217) hr (by decide) hg dL_law_217 ?_
      have h := oH_bind h
      refine o_callVi (pc := 218) (st := []) [oi (oSv r0 5 (Int32.toNatClampNeg (zv3 + (1 : Int32)))), oi (oSv r0 5 (Int32.toNatClampNeg (zv3 + (2 : Int32))))] hR md_X8_damp wd_378 wd_379 wd_380 tc_900 j_900 rfl (Nat.le_of_ble_eq_true rfl) rfl dL_law_218 (s_X8_damp e (by omega)  h) (fun zz5 h => ?_)
      refine o_aload_n (pc := 221) dL_law_221 rfl 2 rfl ?_
      refine o_aload_n (pc := 222) dL_law_222 rfl 0 rfl ?_
      refine o_iload_n (pc := 223) dL_law_223 rfl 3 rfl ?_
      refine o_iconst (v := 1) (pc := 224) dL_law_224 (by decide) ?_
      refine o_iadd (pc := 225) dL_law_225 ?_
      obtain ⟨hg, h⟩ := oH_G h
      refine o_sald (i := 5) (pc := 226) hr (by decide) hg dL_law_226 ?_
      refine o_aload_n (pc := 227) dL_law_227 rfl 0 rfl ?_
      refine o_iload_n (pc := 228) dL_law_228 rfl 3 rfl ?_
      refine o_iconst (v := 2) (pc := 229) dL_law_229 (by decide) ?_
      refine o_iadd (pc := 230) dL_law_230 ?_
      obtain ⟨hg, h⟩ := oH_G h
      refine o_sald (i := 5) (pc := 231) hr (by decide) hg dL_law_231 ?_
      have h := oH_bind h
      refine o_callVi (pc := 232) (st := [oi zz5.1]) [oi (oSv r0 5 (Int32.toNatClampNeg (zv3 + (1 : Int32)))), oi (oSv r0 5 (Int32.toNatClampNeg (zv3 + (2 : Int32))))] hR md_X9_damp wd_1064 wd_1065 wd_1066 tc_1000 j_1000 rfl (Nat.le_of_ble_eq_true rfl) rfl dL_law_232 (s_X9_damp e (by omega)  h) (fun zz6 h => ?_)
      refine o_icmp_eq 1334 (pc := 235) dL_law_235 (by decide) (fun hc => ?_) (fun hc => ?_)
      · have h := oH_T hc h
        obtain ⟨zx7, hx⟩ : ∃ y : Int32, y = zv3 + (8 : Int32) := ⟨_, rfl⟩
        have h := oH_let h zx7 hx
        refine o_iinc (lv1 := [(0, orf 2005 0), (1, orf 900 0), (2, orf 1000 0), (3, oi zx7)]) (pc := 1334) dL_law_1334 3 rfl hx.symm (by decide) rfl ?_
        clear hx
        refine o_goto 18 (pc := 1337) dL_law_1337 (by decide) ?_
        exact hVH _ (oH_some (P := fun z => Sum.elim VH VE z) h)
      · have h := oH_F hc h
        refine o_iconst (v := 0) (pc := 238) dL_law_238 (by decide) ?_
        exact hE _ _ _ _ dL_law_239 (by decide) (hRet _ (oH_some (P := fun z => Sum.elim VH VE z) h))
    have h := oH_F hc1 h
    by_cases hc2 : zx1 = 2
    · have h := oH_T hc2 h
      refine o_tabIn 240 (pc := 33) (off := 207) dL_law_33 (by rw [hc2]; decide) (by rw [hc2]; decide) (by rw [hc2]; rfl) (by decide) ?_
      refine o_aload_n (pc := 240) dL_law_240 rfl 1 rfl ?_
      refine o_aload_n (pc := 241) dL_law_241 rfl 0 rfl ?_
      refine o_iload_n (pc := 242) dL_law_242 rfl 3 rfl ?_
      refine o_iconst (v := 1) (pc := 243) dL_law_243 (by decide) ?_
      refine o_iadd (pc := 244) dL_law_244 ?_
      obtain ⟨hg, h⟩ := oH_G h
      refine o_sald (i := 5) (pc := 245) hr (by decide) hg dL_law_245 ?_
      refine o_aload_n (pc := 246) dL_law_246 rfl 0 rfl ?_
      refine o_iload_n (pc := 247) dL_law_247 rfl 3 rfl ?_
      refine o_iconst (v := 2) (pc := 248) dL_law_248 (by decide) ?_
      refine o_iadd (pc := 249) dL_law_249 ?_
      obtain ⟨hg, h⟩ := oH_G h
      refine o_sald (i := 5) (pc := 250) hr (by decide) hg dL_law_250 ?_
      have h := oH_bind h
      refine o_callVi (pc := 251) (st := []) [oi (oSv r0 5 (Int32.toNatClampNeg (zv3 + (1 : Int32)))), oi (oSv r0 5 (Int32.toNatClampNeg (zv3 + (2 : Int32))))] hR md_X8_crack wd_385 wd_386 wd_387 tc_900 j_900 rfl (Nat.le_of_ble_eq_true rfl) rfl dL_law_251 (s_X8_crack e (by omega)  h) (fun zz8 h => ?_)
      refine o_aload_n (pc := 254) dL_law_254 rfl 2 rfl ?_
      refine o_aload_n (pc := 255) dL_law_255 rfl 0 rfl ?_
      refine o_iload_n (pc := 256) dL_law_256 rfl 3 rfl ?_
      refine o_iconst (v := 1) (pc := 257) dL_law_257 (by decide) ?_
      refine o_iadd (pc := 258) dL_law_258 ?_
      obtain ⟨hg, h⟩ := oH_G h
      refine o_sald (i := 5) (pc := 259) hr (by decide) hg dL_law_259 ?_
      refine o_aload_n (pc := 260) dL_law_260 rfl 0 rfl ?_
      refine o_iload_n (pc := 261) dL_law_261 rfl 3 rfl ?_
      refine o_iconst (v := 2) (pc := 262) dL_law_262 (by decide) ?_
      refine o_iadd (pc := 263) dL_law_263 ?_
      obtain ⟨hg, h⟩ := oH_G h
      refine o_sald (i := 5) (pc := 264) hr (by decide) hg dL_law_264 ?_
      have h := oH_bind h
      refine o_callVi (pc := 265) (st := [oi zz8.1]) [oi (oSv r0 5 (Int32.toNatClampNeg (zv3 + (1 : Int32)))), oi (oSv r0 5 (Int32.toNatClampNeg (zv3 + (2 : Int32))))] hR md_X9_crack wd_1071 wd_1072 wd_1073 tc_1000 j_1000 rfl (Nat.le_of_ble_eq_true rfl) rfl dL_law_265 (s_X9_crack e (by omega)  h) (fun zz9 h => ?_)
      refine o_icmp_eq 1334 (pc := 268) dL_law_268 (by decide) (fun hc => ?_) (fun hc => ?_)
      · have h := oH_T hc h
        obtain ⟨zx10, hx⟩ : ∃ y : Int32, y = zv3 + (8 : Int32) := ⟨_, rfl⟩
        have h := oH_let h zx10 hx
        refine o_iinc (lv1 := [(0, orf 2005 0), (1, orf 900 0), (2, orf 1000 0), (3, oi zx10)]) (pc := 1334) dL_law_1334 3 rfl hx.symm (by decide) rfl ?_
        clear hx
        refine o_goto 18 (pc := 1337) dL_law_1337 (by decide) ?_
        exact hVH _ (oH_some (P := fun z => Sum.elim VH VE z) h)
      · have h := oH_F hc h
        refine o_iconst (v := 0) (pc := 271) dL_law_271 (by decide) ?_
        exact hE _ _ _ _ dL_law_272 (by decide) (hRet _ (oH_some (P := fun z => Sum.elim VH VE z) h))
    have h := oH_F hc2 h
    by_cases hc3 : zx1 = 3
    · have h := oH_T hc3 h
      refine o_tabIn 273 (pc := 33) (off := 240) dL_law_33 (by rw [hc3]; decide) (by rw [hc3]; decide) (by rw [hc3]; rfl) (by decide) ?_
      refine o_aload_n (pc := 273) dL_law_273 rfl 1 rfl ?_
      refine o_aload_n (pc := 274) dL_law_274 rfl 0 rfl ?_
      refine o_iload_n (pc := 275) dL_law_275 rfl 3 rfl ?_
      refine o_iconst (v := 1) (pc := 276) dL_law_276 (by decide) ?_
      refine o_iadd (pc := 277) dL_law_277 ?_
      obtain ⟨hg, h⟩ := oH_G h
      refine o_sald (i := 5) (pc := 278) hr (by decide) hg dL_law_278 ?_
      have h := oH_bind h
      refine o_callVi (pc := 279) (st := []) [oi (oSv r0 5 (Int32.toNatClampNeg (zv3 + (1 : Int32))))] hR md_X8_fire wd_389 wd_390 wd_391 tc_900 j_900 rfl (Nat.le_of_ble_eq_true rfl) rfl dL_law_279 (s_X8_fire e (by omega)  h) (fun zz11 h => ?_)
      refine o_aload_n (pc := 282) dL_law_282 rfl 2 rfl ?_
      refine o_aload_n (pc := 283) dL_law_283 rfl 0 rfl ?_
      refine o_iload_n (pc := 284) dL_law_284 rfl 3 rfl ?_
      refine o_iconst (v := 1) (pc := 285) dL_law_285 (by decide) ?_
      refine o_iadd (pc := 286) dL_law_286 ?_
      obtain ⟨hg, h⟩ := oH_G h
      refine o_sald (i := 5) (pc := 287) hr (by decide) hg dL_law_287 ?_
      have h := oH_bind h
      refine o_callVi (pc := 288) (st := [oi zz11.1]) [oi (oSv r0 5 (Int32.toNatClampNeg (zv3 + (1 : Int32))))] hR md_X9_fire wd_1075 wd_1076 wd_1077 tc_1000 j_1000 rfl (Nat.le_of_ble_eq_true rfl) rfl dL_law_288 (s_X9_fire e (by omega)  h) (fun zz12 h => ?_)
      refine o_icmp_eq 1334 (pc := 291) dL_law_291 (by decide) (fun hc => ?_) (fun hc => ?_)
      · have h := oH_T hc h
        obtain ⟨zx13, hx⟩ : ∃ y : Int32, y = zv3 + (8 : Int32) := ⟨_, rfl⟩
        have h := oH_let h zx13 hx
        refine o_iinc (lv1 := [(0, orf 2005 0), (1, orf 900 0), (2, orf 1000 0), (3, oi zx13)]) (pc := 1334) dL_law_1334 3 rfl hx.symm (by decide) rfl ?_
        clear hx
        refine o_goto 18 (pc := 1337) dL_law_1337 (by decide) ?_
        exact hVH _ (oH_some (P := fun z => Sum.elim VH VE z) h)
      · have h := oH_F hc h
        refine o_iconst (v := 0) (pc := 294) dL_law_294 (by decide) ?_
        exact hE _ _ _ _ dL_law_295 (by decide) (hRet _ (oH_some (P := fun z => Sum.elim VH VE z) h))
    have h := oH_F hc3 h
    by_cases hc4 : zx1 = 4
    · have h := oH_T hc4 h
      refine o_tabIn 296 (pc := 33) (off := 263) dL_law_33 (by rw [hc4]; decide) (by rw [hc4]; decide) (by rw [hc4]; rfl) (by decide) ?_
      refine o_aload_n (pc := 296) dL_law_296 rfl 1 rfl ?_
      refine o_aload_n (pc := 297) dL_law_297 rfl 0 rfl ?_
      refine o_iload_n (pc := 298) dL_law_298 rfl 3 rfl ?_
      refine o_iconst (v := 1) (pc := 299) dL_law_299 (by decide) ?_
      refine o_iadd (pc := 300) dL_law_300 ?_
      obtain ⟨hg, h⟩ := oH_G h
      refine o_sald (i := 5) (pc := 301) hr (by decide) hg dL_law_301 ?_
      refine o_aload_n (pc := 302) dL_law_302 rfl 0 rfl ?_
      refine o_iload_n (pc := 303) dL_law_303 rfl 3 rfl ?_
      refine o_iconst (v := 2) (pc := 304) dL_law_304 (by decide) ?_
      refine o_iadd (pc := 305) dL_law_305 ?_
      obtain ⟨hg, h⟩ := oH_G h
      refine o_sald (i := 5) (pc := 306) hr (by decide) hg dL_law_306 ?_
      have h := oH_bind h
      refine o_callVi (pc := 307) (st := []) [oi (oSv r0 5 (Int32.toNatClampNeg (zv3 + (1 : Int32)))), oi (oSv r0 5 (Int32.toNatClampNeg (zv3 + (2 : Int32))))] hR md_X8_log wd_393 wd_394 wd_395 tc_900 j_900 rfl (Nat.le_of_ble_eq_true rfl) rfl dL_law_307 (s_X8_log e (by omega)  h) (fun zz14 h => ?_)
      refine o_aload_n (pc := 310) dL_law_310 rfl 2 rfl ?_
      refine o_aload_n (pc := 311) dL_law_311 rfl 0 rfl ?_
      refine o_iload_n (pc := 312) dL_law_312 rfl 3 rfl ?_
      refine o_iconst (v := 1) (pc := 313) dL_law_313 (by decide) ?_
      refine o_iadd (pc := 314) dL_law_314 ?_
      obtain ⟨hg, h⟩ := oH_G h
      refine o_sald (i := 5) (pc := 315) hr (by decide) hg dL_law_315 ?_
      refine o_aload_n (pc := 316) dL_law_316 rfl 0 rfl ?_
      refine o_iload_n (pc := 317) dL_law_317 rfl 3 rfl ?_
      refine o_iconst (v := 2) (pc := 318) dL_law_318 (by decide) ?_
      refine o_iadd (pc := 319) dL_law_319 ?_
      obtain ⟨hg, h⟩ := oH_G h
      refine o_sald (i := 5) (pc := 320) hr (by decide) hg dL_law_320 ?_
      have h := oH_bind h
      refine o_callVi (pc := 321) (st := [oi zz14.1]) [oi (oSv r0 5 (Int32.toNatClampNeg (zv3 + (1 : Int32)))), oi (oSv r0 5 (Int32.toNatClampNeg (zv3 + (2 : Int32))))] hR md_X9_log wd_1079 wd_1080 wd_1081 tc_1000 j_1000 rfl (Nat.le_of_ble_eq_true rfl) rfl dL_law_321 (s_X9_log e (by omega)  h) (fun zz15 h => ?_)
      refine o_icmp_eq 1334 (pc := 324) dL_law_324 (by decide) (fun hc => ?_) (fun hc => ?_)
      · have h := oH_T hc h
        obtain ⟨zx16, hx⟩ : ∃ y : Int32, y = zv3 + (8 : Int32) := ⟨_, rfl⟩
        have h := oH_let h zx16 hx
        refine o_iinc (lv1 := [(0, orf 2005 0), (1, orf 900 0), (2, orf 1000 0), (3, oi zx16)]) (pc := 1334) dL_law_1334 3 rfl hx.symm (by decide) rfl ?_
        clear hx
        refine o_goto 18 (pc := 1337) dL_law_1337 (by decide) ?_
        exact hVH _ (oH_some (P := fun z => Sum.elim VH VE z) h)
      · have h := oH_F hc h
        refine o_iconst (v := 0) (pc := 327) dL_law_327 (by decide) ?_
        exact hE _ _ _ _ dL_law_328 (by decide) (hRet _ (oH_some (P := fun z => Sum.elim VH VE z) h))
    have h := oH_F hc4 h
    by_cases hc5 : zx1 = 5
    · have h := oH_T hc5 h
      refine o_tabIn 329 (pc := 33) (off := 296) dL_law_33 (by rw [hc5]; decide) (by rw [hc5]; decide) (by rw [hc5]; rfl) (by decide) ?_
      refine o_aload_n (pc := 329) dL_law_329 rfl 1 rfl ?_
      refine o_aload_n (pc := 330) dL_law_330 rfl 0 rfl ?_
      refine o_iload_n (pc := 331) dL_law_331 rfl 3 rfl ?_
      refine o_iconst (v := 1) (pc := 332) dL_law_332 (by decide) ?_
      refine o_iadd (pc := 333) dL_law_333 ?_
      obtain ⟨hg, h⟩ := oH_G h
      refine o_sald (i := 5) (pc := 334) hr (by decide) hg dL_law_334 ?_
      have h := oH_bind h
      refine o_callVi (pc := 335) (st := []) [oi (oSv r0 5 (Int32.toNatClampNeg (zv3 + (1 : Int32))))] hR md_X8_ticks wd_404 wd_405 wd_406 tc_900 j_900 rfl (Nat.le_of_ble_eq_true rfl) rfl dL_law_335 (s_X8_ticks e (by omega)  h) (fun zz17 h => ?_)
      refine o_aload_n (pc := 338) dL_law_338 rfl 2 rfl ?_
      refine o_aload_n (pc := 339) dL_law_339 rfl 0 rfl ?_
      refine o_iload_n (pc := 340) dL_law_340 rfl 3 rfl ?_
      refine o_iconst (v := 1) (pc := 341) dL_law_341 (by decide) ?_
      refine o_iadd (pc := 342) dL_law_342 ?_
      obtain ⟨hg, h⟩ := oH_G h
      refine o_sald (i := 5) (pc := 343) hr (by decide) hg dL_law_343 ?_
      have h := oH_bind h
      refine o_callVi (pc := 344) (st := [oi zz17.1]) [oi (oSv r0 5 (Int32.toNatClampNeg (zv3 + (1 : Int32))))] hR md_X9_ticks wd_1086 wd_1087 wd_1088 tc_1000 j_1000 rfl (Nat.le_of_ble_eq_true rfl) rfl dL_law_344 (s_X9_ticks e (by omega)  h) (fun zz18 h => ?_)
      refine o_icmp_eq 1334 (pc := 347) dL_law_347 (by decide) (fun hc => ?_) (fun hc => ?_)
      · have h := oH_T hc h
        obtain ⟨zx19, hx⟩ : ∃ y : Int32, y = zv3 + (8 : Int32) := ⟨_, rfl⟩
        have h := oH_let h zx19 hx
        refine o_iinc (lv1 := [(0, orf 2005 0), (1, orf 900 0), (2, orf 1000 0), (3, oi zx19)]) (pc := 1334) dL_law_1334 3 rfl hx.symm (by decide) rfl ?_
        clear hx
        refine o_goto 18 (pc := 1337) dL_law_1337 (by decide) ?_
        exact hVH _ (oH_some (P := fun z => Sum.elim VH VE z) h)
      · have h := oH_F hc h
        refine o_iconst (v := 0) (pc := 350) dL_law_350 (by decide) ?_
        exact hE _ _ _ _ dL_law_351 (by decide) (hRet _ (oH_some (P := fun z => Sum.elim VH VE z) h))
    have h := oH_F hc5 h
    by_cases hc6 : zx1 = 6
    · have h := oH_T hc6 h
      refine o_tabIn 352 (pc := 33) (off := 319) dL_law_33 (by rw [hc6]; decide) (by rw [hc6]; decide) (by rw [hc6]; rfl) (by decide) ?_
      refine o_aload_n (pc := 352) dL_law_352 rfl 1 rfl ?_
      refine o_aload_n (pc := 353) dL_law_353 rfl 0 rfl ?_
      refine o_iload_n (pc := 354) dL_law_354 rfl 3 rfl ?_
      refine o_iconst (v := 1) (pc := 355) dL_law_355 (by decide) ?_
      refine o_iadd (pc := 356) dL_law_356 ?_
      obtain ⟨hg, h⟩ := oH_G h
      refine o_sald (i := 5) (pc := 357) hr (by decide) hg dL_law_357 ?_
      refine o_aload_n (pc := 358) dL_law_358 rfl 0 rfl ?_
      refine o_iload_n (pc := 359) dL_law_359 rfl 3 rfl ?_
      refine o_iconst (v := 2) (pc := 360) dL_law_360 (by decide) ?_
      refine o_iadd (pc := 361) dL_law_361 ?_
      obtain ⟨hg, h⟩ := oH_G h
      refine o_sald (i := 5) (pc := 362) hr (by decide) hg dL_law_362 ?_
      refine o_aload_n (pc := 363) dL_law_363 rfl 0 rfl ?_
      refine o_iload_n (pc := 364) dL_law_364 rfl 3 rfl ?_
      refine o_iconst (v := 3) (pc := 365) dL_law_365 (by decide) ?_
      refine o_iadd (pc := 366) dL_law_366 ?_
      obtain ⟨hg, h⟩ := oH_G h
      refine o_sald (i := 5) (pc := 367) hr (by decide) hg dL_law_367 ?_
      have h := oH_bind h
      refine o_callVl (pc := 368) (st := []) [oi (oSv r0 5 (Int32.toNatClampNeg (zv3 + (1 : Int32)))), oi (oSv r0 5 (Int32.toNatClampNeg (zv3 + (2 : Int32)))), oi (oSv r0 5 (Int32.toNatClampNeg (zv3 + (3 : Int32))))] hR md_X8_heat wd_484 wd_485 wd_486 tc_900 j_900 rfl (Nat.le_of_ble_eq_true rfl) rfl dL_law_368 (s_X8_heat e (by omega)  h) (fun zz20 h => ?_)
      refine o_aload_n (pc := 371) dL_law_371 rfl 2 rfl ?_
      refine o_aload_n (pc := 372) dL_law_372 rfl 0 rfl ?_
      refine o_iload_n (pc := 373) dL_law_373 rfl 3 rfl ?_
      refine o_iconst (v := 1) (pc := 374) dL_law_374 (by decide) ?_
      refine o_iadd (pc := 375) dL_law_375 ?_
      obtain ⟨hg, h⟩ := oH_G h
      refine o_sald (i := 5) (pc := 376) hr (by decide) hg dL_law_376 ?_
      refine o_aload_n (pc := 377) dL_law_377 rfl 0 rfl ?_
      refine o_iload_n (pc := 378) dL_law_378 rfl 3 rfl ?_
      refine o_iconst (v := 2) (pc := 379) dL_law_379 (by decide) ?_
      refine o_iadd (pc := 380) dL_law_380 ?_
      obtain ⟨hg, h⟩ := oH_G h
      refine o_sald (i := 5) (pc := 381) hr (by decide) hg dL_law_381 ?_
      refine o_aload_n (pc := 382) dL_law_382 rfl 0 rfl ?_
      refine o_iload_n (pc := 383) dL_law_383 rfl 3 rfl ?_
      refine o_iconst (v := 3) (pc := 384) dL_law_384 (by decide) ?_
      refine o_iadd (pc := 385) dL_law_385 ?_
      obtain ⟨hg, h⟩ := oH_G h
      refine o_sald (i := 5) (pc := 386) hr (by decide) hg dL_law_386 ?_
      have h := oH_bind h
      refine o_callVl (pc := 387) (st := [ol zz20.1]) [oi (oSv r0 5 (Int32.toNatClampNeg (zv3 + (1 : Int32)))), oi (oSv r0 5 (Int32.toNatClampNeg (zv3 + (2 : Int32)))), oi (oSv r0 5 (Int32.toNatClampNeg (zv3 + (3 : Int32))))] hR md_X9_heat wd_1141 wd_1142 wd_1143 tc_1000 j_1000 rfl (Nat.le_of_ble_eq_true rfl) rfl dL_law_387 (s_X9_heat e (by omega)  h) (fun zz21 h => ?_)
      refine o_lcmp_eq 1334 (pc := 390) dL_law_390 dL_law_391 (by decide) (fun hc => ?_) (fun hc => ?_)
      · have h := oH_T hc h
        obtain ⟨zx22, hx⟩ : ∃ y : Int32, y = zv3 + (8 : Int32) := ⟨_, rfl⟩
        have h := oH_let h zx22 hx
        refine o_iinc (lv1 := [(0, orf 2005 0), (1, orf 900 0), (2, orf 1000 0), (3, oi zx22)]) (pc := 1334) dL_law_1334 3 rfl hx.symm (by decide) rfl ?_
        clear hx
        refine o_goto 18 (pc := 1337) dL_law_1337 (by decide) ?_
        exact hVH _ (oH_some (P := fun z => Sum.elim VH VE z) h)
      · have h := oH_F hc h
        refine o_iconst (v := 0) (pc := 394) dL_law_394 (by decide) ?_
        exact hE _ _ _ _ dL_law_395 (by decide) (hRet _ (oH_some (P := fun z => Sum.elim VH VE z) h))
    have h := oH_F hc6 h
    by_cases hc7 : zx1 = 7
    · have h := oH_T hc7 h
      refine o_tabIn 396 (pc := 33) (off := 363) dL_law_33 (by rw [hc7]; decide) (by rw [hc7]; decide) (by rw [hc7]; rfl) (by decide) ?_
      refine o_aload_n (pc := 396) dL_law_396 rfl 1 rfl ?_
      refine o_aload_n (pc := 397) dL_law_397 rfl 0 rfl ?_
      refine o_iload_n (pc := 398) dL_law_398 rfl 3 rfl ?_
      refine o_iconst (v := 1) (pc := 399) dL_law_399 (by decide) ?_
      refine o_iadd (pc := 400) dL_law_400 ?_
      obtain ⟨hg, h⟩ := oH_G h
      refine o_sald (i := 5) (pc := 401) hr (by decide) hg dL_law_401 ?_
      have h := oH_bind h
      refine o_callVl (pc := 402) (st := []) [oi (oSv r0 5 (Int32.toNatClampNeg (zv3 + (1 : Int32))))] hR md_X8_sum wd_494 wd_495 wd_496 tc_900 j_900 rfl (Nat.le_of_ble_eq_true rfl) rfl dL_law_402 (s_X8_sum e (by omega)  h) (fun zz23 h => ?_)
      refine o_aload_n (pc := 405) dL_law_405 rfl 2 rfl ?_
      refine o_aload_n (pc := 406) dL_law_406 rfl 0 rfl ?_
      refine o_iload_n (pc := 407) dL_law_407 rfl 3 rfl ?_
      refine o_iconst (v := 1) (pc := 408) dL_law_408 (by decide) ?_
      refine o_iadd (pc := 409) dL_law_409 ?_
      obtain ⟨hg, h⟩ := oH_G h
      refine o_sald (i := 5) (pc := 410) hr (by decide) hg dL_law_410 ?_
      have h := oH_bind h
      refine o_callVl (pc := 411) (st := [ol zz23.1]) [oi (oSv r0 5 (Int32.toNatClampNeg (zv3 + (1 : Int32))))] hR md_X9_sum wd_1146 wd_1147 wd_1148 tc_1000 j_1000 rfl (Nat.le_of_ble_eq_true rfl) rfl dL_law_411 (s_X9_sum e (by omega)  h) (fun zz24 h => ?_)
      refine o_lcmp_eq 1334 (pc := 414) dL_law_414 dL_law_415 (by decide) (fun hc => ?_) (fun hc => ?_)
      · have h := oH_T hc h
        obtain ⟨zx25, hx⟩ : ∃ y : Int32, y = zv3 + (8 : Int32) := ⟨_, rfl⟩
        have h := oH_let h zx25 hx
        refine o_iinc (lv1 := [(0, orf 2005 0), (1, orf 900 0), (2, orf 1000 0), (3, oi zx25)]) (pc := 1334) dL_law_1334 3 rfl hx.symm (by decide) rfl ?_
        clear hx
        refine o_goto 18 (pc := 1337) dL_law_1337 (by decide) ?_
        exact hVH _ (oH_some (P := fun z => Sum.elim VH VE z) h)
      · have h := oH_F hc h
        refine o_iconst (v := 0) (pc := 418) dL_law_418 (by decide) ?_
        exact hE _ _ _ _ dL_law_419 (by decide) (hRet _ (oH_some (P := fun z => Sum.elim VH VE z) h))
    have h := oH_F hc7 h
    by_cases hc8 : zx1 = 8
    · have h := oH_T hc8 h
      refine o_tabIn 420 (pc := 33) (off := 387) dL_law_33 (by rw [hc8]; decide) (by rw [hc8]; decide) (by rw [hc8]; rfl) (by decide) ?_
      refine o_aload_n (pc := 420) dL_law_420 rfl 1 rfl ?_
      refine o_aload_n (pc := 421) dL_law_421 rfl 0 rfl ?_
      refine o_iload_n (pc := 422) dL_law_422 rfl 3 rfl ?_
      refine o_iconst (v := 1) (pc := 423) dL_law_423 (by decide) ?_
      refine o_iadd (pc := 424) dL_law_424 ?_
      obtain ⟨hg, h⟩ := oH_G h
      refine o_sald (i := 5) (pc := 425) hr (by decide) hg dL_law_425 ?_
      refine o_aload_n (pc := 426) dL_law_426 rfl 0 rfl ?_
      refine o_iload_n (pc := 427) dL_law_427 rfl 3 rfl ?_
      refine o_iconst (v := 2) (pc := 428) dL_law_428 (by decide) ?_
      refine o_iadd (pc := 429) dL_law_429 ?_
      obtain ⟨hg, h⟩ := oH_G h
      refine o_sald (i := 5) (pc := 430) hr (by decide) hg dL_law_430 ?_
      refine o_if_eq 438 (pc := 431) dL_law_431 (by decide) (fun hc => ?_) (fun hc => ?_)
      · have h := oH_T hc h
        refine o_iconst (v := 0) (pc := 438) dL_law_438 (by decide) ?_
        exact s_L_law_K439 he hR hr  hVH hVE hE hRet h
      · have h := oH_F hc h
        refine o_iconst (v := 1) (pc := 434) dL_law_434 (by decide) ?_
        refine o_goto 439 (pc := 435) dL_law_435 (by decide) ?_
        exact s_L_law_K439 he hR hr  hVH hVE hE hRet h
    have h := oH_F hc8 h
    by_cases hc9 : zx1 = 9
    · have h := oH_T hc9 h
      refine o_tabIn 523 (pc := 33) (off := 490) dL_law_33 (by rw [hc9]; decide) (by rw [hc9]; decide) (by rw [hc9]; rfl) (by decide) ?_
      refine o_aload_n (pc := 523) dL_law_523 rfl 1 rfl ?_
      refine o_aload_n (pc := 524) dL_law_524 rfl 0 rfl ?_
      refine o_iload_n (pc := 525) dL_law_525 rfl 3 rfl ?_
      refine o_iconst (v := 1) (pc := 526) dL_law_526 (by decide) ?_
      refine o_iadd (pc := 527) dL_law_527 ?_
      obtain ⟨hg, h⟩ := oH_G h
      refine o_sald (i := 5) (pc := 528) hr (by decide) hg dL_law_528 ?_
      refine o_aload_n (pc := 529) dL_law_529 rfl 0 rfl ?_
      refine o_iload_n (pc := 530) dL_law_530 rfl 3 rfl ?_
      refine o_iconst (v := 2) (pc := 531) dL_law_531 (by decide) ?_
      refine o_iadd (pc := 532) dL_law_532 ?_
      obtain ⟨hg, h⟩ := oH_G h
      refine o_sald (i := 5) (pc := 533) hr (by decide) hg dL_law_533 ?_
      refine o_aload_n (pc := 534) dL_law_534 rfl 0 rfl ?_
      refine o_iload_n (pc := 535) dL_law_535 rfl 3 rfl ?_
      refine o_iconst (v := 3) (pc := 536) dL_law_536 (by decide) ?_
      refine o_iadd (pc := 537) dL_law_537 ?_
      obtain ⟨hg, h⟩ := oH_G h
      refine o_sald (i := 5) (pc := 538) hr (by decide) hg dL_law_538 ?_
      refine o_aload_n (pc := 539) dL_law_539 rfl 0 rfl ?_
      refine o_iload_n (pc := 540) dL_law_540 rfl 3 rfl ?_
      refine o_iconst (v := 4) (pc := 541) dL_law_541 (by decide) ?_
      refine o_iadd (pc := 542) dL_law_542 ?_
      obtain ⟨hg, h⟩ := oH_G h
      refine o_sald (i := 5) (pc := 543) hr (by decide) hg dL_law_543 ?_
      have h := oH_bind h
      refine o_callVi (pc := 544) (st := []) [oi (oSv r0 5 (Int32.toNatClampNeg (zv3 + (1 : Int32)))), oi (oSv r0 5 (Int32.toNatClampNeg (zv3 + (2 : Int32)))), oi (oSv r0 5 (Int32.toNatClampNeg (zv3 + (3 : Int32)))), oi (oSv r0 5 (Int32.toNatClampNeg (zv3 + (4 : Int32))))] hR md_X8_second wd_514 wd_515 wd_516 tc_900 j_900 rfl (Nat.le_of_ble_eq_true rfl) rfl dL_law_544 (s_X8_second e (by omega)  h) (fun zz29 h => ?_)
      refine o_aload_n (pc := 547) dL_law_547 rfl 2 rfl ?_
      refine o_aload_n (pc := 548) dL_law_548 rfl 0 rfl ?_
      refine o_iload_n (pc := 549) dL_law_549 rfl 3 rfl ?_
      refine o_iconst (v := 1) (pc := 550) dL_law_550 (by decide) ?_
      refine o_iadd (pc := 551) dL_law_551 ?_
      obtain ⟨hg, h⟩ := oH_G h
      refine o_sald (i := 5) (pc := 552) hr (by decide) hg dL_law_552 ?_
      refine o_aload_n (pc := 553) dL_law_553 rfl 0 rfl ?_
      refine o_iload_n (pc := 554) dL_law_554 rfl 3 rfl ?_
      refine o_iconst (v := 2) (pc := 555) dL_law_555 (by decide) ?_
      refine o_iadd (pc := 556) dL_law_556 ?_
      obtain ⟨hg, h⟩ := oH_G h
      refine o_sald (i := 5) (pc := 557) hr (by decide) hg dL_law_557 ?_
      refine o_aload_n (pc := 558) dL_law_558 rfl 0 rfl ?_
      refine o_iload_n (pc := 559) dL_law_559 rfl 3 rfl ?_
      refine o_iconst (v := 3) (pc := 560) dL_law_560 (by decide) ?_
      refine o_iadd (pc := 561) dL_law_561 ?_
      obtain ⟨hg, h⟩ := oH_G h
      refine o_sald (i := 5) (pc := 562) hr (by decide) hg dL_law_562 ?_
      refine o_aload_n (pc := 563) dL_law_563 rfl 0 rfl ?_
      refine o_iload_n (pc := 564) dL_law_564 rfl 3 rfl ?_
      refine o_iconst (v := 4) (pc := 565) dL_law_565 (by decide) ?_
      refine o_iadd (pc := 566) dL_law_566 ?_
      obtain ⟨hg, h⟩ := oH_G h
      refine o_sald (i := 5) (pc := 567) hr (by decide) hg dL_law_567 ?_
      have h := oH_bind h
      refine o_callVi (pc := 568) (st := [oi zz29.1]) [oi (oSv r0 5 (Int32.toNatClampNeg (zv3 + (1 : Int32)))), oi (oSv r0 5 (Int32.toNatClampNeg (zv3 + (2 : Int32)))), oi (oSv r0 5 (Int32.toNatClampNeg (zv3 + (3 : Int32)))), oi (oSv r0 5 (Int32.toNatClampNeg (zv3 + (4 : Int32))))] hR md_X9_second wd_1158 wd_1159 wd_1160 tc_1000 j_1000 rfl (Nat.le_of_ble_eq_true rfl) rfl dL_law_568 (s_X9_second e (by omega)  h) (fun zz30 h => ?_)
      refine o_icmp_eq 1334 (pc := 571) dL_law_571 (by decide) (fun hc => ?_) (fun hc => ?_)
      · have h := oH_T hc h
        obtain ⟨zx31, hx⟩ : ∃ y : Int32, y = zv3 + (8 : Int32) := ⟨_, rfl⟩
        have h := oH_let h zx31 hx
        refine o_iinc (lv1 := [(0, orf 2005 0), (1, orf 900 0), (2, orf 1000 0), (3, oi zx31)]) (pc := 1334) dL_law_1334 3 rfl hx.symm (by decide) rfl ?_
        clear hx
        refine o_goto 18 (pc := 1337) dL_law_1337 (by decide) ?_
        exact hVH _ (oH_some (P := fun z => Sum.elim VH VE z) h)
      · have h := oH_F hc h
        refine o_iconst (v := 0) (pc := 574) dL_law_574 (by decide) ?_
        exact hE _ _ _ _ dL_law_575 (by decide) (hRet _ (oH_some (P := fun z => Sum.elim VH VE z) h))
    have h := oH_F hc9 h
    by_cases hc10 : zx1 = 10
    · have h := oH_T hc10 h
      refine o_tabIn 576 (pc := 33) (off := 543) dL_law_33 (by rw [hc10]; decide) (by rw [hc10]; decide) (by rw [hc10]; rfl) (by decide) ?_
      refine o_aload_n (pc := 576) dL_law_576 rfl 1 rfl ?_
      refine o_aload_n (pc := 577) dL_law_577 rfl 0 rfl ?_
      refine o_iload_n (pc := 578) dL_law_578 rfl 3 rfl ?_
      refine o_iconst (v := 1) (pc := 579) dL_law_579 (by decide) ?_
      refine o_iadd (pc := 580) dL_law_580 ?_
      obtain ⟨hg, h⟩ := oH_G h
      refine o_sald (i := 5) (pc := 581) hr (by decide) hg dL_law_581 ?_
      refine o_aload_n (pc := 582) dL_law_582 rfl 0 rfl ?_
      refine o_iload_n (pc := 583) dL_law_583 rfl 3 rfl ?_
      refine o_iconst (v := 2) (pc := 584) dL_law_584 (by decide) ?_
      refine o_iadd (pc := 585) dL_law_585 ?_
      obtain ⟨hg, h⟩ := oH_G h
      refine o_sald (i := 5) (pc := 586) hr (by decide) hg dL_law_586 ?_
      have h := oH_bind h
      refine o_callVi (pc := 587) (st := []) [oi (oSv r0 5 (Int32.toNatClampNeg (zv3 + (1 : Int32)))), oi (oSv r0 5 (Int32.toNatClampNeg (zv3 + (2 : Int32))))] hR md_X8_put wd_532 wd_533 wd_534 tc_900 j_900 rfl (Nat.le_of_ble_eq_true rfl) rfl dL_law_587 (s_X8_put e (by omega)  h) (fun zz32 h => ?_)
      refine o_aload_n (pc := 590) dL_law_590 rfl 2 rfl ?_
      refine o_aload_n (pc := 591) dL_law_591 rfl 0 rfl ?_
      refine o_iload_n (pc := 592) dL_law_592 rfl 3 rfl ?_
      refine o_iconst (v := 1) (pc := 593) dL_law_593 (by decide) ?_
      refine o_iadd (pc := 594) dL_law_594 ?_
      obtain ⟨hg, h⟩ := oH_G h
      refine o_sald (i := 5) (pc := 595) hr (by decide) hg dL_law_595 ?_
      refine o_aload_n (pc := 596) dL_law_596 rfl 0 rfl ?_
      refine o_iload_n (pc := 597) dL_law_597 rfl 3 rfl ?_
      refine o_iconst (v := 2) (pc := 598) dL_law_598 (by decide) ?_
      refine o_iadd (pc := 599) dL_law_599 ?_
      obtain ⟨hg, h⟩ := oH_G h
      refine o_sald (i := 5) (pc := 600) hr (by decide) hg dL_law_600 ?_
      have h := oH_bind h
      refine o_callVi (pc := 601) (st := [oi zz32.1]) [oi (oSv r0 5 (Int32.toNatClampNeg (zv3 + (1 : Int32)))), oi (oSv r0 5 (Int32.toNatClampNeg (zv3 + (2 : Int32))))] hR md_X9_put wd_1166 wd_1167 wd_1168 tc_1000 j_1000 rfl (Nat.le_of_ble_eq_true rfl) rfl dL_law_601 (s_X9_put e (by omega)  h) (fun zz33 h => ?_)
      refine o_icmp_eq 1334 (pc := 604) dL_law_604 (by decide) (fun hc => ?_) (fun hc => ?_)
      · have h := oH_T hc h
        obtain ⟨zx34, hx⟩ : ∃ y : Int32, y = zv3 + (8 : Int32) := ⟨_, rfl⟩
        have h := oH_let h zx34 hx
        refine o_iinc (lv1 := [(0, orf 2005 0), (1, orf 900 0), (2, orf 1000 0), (3, oi zx34)]) (pc := 1334) dL_law_1334 3 rfl hx.symm (by decide) rfl ?_
        clear hx
        refine o_goto 18 (pc := 1337) dL_law_1337 (by decide) ?_
        exact hVH _ (oH_some (P := fun z => Sum.elim VH VE z) h)
      · have h := oH_F hc h
        refine o_iconst (v := 0) (pc := 607) dL_law_607 (by decide) ?_
        exact hE _ _ _ _ dL_law_608 (by decide) (hRet _ (oH_some (P := fun z => Sum.elim VH VE z) h))
    have h := oH_F hc10 h
    by_cases hc11 : zx1 = 11
    · have h := oH_T hc11 h
      refine o_tabIn 609 (pc := 33) (off := 576) dL_law_33 (by rw [hc11]; decide) (by rw [hc11]; decide) (by rw [hc11]; rfl) (by decide) ?_
      refine o_aload_n (pc := 609) dL_law_609 rfl 1 rfl ?_
      refine o_aload_n (pc := 610) dL_law_610 rfl 0 rfl ?_
      refine o_iload_n (pc := 611) dL_law_611 rfl 3 rfl ?_
      refine o_iconst (v := 1) (pc := 612) dL_law_612 (by decide) ?_
      refine o_iadd (pc := 613) dL_law_613 ?_
      obtain ⟨hg, h⟩ := oH_G h
      refine o_sald (i := 5) (pc := 614) hr (by decide) hg dL_law_614 ?_
      refine o_aload_n (pc := 615) dL_law_615 rfl 0 rfl ?_
      refine o_iload_n (pc := 616) dL_law_616 rfl 3 rfl ?_
      refine o_iconst (v := 2) (pc := 617) dL_law_617 (by decide) ?_
      refine o_iadd (pc := 618) dL_law_618 ?_
      obtain ⟨hg, h⟩ := oH_G h
      refine o_sald (i := 5) (pc := 619) hr (by decide) hg dL_law_619 ?_
      have h := oH_bind h
      refine o_callVi (pc := 620) (st := []) [oi (oSv r0 5 (Int32.toNatClampNeg (zv3 + (1 : Int32)))), oi (oSv r0 5 (Int32.toNatClampNeg (zv3 + (2 : Int32))))] hR md_X8_move wd_559 wd_560 wd_561 tc_900 j_900 rfl (Nat.le_of_ble_eq_true rfl) rfl dL_law_620 (s_X8_move e (by omega)  h) (fun zz35 h => ?_)
      refine o_aload_n (pc := 623) dL_law_623 rfl 2 rfl ?_
      refine o_aload_n (pc := 624) dL_law_624 rfl 0 rfl ?_
      refine o_iload_n (pc := 625) dL_law_625 rfl 3 rfl ?_
      refine o_iconst (v := 1) (pc := 626) dL_law_626 (by decide) ?_
      refine o_iadd (pc := 627) dL_law_627 ?_
      obtain ⟨hg, h⟩ := oH_G h
      refine o_sald (i := 5) (pc := 628) hr (by decide) hg dL_law_628 ?_
      refine o_aload_n (pc := 629) dL_law_629 rfl 0 rfl ?_
      refine o_iload_n (pc := 630) dL_law_630 rfl 3 rfl ?_
      refine o_iconst (v := 2) (pc := 631) dL_law_631 (by decide) ?_
      refine o_iadd (pc := 632) dL_law_632 ?_
      obtain ⟨hg, h⟩ := oH_G h
      refine o_sald (i := 5) (pc := 633) hr (by decide) hg dL_law_633 ?_
      have h := oH_bind h
      refine o_callVi (pc := 634) (st := [oi zz35.1]) [oi (oSv r0 5 (Int32.toNatClampNeg (zv3 + (1 : Int32)))), oi (oSv r0 5 (Int32.toNatClampNeg (zv3 + (2 : Int32))))] hR md_X9_move wd_1197 wd_1198 wd_1199 tc_1000 j_1000 rfl (Nat.le_of_ble_eq_true rfl) rfl dL_law_634 (s_X9_move e (by omega)  h) (fun zz36 h => ?_)
      refine o_icmp_eq 1334 (pc := 637) dL_law_637 (by decide) (fun hc => ?_) (fun hc => ?_)
      · have h := oH_T hc h
        obtain ⟨zx37, hx⟩ : ∃ y : Int32, y = zv3 + (8 : Int32) := ⟨_, rfl⟩
        have h := oH_let h zx37 hx
        refine o_iinc (lv1 := [(0, orf 2005 0), (1, orf 900 0), (2, orf 1000 0), (3, oi zx37)]) (pc := 1334) dL_law_1334 3 rfl hx.symm (by decide) rfl ?_
        clear hx
        refine o_goto 18 (pc := 1337) dL_law_1337 (by decide) ?_
        exact hVH _ (oH_some (P := fun z => Sum.elim VH VE z) h)
      · have h := oH_F hc h
        refine o_iconst (v := 0) (pc := 640) dL_law_640 (by decide) ?_
        exact hE _ _ _ _ dL_law_641 (by decide) (hRet _ (oH_some (P := fun z => Sum.elim VH VE z) h))
    have h := oH_F hc11 h
    by_cases hc12 : zx1 = 12
    · have h := oH_T hc12 h
      refine o_tabIn 642 (pc := 33) (off := 609) dL_law_33 (by rw [hc12]; decide) (by rw [hc12]; decide) (by rw [hc12]; rfl) (by decide) ?_
      refine o_aload_n (pc := 642) dL_law_642 rfl 1 rfl ?_
      refine o_aload_n (pc := 643) dL_law_643 rfl 0 rfl ?_
      refine o_iload_n (pc := 644) dL_law_644 rfl 3 rfl ?_
      refine o_iconst (v := 1) (pc := 645) dL_law_645 (by decide) ?_
      refine o_iadd (pc := 646) dL_law_646 ?_
      obtain ⟨hg, h⟩ := oH_G h
      refine o_sald (i := 5) (pc := 647) hr (by decide) hg dL_law_647 ?_
      have h := oH_bind h
      refine o_callVi (pc := 648) (st := []) [oi (oSv r0 5 (Int32.toNatClampNeg (zv3 + (1 : Int32))))] hR md_X8_take wd_577 wd_578 wd_579 tc_900 j_900 rfl (Nat.le_of_ble_eq_true rfl) rfl dL_law_648 (s_X8_take e (by omega)  h) (fun zz38 h => ?_)
      refine o_aload_n (pc := 651) dL_law_651 rfl 2 rfl ?_
      refine o_aload_n (pc := 652) dL_law_652 rfl 0 rfl ?_
      refine o_iload_n (pc := 653) dL_law_653 rfl 3 rfl ?_
      refine o_iconst (v := 1) (pc := 654) dL_law_654 (by decide) ?_
      refine o_iadd (pc := 655) dL_law_655 ?_
      obtain ⟨hg, h⟩ := oH_G h
      refine o_sald (i := 5) (pc := 656) hr (by decide) hg dL_law_656 ?_
      have h := oH_bind h
      refine o_callVi (pc := 657) (st := [oi zz38.1]) [oi (oSv r0 5 (Int32.toNatClampNeg (zv3 + (1 : Int32))))] hR md_X9_take wd_1209 wd_1210 wd_1211 tc_1000 j_1000 rfl (Nat.le_of_ble_eq_true rfl) rfl dL_law_657 (s_X9_take e (by omega)  h) (fun zz39 h => ?_)
      refine o_icmp_eq 1334 (pc := 660) dL_law_660 (by decide) (fun hc => ?_) (fun hc => ?_)
      · have h := oH_T hc h
        obtain ⟨zx40, hx⟩ : ∃ y : Int32, y = zv3 + (8 : Int32) := ⟨_, rfl⟩
        have h := oH_let h zx40 hx
        refine o_iinc (lv1 := [(0, orf 2005 0), (1, orf 900 0), (2, orf 1000 0), (3, oi zx40)]) (pc := 1334) dL_law_1334 3 rfl hx.symm (by decide) rfl ?_
        clear hx
        refine o_goto 18 (pc := 1337) dL_law_1337 (by decide) ?_
        exact hVH _ (oH_some (P := fun z => Sum.elim VH VE z) h)
      · have h := oH_F hc h
        refine o_iconst (v := 0) (pc := 663) dL_law_663 (by decide) ?_
        exact hE _ _ _ _ dL_law_664 (by decide) (hRet _ (oH_some (P := fun z => Sum.elim VH VE z) h))
    have h := oH_F hc12 h
    by_cases hc13 : zx1 = 13
    · have h := oH_T hc13 h
      refine o_tabIn 665 (pc := 33) (off := 632) dL_law_33 (by rw [hc13]; decide) (by rw [hc13]; decide) (by rw [hc13]; rfl) (by decide) ?_
      refine o_aload_n (pc := 665) dL_law_665 rfl 1 rfl ?_
      refine o_aload_n (pc := 666) dL_law_666 rfl 0 rfl ?_
      refine o_iload_n (pc := 667) dL_law_667 rfl 3 rfl ?_
      refine o_iconst (v := 1) (pc := 668) dL_law_668 (by decide) ?_
      refine o_iadd (pc := 669) dL_law_669 ?_
      obtain ⟨hg, h⟩ := oH_G h
      refine o_sald (i := 5) (pc := 670) hr (by decide) hg dL_law_670 ?_
      refine o_aload_n (pc := 671) dL_law_671 rfl 0 rfl ?_
      refine o_iload_n (pc := 672) dL_law_672 rfl 3 rfl ?_
      refine o_iconst (v := 2) (pc := 673) dL_law_673 (by decide) ?_
      refine o_iadd (pc := 674) dL_law_674 ?_
      obtain ⟨hg, h⟩ := oH_G h
      refine o_sald (i := 5) (pc := 675) hr (by decide) hg dL_law_675 ?_
      have h := oH_bind h
      refine o_callVi (pc := 676) (st := []) [oi (oSv r0 5 (Int32.toNatClampNeg (zv3 + (1 : Int32)))), oi (oSv r0 5 (Int32.toNatClampNeg (zv3 + (2 : Int32))))] hR md_X8_loaf wd_589 wd_590 wd_591 tc_900 j_900 rfl (Nat.le_of_ble_eq_true rfl) rfl dL_law_676 (s_X8_loaf e (by omega)  h) (fun zz41 h => ?_)
      refine o_aload_n (pc := 679) dL_law_679 rfl 2 rfl ?_
      refine o_aload_n (pc := 680) dL_law_680 rfl 0 rfl ?_
      refine o_iload_n (pc := 681) dL_law_681 rfl 3 rfl ?_
      refine o_iconst (v := 1) (pc := 682) dL_law_682 (by decide) ?_
      refine o_iadd (pc := 683) dL_law_683 ?_
      obtain ⟨hg, h⟩ := oH_G h
      refine o_sald (i := 5) (pc := 684) hr (by decide) hg dL_law_684 ?_
      refine o_aload_n (pc := 685) dL_law_685 rfl 0 rfl ?_
      refine o_iload_n (pc := 686) dL_law_686 rfl 3 rfl ?_
      refine o_iconst (v := 2) (pc := 687) dL_law_687 (by decide) ?_
      refine o_iadd (pc := 688) dL_law_688 ?_
      obtain ⟨hg, h⟩ := oH_G h
      refine o_sald (i := 5) (pc := 689) hr (by decide) hg dL_law_689 ?_
      have h := oH_bind h
      refine o_callVi (pc := 690) (st := [oi zz41.1]) [oi (oSv r0 5 (Int32.toNatClampNeg (zv3 + (1 : Int32)))), oi (oSv r0 5 (Int32.toNatClampNeg (zv3 + (2 : Int32))))] hR md_X9_loaf wd_1217 wd_1218 wd_1219 tc_1000 j_1000 rfl (Nat.le_of_ble_eq_true rfl) rfl dL_law_690 (s_X9_loaf e (by omega)  h) (fun zz42 h => ?_)
      refine o_icmp_eq 1334 (pc := 693) dL_law_693 (by decide) (fun hc => ?_) (fun hc => ?_)
      · have h := oH_T hc h
        obtain ⟨zx43, hx⟩ : ∃ y : Int32, y = zv3 + (8 : Int32) := ⟨_, rfl⟩
        have h := oH_let h zx43 hx
        refine o_iinc (lv1 := [(0, orf 2005 0), (1, orf 900 0), (2, orf 1000 0), (3, oi zx43)]) (pc := 1334) dL_law_1334 3 rfl hx.symm (by decide) rfl ?_
        clear hx
        refine o_goto 18 (pc := 1337) dL_law_1337 (by decide) ?_
        exact hVH _ (oH_some (P := fun z => Sum.elim VH VE z) h)
      · have h := oH_F hc h
        refine o_iconst (v := 0) (pc := 696) dL_law_696 (by decide) ?_
        exact hE _ _ _ _ dL_law_697 (by decide) (hRet _ (oH_some (P := fun z => Sum.elim VH VE z) h))
    have h := oH_F hc13 h
    by_cases hc14 : zx1 = 14
    · have h := oH_T hc14 h
      refine o_tabIn 698 (pc := 33) (off := 665) dL_law_33 (by rw [hc14]; decide) (by rw [hc14]; decide) (by rw [hc14]; rfl) (by decide) ?_
      refine o_aload_n (pc := 698) dL_law_698 rfl 1 rfl ?_
      refine o_aload_n (pc := 699) dL_law_699 rfl 0 rfl ?_
      refine o_iload_n (pc := 700) dL_law_700 rfl 3 rfl ?_
      refine o_iconst (v := 1) (pc := 701) dL_law_701 (by decide) ?_
      refine o_iadd (pc := 702) dL_law_702 ?_
      obtain ⟨hg, h⟩ := oH_G h
      refine o_sald (i := 5) (pc := 703) hr (by decide) hg dL_law_703 ?_
      have h := oH_bind h
      refine o_callVi (pc := 704) (st := []) [oi (oSv r0 5 (Int32.toNatClampNeg (zv3 + (1 : Int32))))] hR md_X8_room wd_593 wd_594 wd_595 tc_900 j_900 rfl (Nat.le_of_ble_eq_true rfl) rfl dL_law_704 (s_X8_room e (by omega)  h) (fun zz44 h => ?_)
      refine o_aload_n (pc := 707) dL_law_707 rfl 2 rfl ?_
      refine o_aload_n (pc := 708) dL_law_708 rfl 0 rfl ?_
      refine o_iload_n (pc := 709) dL_law_709 rfl 3 rfl ?_
      refine o_iconst (v := 1) (pc := 710) dL_law_710 (by decide) ?_
      refine o_iadd (pc := 711) dL_law_711 ?_
      obtain ⟨hg, h⟩ := oH_G h
      refine o_sald (i := 5) (pc := 712) hr (by decide) hg dL_law_712 ?_
      have h := oH_bind h
      refine o_callVi (pc := 713) (st := [oi zz44.1]) [oi (oSv r0 5 (Int32.toNatClampNeg (zv3 + (1 : Int32))))] hR md_X9_room wd_1221 wd_1222 wd_1223 tc_1000 j_1000 rfl (Nat.le_of_ble_eq_true rfl) rfl dL_law_713 (s_X9_room e (by omega)  h) (fun zz45 h => ?_)
      refine o_icmp_eq 1334 (pc := 716) dL_law_716 (by decide) (fun hc => ?_) (fun hc => ?_)
      · have h := oH_T hc h
        obtain ⟨zx46, hx⟩ : ∃ y : Int32, y = zv3 + (8 : Int32) := ⟨_, rfl⟩
        have h := oH_let h zx46 hx
        refine o_iinc (lv1 := [(0, orf 2005 0), (1, orf 900 0), (2, orf 1000 0), (3, oi zx46)]) (pc := 1334) dL_law_1334 3 rfl hx.symm (by decide) rfl ?_
        clear hx
        refine o_goto 18 (pc := 1337) dL_law_1337 (by decide) ?_
        exact hVH _ (oH_some (P := fun z => Sum.elim VH VE z) h)
      · have h := oH_F hc h
        refine o_iconst (v := 0) (pc := 719) dL_law_719 (by decide) ?_
        exact hE _ _ _ _ dL_law_720 (by decide) (hRet _ (oH_some (P := fun z => Sum.elim VH VE z) h))
    have h := oH_F hc14 h
    by_cases hc15 : zx1 = 15
    · have h := oH_T hc15 h
      refine o_tabIn 721 (pc := 33) (off := 688) dL_law_33 (by rw [hc15]; decide) (by rw [hc15]; decide) (by rw [hc15]; rfl) (by decide) ?_
      refine o_aload_n (pc := 721) dL_law_721 rfl 1 rfl ?_
      refine o_aload_n (pc := 722) dL_law_722 rfl 0 rfl ?_
      refine o_iload_n (pc := 723) dL_law_723 rfl 3 rfl ?_
      refine o_iconst (v := 1) (pc := 724) dL_law_724 (by decide) ?_
      refine o_iadd (pc := 725) dL_law_725 ?_
      obtain ⟨hg, h⟩ := oH_G h
      refine o_sald (i := 5) (pc := 726) hr (by decide) hg dL_law_726 ?_
      have h := oH_bind h
      refine o_callVi (pc := 727) (st := []) [oi (oSv r0 5 (Int32.toNatClampNeg (zv3 + (1 : Int32))))] hR md_X8_order wd_599 wd_600 wd_601 tc_900 j_900 rfl (Nat.le_of_ble_eq_true rfl) rfl dL_law_727 (s_X8_order e (by omega)  h) (fun zz47 h => ?_)
      refine o_aload_n (pc := 730) dL_law_730 rfl 2 rfl ?_
      refine o_aload_n (pc := 731) dL_law_731 rfl 0 rfl ?_
      refine o_iload_n (pc := 732) dL_law_732 rfl 3 rfl ?_
      refine o_iconst (v := 1) (pc := 733) dL_law_733 (by decide) ?_
      refine o_iadd (pc := 734) dL_law_734 ?_
      obtain ⟨hg, h⟩ := oH_G h
      refine o_sald (i := 5) (pc := 735) hr (by decide) hg dL_law_735 ?_
      have h := oH_bind h
      refine o_callVi (pc := 736) (st := [oi zz47.1]) [oi (oSv r0 5 (Int32.toNatClampNeg (zv3 + (1 : Int32))))] hR md_X9_order wd_1225 wd_1226 wd_1227 tc_1000 j_1000 rfl (Nat.le_of_ble_eq_true rfl) rfl dL_law_736 (s_X9_order e (by omega)  h) (fun zz48 h => ?_)
      refine o_icmp_eq 1334 (pc := 739) dL_law_739 (by decide) (fun hc => ?_) (fun hc => ?_)
      · have h := oH_T hc h
        obtain ⟨zx49, hx⟩ : ∃ y : Int32, y = zv3 + (8 : Int32) := ⟨_, rfl⟩
        have h := oH_let h zx49 hx
        refine o_iinc (lv1 := [(0, orf 2005 0), (1, orf 900 0), (2, orf 1000 0), (3, oi zx49)]) (pc := 1334) dL_law_1334 3 rfl hx.symm (by decide) rfl ?_
        clear hx
        refine o_goto 18 (pc := 1337) dL_law_1337 (by decide) ?_
        exact hVH _ (oH_some (P := fun z => Sum.elim VH VE z) h)
      · have h := oH_F hc h
        refine o_iconst (v := 0) (pc := 742) dL_law_742 (by decide) ?_
        exact hE _ _ _ _ dL_law_743 (by decide) (hRet _ (oH_some (P := fun z => Sum.elim VH VE z) h))
    have h := oH_F hc15 h
    by_cases hc16 : zx1 = 16
    · have h := oH_T hc16 h
      refine o_tabIn 744 (pc := 33) (off := 711) dL_law_33 (by rw [hc16]; decide) (by rw [hc16]; decide) (by rw [hc16]; rfl) (by decide) ?_
      refine o_aload_n (pc := 744) dL_law_744 rfl 1 rfl ?_
      refine o_aload_n (pc := 745) dL_law_745 rfl 0 rfl ?_
      refine o_iload_n (pc := 746) dL_law_746 rfl 3 rfl ?_
      refine o_iconst (v := 1) (pc := 747) dL_law_747 (by decide) ?_
      refine o_iadd (pc := 748) dL_law_748 ?_
      obtain ⟨hg, h⟩ := oH_G h
      refine o_sald (i := 5) (pc := 749) hr (by decide) hg dL_law_749 ?_
      have h := oH_bind h
      refine o_callVi (pc := 750) (st := []) [oi (oSv r0 5 (Int32.toNatClampNeg (zv3 + (1 : Int32))))] hR md_X8_opening wd_607 wd_608 wd_609 tc_900 j_900 rfl (Nat.le_of_ble_eq_true rfl) rfl dL_law_750 (s_X8_opening e (by omega)  h) (fun zz50 h => ?_)
      refine o_aload_n (pc := 753) dL_law_753 rfl 2 rfl ?_
      refine o_aload_n (pc := 754) dL_law_754 rfl 0 rfl ?_
      refine o_iload_n (pc := 755) dL_law_755 rfl 3 rfl ?_
      refine o_iconst (v := 1) (pc := 756) dL_law_756 (by decide) ?_
      refine o_iadd (pc := 757) dL_law_757 ?_
      obtain ⟨hg, h⟩ := oH_G h
      refine o_sald (i := 5) (pc := 758) hr (by decide) hg dL_law_758 ?_
      have h := oH_bind h
      refine o_callVi (pc := 759) (st := [oi zz50.1]) [oi (oSv r0 5 (Int32.toNatClampNeg (zv3 + (1 : Int32))))] hR md_X9_opening wd_1229 wd_1230 wd_1231 tc_1000 j_1000 rfl (Nat.le_of_ble_eq_true rfl) rfl dL_law_759 (s_X9_opening e (by omega)  h) (fun zz51 h => ?_)
      refine o_icmp_eq 1334 (pc := 762) dL_law_762 (by decide) (fun hc => ?_) (fun hc => ?_)
      · have h := oH_T hc h
        obtain ⟨zx52, hx⟩ : ∃ y : Int32, y = zv3 + (8 : Int32) := ⟨_, rfl⟩
        have h := oH_let h zx52 hx
        refine o_iinc (lv1 := [(0, orf 2005 0), (1, orf 900 0), (2, orf 1000 0), (3, oi zx52)]) (pc := 1334) dL_law_1334 3 rfl hx.symm (by decide) rfl ?_
        clear hx
        refine o_goto 18 (pc := 1337) dL_law_1337 (by decide) ?_
        exact hVH _ (oH_some (P := fun z => Sum.elim VH VE z) h)
      · have h := oH_F hc h
        refine o_iconst (v := 0) (pc := 765) dL_law_765 (by decide) ?_
        exact hE _ _ _ _ dL_law_766 (by decide) (hRet _ (oH_some (P := fun z => Sum.elim VH VE z) h))
    have h := oH_F hc16 h
    by_cases hc17 : zx1 = 17
    · have h := oH_T hc17 h
      refine o_tabIn 767 (pc := 33) (off := 734) dL_law_33 (by rw [hc17]; decide) (by rw [hc17]; decide) (by rw [hc17]; rfl) (by decide) ?_
      refine o_aload_n (pc := 767) dL_law_767 rfl 1 rfl ?_
      have h := oH_bind h
      refine o_callVi (pc := 768) (st := []) [] hR md_X8_clear wd_619 wd_620 wd_621 tc_900 j_900 rfl (Nat.le_of_ble_eq_true rfl) rfl dL_law_768 (s_X8_clear e (by omega)  h) (fun zz53 h => ?_)
      refine o_aload_n (pc := 771) dL_law_771 rfl 2 rfl ?_
      have h := oH_bind h
      refine o_callVi (pc := 772) (st := [oi zz53.1]) [] hR md_X9_clear wd_1233 wd_1234 wd_1235 tc_1000 j_1000 rfl (Nat.le_of_ble_eq_true rfl) rfl dL_law_772 (s_X9_clear e (by omega)  h) (fun zz54 h => ?_)
      refine o_icmp_eq 1334 (pc := 775) dL_law_775 (by decide) (fun hc => ?_) (fun hc => ?_)
      · have h := oH_T hc h
        obtain ⟨zx55, hx⟩ : ∃ y : Int32, y = zv3 + (8 : Int32) := ⟨_, rfl⟩
        have h := oH_let h zx55 hx
        refine o_iinc (lv1 := [(0, orf 2005 0), (1, orf 900 0), (2, orf 1000 0), (3, oi zx55)]) (pc := 1334) dL_law_1334 3 rfl hx.symm (by decide) rfl ?_
        clear hx
        refine o_goto 18 (pc := 1337) dL_law_1337 (by decide) ?_
        exact hVH _ (oH_some (P := fun z => Sum.elim VH VE z) h)
      · have h := oH_F hc h
        refine o_iconst (v := 0) (pc := 778) dL_law_778 (by decide) ?_
        exact hE _ _ _ _ dL_law_779 (by decide) (hRet _ (oH_some (P := fun z => Sum.elim VH VE z) h))
    have h := oH_F hc17 h
    by_cases hc18 : zx1 = 18
    · have h := oH_T hc18 h
      refine o_tabIn 780 (pc := 33) (off := 747) dL_law_33 (by rw [hc18]; decide) (by rw [hc18]; decide) (by rw [hc18]; rfl) (by decide) ?_
      refine o_aload_n (pc := 780) dL_law_780 rfl 1 rfl ?_
      have h := oH_bind h
      refine o_callVi (pc := 781) (st := []) [] hR md_X8_plan wd_623 wd_624 wd_625 tc_900 j_900 rfl (Nat.le_of_ble_eq_true rfl) rfl dL_law_781 (s_X8_plan e (by omega)  h) (fun zz56 h => ?_)
      refine o_aload_n (pc := 784) dL_law_784 rfl 2 rfl ?_
      have h := oH_bind h
      refine o_callVi (pc := 785) (st := [oi zz56.1]) [] hR md_X9_plan wd_1237 wd_1238 wd_1239 tc_1000 j_1000 rfl (Nat.le_of_ble_eq_true rfl) rfl dL_law_785 (s_X9_plan e (by omega)  h) (fun zz57 h => ?_)
      refine o_icmp_eq 1334 (pc := 788) dL_law_788 (by decide) (fun hc => ?_) (fun hc => ?_)
      · have h := oH_T hc h
        obtain ⟨zx58, hx⟩ : ∃ y : Int32, y = zv3 + (8 : Int32) := ⟨_, rfl⟩
        have h := oH_let h zx58 hx
        refine o_iinc (lv1 := [(0, orf 2005 0), (1, orf 900 0), (2, orf 1000 0), (3, oi zx58)]) (pc := 1334) dL_law_1334 3 rfl hx.symm (by decide) rfl ?_
        clear hx
        refine o_goto 18 (pc := 1337) dL_law_1337 (by decide) ?_
        exact hVH _ (oH_some (P := fun z => Sum.elim VH VE z) h)
      · have h := oH_F hc h
        refine o_iconst (v := 0) (pc := 791) dL_law_791 (by decide) ?_
        exact hE _ _ _ _ dL_law_792 (by decide) (hRet _ (oH_some (P := fun z => Sum.elim VH VE z) h))
    have h := oH_F hc18 h
    by_cases hc19 : zx1 = 19
    · have h := oH_T hc19 h
      refine o_tabIn 793 (pc := 33) (off := 760) dL_law_33 (by rw [hc19]; decide) (by rw [hc19]; decide) (by rw [hc19]; rfl) (by decide) ?_
      refine o_aload_n (pc := 793) dL_law_793 rfl 1 rfl ?_
      refine o_aload_n (pc := 794) dL_law_794 rfl 0 rfl ?_
      refine o_iload_n (pc := 795) dL_law_795 rfl 3 rfl ?_
      refine o_iconst (v := 1) (pc := 796) dL_law_796 (by decide) ?_
      refine o_iadd (pc := 797) dL_law_797 ?_
      obtain ⟨hg, h⟩ := oH_G h
      refine o_sald (i := 5) (pc := 798) hr (by decide) hg dL_law_798 ?_
      refine o_aload_n (pc := 799) dL_law_799 rfl 0 rfl ?_
      refine o_iload_n (pc := 800) dL_law_800 rfl 3 rfl ?_
      refine o_iconst (v := 2) (pc := 801) dL_law_801 (by decide) ?_
      refine o_iadd (pc := 802) dL_law_802 ?_
      obtain ⟨hg, h⟩ := oH_G h
      refine o_sald (i := 5) (pc := 803) hr (by decide) hg dL_law_803 ?_
      have h := oH_bind h
      refine o_callVi (pc := 804) (st := []) [oi (oSv r0 5 (Int32.toNatClampNeg (zv3 + (1 : Int32)))), oi (oSv r0 5 (Int32.toNatClampNeg (zv3 + (2 : Int32))))] hR md_X8_planned wd_678 wd_679 wd_680 tc_900 j_900 rfl (Nat.le_of_ble_eq_true rfl) rfl dL_law_804 (s_X8_planned e (by omega)  h) (fun zz59 h => ?_)
      refine o_aload_n (pc := 807) dL_law_807 rfl 2 rfl ?_
      refine o_aload_n (pc := 808) dL_law_808 rfl 0 rfl ?_
      refine o_iload_n (pc := 809) dL_law_809 rfl 3 rfl ?_
      refine o_iconst (v := 1) (pc := 810) dL_law_810 (by decide) ?_
      refine o_iadd (pc := 811) dL_law_811 ?_
      obtain ⟨hg, h⟩ := oH_G h
      refine o_sald (i := 5) (pc := 812) hr (by decide) hg dL_law_812 ?_
      refine o_aload_n (pc := 813) dL_law_813 rfl 0 rfl ?_
      refine o_iload_n (pc := 814) dL_law_814 rfl 3 rfl ?_
      refine o_iconst (v := 2) (pc := 815) dL_law_815 (by decide) ?_
      refine o_iadd (pc := 816) dL_law_816 ?_
      obtain ⟨hg, h⟩ := oH_G h
      refine o_sald (i := 5) (pc := 817) hr (by decide) hg dL_law_817 ?_
      have h := oH_bind h
      refine o_callVi (pc := 818) (st := [oi zz59.1]) [oi (oSv r0 5 (Int32.toNatClampNeg (zv3 + (1 : Int32)))), oi (oSv r0 5 (Int32.toNatClampNeg (zv3 + (2 : Int32))))] hR md_X9_planned wd_1273 wd_1274 wd_1275 tc_1000 j_1000 rfl (Nat.le_of_ble_eq_true rfl) rfl dL_law_818 (s_X9_planned e (by omega)  h) (fun zz60 h => ?_)
      refine o_icmp_eq 1334 (pc := 821) dL_law_821 (by decide) (fun hc => ?_) (fun hc => ?_)
      · have h := oH_T hc h
        obtain ⟨zx61, hx⟩ : ∃ y : Int32, y = zv3 + (8 : Int32) := ⟨_, rfl⟩
        have h := oH_let h zx61 hx
        refine o_iinc (lv1 := [(0, orf 2005 0), (1, orf 900 0), (2, orf 1000 0), (3, oi zx61)]) (pc := 1334) dL_law_1334 3 rfl hx.symm (by decide) rfl ?_
        clear hx
        refine o_goto 18 (pc := 1337) dL_law_1337 (by decide) ?_
        exact hVH _ (oH_some (P := fun z => Sum.elim VH VE z) h)
      · have h := oH_F hc h
        refine o_iconst (v := 0) (pc := 824) dL_law_824 (by decide) ?_
        exact hE _ _ _ _ dL_law_825 (by decide) (hRet _ (oH_some (P := fun z => Sum.elim VH VE z) h))
    have h := oH_F hc19 h
    by_cases hc20 : zx1 = 20
    · have h := oH_T hc20 h
      refine o_tabIn 826 (pc := 33) (off := 793) dL_law_33 (by rw [hc20]; decide) (by rw [hc20]; decide) (by rw [hc20]; rfl) (by decide) ?_
      refine o_aload_n (pc := 826) dL_law_826 rfl 1 rfl ?_
      refine o_aload_n (pc := 827) dL_law_827 rfl 0 rfl ?_
      refine o_iload_n (pc := 828) dL_law_828 rfl 3 rfl ?_
      refine o_iconst (v := 1) (pc := 829) dL_law_829 (by decide) ?_
      refine o_iadd (pc := 830) dL_law_830 ?_
      obtain ⟨hg, h⟩ := oH_G h
      refine o_sald (i := 5) (pc := 831) hr (by decide) hg dL_law_831 ?_
      have h := oH_bind h
      refine o_callVi (pc := 832) (st := []) [oi (oSv r0 5 (Int32.toNatClampNeg (zv3 + (1 : Int32))))] hR md_X8_last wd_687 wd_688 wd_689 tc_900 j_900 rfl (Nat.le_of_ble_eq_true rfl) rfl dL_law_832 (s_X8_last e (by omega)  h) (fun zz62 h => ?_)
      refine o_aload_n (pc := 835) dL_law_835 rfl 2 rfl ?_
      refine o_aload_n (pc := 836) dL_law_836 rfl 0 rfl ?_
      refine o_iload_n (pc := 837) dL_law_837 rfl 3 rfl ?_
      refine o_iconst (v := 1) (pc := 838) dL_law_838 (by decide) ?_
      refine o_iadd (pc := 839) dL_law_839 ?_
      obtain ⟨hg, h⟩ := oH_G h
      refine o_sald (i := 5) (pc := 840) hr (by decide) hg dL_law_840 ?_
      have h := oH_bind h
      refine o_callVi (pc := 841) (st := [oi zz62.1]) [oi (oSv r0 5 (Int32.toNatClampNeg (zv3 + (1 : Int32))))] hR md_X9_last wd_1277 wd_1278 wd_1279 tc_1000 j_1000 rfl (Nat.le_of_ble_eq_true rfl) rfl dL_law_841 (s_X9_last e (by omega)  h) (fun zz63 h => ?_)
      refine o_icmp_eq 1334 (pc := 844) dL_law_844 (by decide) (fun hc => ?_) (fun hc => ?_)
      · have h := oH_T hc h
        obtain ⟨zx64, hx⟩ : ∃ y : Int32, y = zv3 + (8 : Int32) := ⟨_, rfl⟩
        have h := oH_let h zx64 hx
        refine o_iinc (lv1 := [(0, orf 2005 0), (1, orf 900 0), (2, orf 1000 0), (3, oi zx64)]) (pc := 1334) dL_law_1334 3 rfl hx.symm (by decide) rfl ?_
        clear hx
        refine o_goto 18 (pc := 1337) dL_law_1337 (by decide) ?_
        exact hVH _ (oH_some (P := fun z => Sum.elim VH VE z) h)
      · have h := oH_F hc h
        refine o_iconst (v := 0) (pc := 847) dL_law_847 (by decide) ?_
        exact hE _ _ _ _ dL_law_848 (by decide) (hRet _ (oH_some (P := fun z => Sum.elim VH VE z) h))
    have h := oH_F hc20 h
    by_cases hc21 : zx1 = 21
    · have h := oH_T hc21 h
      refine o_tabIn 849 (pc := 33) (off := 816) dL_law_33 (by rw [hc21]; decide) (by rw [hc21]; decide) (by rw [hc21]; rfl) (by decide) ?_
      refine o_aload_n (pc := 849) dL_law_849 rfl 1 rfl ?_
      refine o_aload_n (pc := 850) dL_law_850 rfl 0 rfl ?_
      refine o_iload_n (pc := 851) dL_law_851 rfl 3 rfl ?_
      refine o_iconst (v := 1) (pc := 852) dL_law_852 (by decide) ?_
      refine o_iadd (pc := 853) dL_law_853 ?_
      obtain ⟨hg, h⟩ := oH_G h
      refine o_sald (i := 5) (pc := 854) hr (by decide) hg dL_law_854 ?_
      refine o_aload_n (pc := 855) dL_law_855 rfl 0 rfl ?_
      refine o_iload_n (pc := 856) dL_law_856 rfl 3 rfl ?_
      refine o_iconst (v := 2) (pc := 857) dL_law_857 (by decide) ?_
      refine o_iadd (pc := 858) dL_law_858 ?_
      obtain ⟨hg, h⟩ := oH_G h
      refine o_sald (i := 5) (pc := 859) hr (by decide) hg dL_law_859 ?_
      refine o_aload_n (pc := 860) dL_law_860 rfl 0 rfl ?_
      refine o_iload_n (pc := 861) dL_law_861 rfl 3 rfl ?_
      refine o_iconst (v := 3) (pc := 862) dL_law_862 (by decide) ?_
      refine o_iadd (pc := 863) dL_law_863 ?_
      obtain ⟨hg, h⟩ := oH_G h
      refine o_sald (i := 5) (pc := 864) hr (by decide) hg dL_law_864 ?_
      refine o_aload_n (pc := 865) dL_law_865 rfl 0 rfl ?_
      refine o_iload_n (pc := 866) dL_law_866 rfl 3 rfl ?_
      refine o_iconst (v := 4) (pc := 867) dL_law_867 (by decide) ?_
      refine o_iadd (pc := 868) dL_law_868 ?_
      obtain ⟨hg, h⟩ := oH_G h
      refine o_sald (i := 5) (pc := 869) hr (by decide) hg dL_law_869 ?_
      refine o_aload_n (pc := 870) dL_law_870 rfl 0 rfl ?_
      refine o_iload_n (pc := 871) dL_law_871 rfl 3 rfl ?_
      refine o_iconst (v := 5) (pc := 872) dL_law_872 (by decide) ?_
      refine o_iadd (pc := 873) dL_law_873 ?_
      obtain ⟨hg, h⟩ := oH_G h
      refine o_sald (i := 5) (pc := 874) hr (by decide) hg dL_law_874 ?_
      have h := oH_bind h
      refine o_callVi (pc := 875) (st := []) [oi (oSv r0 5 (Int32.toNatClampNeg (zv3 + (1 : Int32)))), oi (oSv r0 5 (Int32.toNatClampNeg (zv3 + (2 : Int32)))), oi (oSv r0 5 (Int32.toNatClampNeg (zv3 + (3 : Int32)))), oi (oSv r0 5 (Int32.toNatClampNeg (zv3 + (4 : Int32)))), oi (oSv r0 5 (Int32.toNatClampNeg (zv3 + (5 : Int32))))] hR md_X8_wood wd_697 wd_698 wd_699 tc_900 j_900 rfl (Nat.le_of_ble_eq_true rfl) rfl dL_law_875 (s_X8_wood e (by omega)  h) (fun zz65 h => ?_)
      refine o_aload_n (pc := 878) dL_law_878 rfl 2 rfl ?_
      refine o_aload_n (pc := 879) dL_law_879 rfl 0 rfl ?_
      refine o_iload_n (pc := 880) dL_law_880 rfl 3 rfl ?_
      refine o_iconst (v := 1) (pc := 881) dL_law_881 (by decide) ?_
      refine o_iadd (pc := 882) dL_law_882 ?_
      obtain ⟨hg, h⟩ := oH_G h
      refine o_sald (i := 5) (pc := 883) hr (by decide) hg dL_law_883 ?_
      refine o_aload_n (pc := 884) dL_law_884 rfl 0 rfl ?_
      refine o_iload_n (pc := 885) dL_law_885 rfl 3 rfl ?_
      refine o_iconst (v := 2) (pc := 886) dL_law_886 (by decide) ?_
      refine o_iadd (pc := 887) dL_law_887 ?_
      obtain ⟨hg, h⟩ := oH_G h
      refine o_sald (i := 5) (pc := 888) hr (by decide) hg dL_law_888 ?_
      refine o_aload_n (pc := 889) dL_law_889 rfl 0 rfl ?_
      refine o_iload_n (pc := 890) dL_law_890 rfl 3 rfl ?_
      refine o_iconst (v := 3) (pc := 891) dL_law_891 (by decide) ?_
      refine o_iadd (pc := 892) dL_law_892 ?_
      obtain ⟨hg, h⟩ := oH_G h
      refine o_sald (i := 5) (pc := 893) hr (by decide) hg dL_law_893 ?_
      refine o_aload_n (pc := 894) dL_law_894 rfl 0 rfl ?_
      refine o_iload_n (pc := 895) dL_law_895 rfl 3 rfl ?_
      refine o_iconst (v := 4) (pc := 896) dL_law_896 (by decide) ?_
      refine o_iadd (pc := 897) dL_law_897 ?_
      obtain ⟨hg, h⟩ := oH_G h
      refine o_sald (i := 5) (pc := 898) hr (by decide) hg dL_law_898 ?_
      refine o_aload_n (pc := 899) dL_law_899 rfl 0 rfl ?_
      refine o_iload_n (pc := 900) dL_law_900 rfl 3 rfl ?_
      refine o_iconst (v := 5) (pc := 901) dL_law_901 (by decide) ?_
      refine o_iadd (pc := 902) dL_law_902 ?_
      obtain ⟨hg, h⟩ := oH_G h
      refine o_sald (i := 5) (pc := 903) hr (by decide) hg dL_law_903 ?_
      have h := oH_bind h
      refine o_callVi (pc := 904) (st := [oi zz65.1]) [oi (oSv r0 5 (Int32.toNatClampNeg (zv3 + (1 : Int32)))), oi (oSv r0 5 (Int32.toNatClampNeg (zv3 + (2 : Int32)))), oi (oSv r0 5 (Int32.toNatClampNeg (zv3 + (3 : Int32)))), oi (oSv r0 5 (Int32.toNatClampNeg (zv3 + (4 : Int32)))), oi (oSv r0 5 (Int32.toNatClampNeg (zv3 + (5 : Int32))))] hR md_X9_wood wd_1281 wd_1282 wd_1283 tc_1000 j_1000 rfl (Nat.le_of_ble_eq_true rfl) rfl dL_law_904 (s_X9_wood e (by omega)  h) (fun zz66 h => ?_)
      refine o_icmp_eq 1334 (pc := 907) dL_law_907 (by decide) (fun hc => ?_) (fun hc => ?_)
      · have h := oH_T hc h
        obtain ⟨zx67, hx⟩ : ∃ y : Int32, y = zv3 + (8 : Int32) := ⟨_, rfl⟩
        have h := oH_let h zx67 hx
        refine o_iinc (lv1 := [(0, orf 2005 0), (1, orf 900 0), (2, orf 1000 0), (3, oi zx67)]) (pc := 1334) dL_law_1334 3 rfl hx.symm (by decide) rfl ?_
        clear hx
        refine o_goto 18 (pc := 1337) dL_law_1337 (by decide) ?_
        exact hVH _ (oH_some (P := fun z => Sum.elim VH VE z) h)
      · have h := oH_F hc h
        refine o_iconst (v := 0) (pc := 910) dL_law_910 (by decide) ?_
        exact hE _ _ _ _ dL_law_911 (by decide) (hRet _ (oH_some (P := fun z => Sum.elim VH VE z) h))
    have h := oH_F hc21 h
    by_cases hc22 : zx1 = 22
    · have h := oH_T hc22 h
      refine o_tabIn 912 (pc := 33) (off := 879) dL_law_33 (by rw [hc22]; decide) (by rw [hc22]; decide) (by rw [hc22]; rfl) (by decide) ?_
      refine o_aload_n (pc := 912) dL_law_912 rfl 1 rfl ?_
      refine o_aload_n (pc := 913) dL_law_913 rfl 0 rfl ?_
      refine o_iload_n (pc := 914) dL_law_914 rfl 3 rfl ?_
      refine o_iconst (v := 1) (pc := 915) dL_law_915 (by decide) ?_
      refine o_iadd (pc := 916) dL_law_916 ?_
      obtain ⟨hg, h⟩ := oH_G h
      refine o_sald (i := 5) (pc := 917) hr (by decide) hg dL_law_917 ?_
      have h := oH_bind h
      refine o_callVi (pc := 918) (st := []) [oi (oSv r0 5 (Int32.toNatClampNeg (zv3 + (1 : Int32))))] hR md_X8_households wd_717 wd_718 wd_719 tc_900 j_900 rfl (Nat.le_of_ble_eq_true rfl) rfl dL_law_918 (s_X8_households e (by omega)  h) (fun zz68 h => ?_)
      refine o_aload_n (pc := 921) dL_law_921 rfl 2 rfl ?_
      refine o_aload_n (pc := 922) dL_law_922 rfl 0 rfl ?_
      refine o_iload_n (pc := 923) dL_law_923 rfl 3 rfl ?_
      refine o_iconst (v := 1) (pc := 924) dL_law_924 (by decide) ?_
      refine o_iadd (pc := 925) dL_law_925 ?_
      obtain ⟨hg, h⟩ := oH_G h
      refine o_sald (i := 5) (pc := 926) hr (by decide) hg dL_law_926 ?_
      have h := oH_bind h
      refine o_callVi (pc := 927) (st := [oi zz68.1]) [oi (oSv r0 5 (Int32.toNatClampNeg (zv3 + (1 : Int32))))] hR md_X9_households wd_1285 wd_1286 wd_1287 tc_1000 j_1000 rfl (Nat.le_of_ble_eq_true rfl) rfl dL_law_927 (s_X9_households e (by omega)  h) (fun zz69 h => ?_)
      refine o_icmp_eq 1334 (pc := 930) dL_law_930 (by decide) (fun hc => ?_) (fun hc => ?_)
      · have h := oH_T hc h
        obtain ⟨zx70, hx⟩ : ∃ y : Int32, y = zv3 + (8 : Int32) := ⟨_, rfl⟩
        have h := oH_let h zx70 hx
        refine o_iinc (lv1 := [(0, orf 2005 0), (1, orf 900 0), (2, orf 1000 0), (3, oi zx70)]) (pc := 1334) dL_law_1334 3 rfl hx.symm (by decide) rfl ?_
        clear hx
        refine o_goto 18 (pc := 1337) dL_law_1337 (by decide) ?_
        exact hVH _ (oH_some (P := fun z => Sum.elim VH VE z) h)
      · have h := oH_F hc h
        refine o_iconst (v := 0) (pc := 933) dL_law_933 (by decide) ?_
        exact hE _ _ _ _ dL_law_934 (by decide) (hRet _ (oH_some (P := fun z => Sum.elim VH VE z) h))
    have h := oH_F hc22 h
    by_cases hc23 : zx1 = 23
    · have h := oH_T hc23 h
      refine o_tabIn 935 (pc := 33) (off := 902) dL_law_33 (by rw [hc23]; decide) (by rw [hc23]; decide) (by rw [hc23]; rfl) (by decide) ?_
      refine o_aload_n (pc := 935) dL_law_935 rfl 1 rfl ?_
      refine o_aload_n (pc := 936) dL_law_936 rfl 0 rfl ?_
      refine o_iload_n (pc := 937) dL_law_937 rfl 3 rfl ?_
      refine o_iconst (v := 1) (pc := 938) dL_law_938 (by decide) ?_
      refine o_iadd (pc := 939) dL_law_939 ?_
      obtain ⟨hg, h⟩ := oH_G h
      refine o_sald (i := 5) (pc := 940) hr (by decide) hg dL_law_940 ?_
      refine o_aload_n (pc := 941) dL_law_941 rfl 0 rfl ?_
      refine o_iload_n (pc := 942) dL_law_942 rfl 3 rfl ?_
      refine o_iconst (v := 2) (pc := 943) dL_law_943 (by decide) ?_
      refine o_iadd (pc := 944) dL_law_944 ?_
      obtain ⟨hg, h⟩ := oH_G h
      refine o_sald (i := 5) (pc := 945) hr (by decide) hg dL_law_945 ?_
      have h := oH_bind h
      refine o_callVi (pc := 946) (st := []) [oi (oSv r0 5 (Int32.toNatClampNeg (zv3 + (1 : Int32)))), oi (oSv r0 5 (Int32.toNatClampNeg (zv3 + (2 : Int32))))] hR md_X8_custom wd_721 wd_722 wd_723 tc_900 j_900 rfl (Nat.le_of_ble_eq_true rfl) rfl dL_law_946 (s_X8_custom e (by omega)  h) (fun zz71 h => ?_)
      refine o_aload_n (pc := 949) dL_law_949 rfl 2 rfl ?_
      refine o_aload_n (pc := 950) dL_law_950 rfl 0 rfl ?_
      refine o_iload_n (pc := 951) dL_law_951 rfl 3 rfl ?_
      refine o_iconst (v := 1) (pc := 952) dL_law_952 (by decide) ?_
      refine o_iadd (pc := 953) dL_law_953 ?_
      obtain ⟨hg, h⟩ := oH_G h
      refine o_sald (i := 5) (pc := 954) hr (by decide) hg dL_law_954 ?_
      refine o_aload_n (pc := 955) dL_law_955 rfl 0 rfl ?_
      refine o_iload_n (pc := 956) dL_law_956 rfl 3 rfl ?_
      refine o_iconst (v := 2) (pc := 957) dL_law_957 (by decide) ?_
      refine o_iadd (pc := 958) dL_law_958 ?_
      obtain ⟨hg, h⟩ := oH_G h
      refine o_sald (i := 5) (pc := 959) hr (by decide) hg dL_law_959 ?_
      have h := oH_bind h
      refine o_callVi (pc := 960) (st := [oi zz71.1]) [oi (oSv r0 5 (Int32.toNatClampNeg (zv3 + (1 : Int32)))), oi (oSv r0 5 (Int32.toNatClampNeg (zv3 + (2 : Int32))))] hR md_X9_custom wd_1289 wd_1290 wd_1291 tc_1000 j_1000 rfl (Nat.le_of_ble_eq_true rfl) rfl dL_law_960 (s_X9_custom e (by omega)  h) (fun zz72 h => ?_)
      refine o_icmp_eq 1334 (pc := 963) dL_law_963 (by decide) (fun hc => ?_) (fun hc => ?_)
      · have h := oH_T hc h
        obtain ⟨zx73, hx⟩ : ∃ y : Int32, y = zv3 + (8 : Int32) := ⟨_, rfl⟩
        have h := oH_let h zx73 hx
        refine o_iinc (lv1 := [(0, orf 2005 0), (1, orf 900 0), (2, orf 1000 0), (3, oi zx73)]) (pc := 1334) dL_law_1334 3 rfl hx.symm (by decide) rfl ?_
        clear hx
        refine o_goto 18 (pc := 1337) dL_law_1337 (by decide) ?_
        exact hVH _ (oH_some (P := fun z => Sum.elim VH VE z) h)
      · have h := oH_F hc h
        refine o_iconst (v := 0) (pc := 966) dL_law_966 (by decide) ?_
        exact hE _ _ _ _ dL_law_967 (by decide) (hRet _ (oH_some (P := fun z => Sum.elim VH VE z) h))
    have h := oH_F hc23 h
    by_cases hc24 : zx1 = 24
    · have h := oH_T hc24 h
      refine o_tabIn 968 (pc := 33) (off := 935) dL_law_33 (by rw [hc24]; decide) (by rw [hc24]; decide) (by rw [hc24]; rfl) (by decide) ?_
      refine o_aload_n (pc := 968) dL_law_968 rfl 1 rfl ?_
      refine o_aload_n (pc := 969) dL_law_969 rfl 0 rfl ?_
      refine o_iload_n (pc := 970) dL_law_970 rfl 3 rfl ?_
      refine o_iconst (v := 1) (pc := 971) dL_law_971 (by decide) ?_
      refine o_iadd (pc := 972) dL_law_972 ?_
      obtain ⟨hg, h⟩ := oH_G h
      refine o_sald (i := 5) (pc := 973) hr (by decide) hg dL_law_973 ?_
      refine o_aload_n (pc := 974) dL_law_974 rfl 0 rfl ?_
      refine o_iload_n (pc := 975) dL_law_975 rfl 3 rfl ?_
      refine o_iconst (v := 2) (pc := 976) dL_law_976 (by decide) ?_
      refine o_iadd (pc := 977) dL_law_977 ?_
      obtain ⟨hg, h⟩ := oH_G h
      refine o_sald (i := 5) (pc := 978) hr (by decide) hg dL_law_978 ?_
      refine o_aload_n (pc := 979) dL_law_979 rfl 0 rfl ?_
      refine o_iload_n (pc := 980) dL_law_980 rfl 3 rfl ?_
      refine o_iconst (v := 3) (pc := 981) dL_law_981 (by decide) ?_
      refine o_iadd (pc := 982) dL_law_982 ?_
      obtain ⟨hg, h⟩ := oH_G h
      refine o_sald (i := 5) (pc := 983) hr (by decide) hg dL_law_983 ?_
      refine o_aload_n (pc := 984) dL_law_984 rfl 0 rfl ?_
      refine o_iload_n (pc := 985) dL_law_985 rfl 3 rfl ?_
      refine o_iconst (v := 4) (pc := 986) dL_law_986 (by decide) ?_
      refine o_iadd (pc := 987) dL_law_987 ?_
      obtain ⟨hg, h⟩ := oH_G h
      refine o_sald (i := 5) (pc := 988) hr (by decide) hg dL_law_988 ?_
      refine o_if_eq 996 (pc := 989) dL_law_989 (by decide) (fun hc => ?_) (fun hc => ?_)
      · have h := oH_T hc h
        refine o_iconst (v := 0) (pc := 996) dL_law_996 (by decide) ?_
        exact s_L_law_K997 he hR hr  hVH hVE hE hRet h
      · have h := oH_F hc h
        refine o_iconst (v := 1) (pc := 992) dL_law_992 (by decide) ?_
        refine o_goto 997 (pc := 993) dL_law_993 (by decide) ?_
        exact s_L_law_K997 he hR hr  hVH hVE hE hRet h
    have h := oH_F hc24 h
    by_cases hc25 : zx1 = 25
    · have h := oH_T hc25 h
      refine o_tabIn 1037 (pc := 33) (off := 1004) dL_law_33 (by rw [hc25]; decide) (by rw [hc25]; decide) (by rw [hc25]; rfl) (by decide) ?_
      refine o_aload_n (pc := 1037) dL_law_1037 rfl 1 rfl ?_
      refine o_aload_n (pc := 1038) dL_law_1038 rfl 0 rfl ?_
      refine o_iload_n (pc := 1039) dL_law_1039 rfl 3 rfl ?_
      refine o_iconst (v := 1) (pc := 1040) dL_law_1040 (by decide) ?_
      refine o_iadd (pc := 1041) dL_law_1041 ?_
      obtain ⟨hg, h⟩ := oH_G h
      refine o_sald (i := 5) (pc := 1042) hr (by decide) hg dL_law_1042 ?_
      have h := oH_bind h
      refine o_callVi (pc := 1043) (st := []) [oi (oSv r0 5 (Int32.toNatClampNeg (zv3 + (1 : Int32))))] hR md_X8_slots wd_741 wd_742 wd_743 tc_900 j_900 rfl (Nat.le_of_ble_eq_true rfl) rfl dL_law_1043 (s_X8_slots e (by omega)  h) (fun zz77 h => ?_)
      refine o_aload_n (pc := 1046) dL_law_1046 rfl 2 rfl ?_
      refine o_aload_n (pc := 1047) dL_law_1047 rfl 0 rfl ?_
      refine o_iload_n (pc := 1048) dL_law_1048 rfl 3 rfl ?_
      refine o_iconst (v := 1) (pc := 1049) dL_law_1049 (by decide) ?_
      refine o_iadd (pc := 1050) dL_law_1050 ?_
      obtain ⟨hg, h⟩ := oH_G h
      refine o_sald (i := 5) (pc := 1051) hr (by decide) hg dL_law_1051 ?_
      have h := oH_bind h
      refine o_callVi (pc := 1052) (st := [oi zz77.1]) [oi (oSv r0 5 (Int32.toNatClampNeg (zv3 + (1 : Int32))))] hR md_X9_slots wd_1304 wd_1305 wd_1306 tc_1000 j_1000 rfl (Nat.le_of_ble_eq_true rfl) rfl dL_law_1052 (s_X9_slots e (by omega)  h) (fun zz78 h => ?_)
      refine o_icmp_eq 1334 (pc := 1055) dL_law_1055 (by decide) (fun hc => ?_) (fun hc => ?_)
      · have h := oH_T hc h
        obtain ⟨zx79, hx⟩ : ∃ y : Int32, y = zv3 + (8 : Int32) := ⟨_, rfl⟩
        have h := oH_let h zx79 hx
        refine o_iinc (lv1 := [(0, orf 2005 0), (1, orf 900 0), (2, orf 1000 0), (3, oi zx79)]) (pc := 1334) dL_law_1334 3 rfl hx.symm (by decide) rfl ?_
        clear hx
        refine o_goto 18 (pc := 1337) dL_law_1337 (by decide) ?_
        exact hVH _ (oH_some (P := fun z => Sum.elim VH VE z) h)
      · have h := oH_F hc h
        refine o_iconst (v := 0) (pc := 1058) dL_law_1058 (by decide) ?_
        exact hE _ _ _ _ dL_law_1059 (by decide) (hRet _ (oH_some (P := fun z => Sum.elim VH VE z) h))
    have h := oH_F hc25 h
    by_cases hc26 : zx1 = 26
    · have h := oH_T hc26 h
      refine o_tabIn 1060 (pc := 33) (off := 1027) dL_law_33 (by rw [hc26]; decide) (by rw [hc26]; decide) (by rw [hc26]; rfl) (by decide) ?_
      refine o_aload_n (pc := 1060) dL_law_1060 rfl 1 rfl ?_
      refine o_aload_n (pc := 1061) dL_law_1061 rfl 0 rfl ?_
      refine o_iload_n (pc := 1062) dL_law_1062 rfl 3 rfl ?_
      refine o_iconst (v := 1) (pc := 1063) dL_law_1063 (by decide) ?_
      refine o_iadd (pc := 1064) dL_law_1064 ?_
      obtain ⟨hg, h⟩ := oH_G h
      refine o_sald (i := 5) (pc := 1065) hr (by decide) hg dL_law_1065 ?_
      refine o_aload_n (pc := 1066) dL_law_1066 rfl 0 rfl ?_
      refine o_iload_n (pc := 1067) dL_law_1067 rfl 3 rfl ?_
      refine o_iconst (v := 2) (pc := 1068) dL_law_1068 (by decide) ?_
      refine o_iadd (pc := 1069) dL_law_1069 ?_
      obtain ⟨hg, h⟩ := oH_G h
      refine o_sald (i := 5) (pc := 1070) hr (by decide) hg dL_law_1070 ?_
      have h := oH_bind h
      refine o_callVi (pc := 1071) (st := []) [oi (oSv r0 5 (Int32.toNatClampNeg (zv3 + (1 : Int32)))), oi (oSv r0 5 (Int32.toNatClampNeg (zv3 + (2 : Int32))))] hR md_X8_at wd_745 wd_746 wd_747 tc_900 j_900 rfl (Nat.le_of_ble_eq_true rfl) rfl dL_law_1071 (s_X8_at e (by omega)  h) (fun zz80 h => ?_)
      refine o_aload_n (pc := 1074) dL_law_1074 rfl 2 rfl ?_
      refine o_aload_n (pc := 1075) dL_law_1075 rfl 0 rfl ?_
      refine o_iload_n (pc := 1076) dL_law_1076 rfl 3 rfl ?_
      refine o_iconst (v := 1) (pc := 1077) dL_law_1077 (by decide) ?_
      refine o_iadd (pc := 1078) dL_law_1078 ?_
      obtain ⟨hg, h⟩ := oH_G h
      refine o_sald (i := 5) (pc := 1079) hr (by decide) hg dL_law_1079 ?_
      refine o_aload_n (pc := 1080) dL_law_1080 rfl 0 rfl ?_
      refine o_iload_n (pc := 1081) dL_law_1081 rfl 3 rfl ?_
      refine o_iconst (v := 2) (pc := 1082) dL_law_1082 (by decide) ?_
      refine o_iadd (pc := 1083) dL_law_1083 ?_
      obtain ⟨hg, h⟩ := oH_G h
      refine o_sald (i := 5) (pc := 1084) hr (by decide) hg dL_law_1084 ?_
      have h := oH_bind h
      refine o_callVi (pc := 1085) (st := [oi zz80.1]) [oi (oSv r0 5 (Int32.toNatClampNeg (zv3 + (1 : Int32)))), oi (oSv r0 5 (Int32.toNatClampNeg (zv3 + (2 : Int32))))] hR md_X9_at wd_1308 wd_1309 wd_1310 tc_1000 j_1000 rfl (Nat.le_of_ble_eq_true rfl) rfl dL_law_1085 (s_X9_at e (by omega)  h) (fun zz81 h => ?_)
      refine o_icmp_eq 1334 (pc := 1088) dL_law_1088 (by decide) (fun hc => ?_) (fun hc => ?_)
      · have h := oH_T hc h
        obtain ⟨zx82, hx⟩ : ∃ y : Int32, y = zv3 + (8 : Int32) := ⟨_, rfl⟩
        have h := oH_let h zx82 hx
        refine o_iinc (lv1 := [(0, orf 2005 0), (1, orf 900 0), (2, orf 1000 0), (3, oi zx82)]) (pc := 1334) dL_law_1334 3 rfl hx.symm (by decide) rfl ?_
        clear hx
        refine o_goto 18 (pc := 1337) dL_law_1337 (by decide) ?_
        exact hVH _ (oH_some (P := fun z => Sum.elim VH VE z) h)
      · have h := oH_F hc h
        refine o_iconst (v := 0) (pc := 1091) dL_law_1091 (by decide) ?_
        exact hE _ _ _ _ dL_law_1092 (by decide) (hRet _ (oH_some (P := fun z => Sum.elim VH VE z) h))
    have h := oH_F hc26 h
    by_cases hc27 : zx1 = 27
    · have h := oH_T hc27 h
      refine o_tabIn 1093 (pc := 33) (off := 1060) dL_law_33 (by rw [hc27]; decide) (by rw [hc27]; decide) (by rw [hc27]; rfl) (by decide) ?_
      refine o_aload_n (pc := 1093) dL_law_1093 rfl 1 rfl ?_
      refine o_aload_n (pc := 1094) dL_law_1094 rfl 0 rfl ?_
      refine o_iload_n (pc := 1095) dL_law_1095 rfl 3 rfl ?_
      refine o_iconst (v := 1) (pc := 1096) dL_law_1096 (by decide) ?_
      refine o_iadd (pc := 1097) dL_law_1097 ?_
      obtain ⟨hg, h⟩ := oH_G h
      refine o_sald (i := 5) (pc := 1098) hr (by decide) hg dL_law_1098 ?_
      refine o_aload_n (pc := 1099) dL_law_1099 rfl 0 rfl ?_
      refine o_iload_n (pc := 1100) dL_law_1100 rfl 3 rfl ?_
      refine o_iconst (v := 2) (pc := 1101) dL_law_1101 (by decide) ?_
      refine o_iadd (pc := 1102) dL_law_1102 ?_
      obtain ⟨hg, h⟩ := oH_G h
      refine o_sald (i := 5) (pc := 1103) hr (by decide) hg dL_law_1103 ?_
      refine o_aload_n (pc := 1104) dL_law_1104 rfl 0 rfl ?_
      refine o_iload_n (pc := 1105) dL_law_1105 rfl 3 rfl ?_
      refine o_iconst (v := 3) (pc := 1106) dL_law_1106 (by decide) ?_
      refine o_iadd (pc := 1107) dL_law_1107 ?_
      obtain ⟨hg, h⟩ := oH_G h
      refine o_sald (i := 5) (pc := 1108) hr (by decide) hg dL_law_1108 ?_
      refine o_aload_n (pc := 1109) dL_law_1109 rfl 0 rfl ?_
      refine o_iload_n (pc := 1110) dL_law_1110 rfl 3 rfl ?_
      refine o_iconst (v := 4) (pc := 1111) dL_law_1111 (by decide) ?_
      refine o_iadd (pc := 1112) dL_law_1112 ?_
      obtain ⟨hg, h⟩ := oH_G h
      refine o_sald (i := 5) (pc := 1113) hr (by decide) hg dL_law_1113 ?_
      have h := oH_bind h
      refine o_callVi (pc := 1114) (st := []) [oi (oSv r0 5 (Int32.toNatClampNeg (zv3 + (1 : Int32)))), oi (oSv r0 5 (Int32.toNatClampNeg (zv3 + (2 : Int32)))), oi (oSv r0 5 (Int32.toNatClampNeg (zv3 + (3 : Int32)))), oi (oSv r0 5 (Int32.toNatClampNeg (zv3 + (4 : Int32))))] hR md_X8_waits wd_777 wd_778 wd_779 tc_900 j_900 rfl (Nat.le_of_ble_eq_true rfl) rfl dL_law_1114 (s_X8_waits e (by omega)  h) (fun zz83 h => ?_)
      refine o_aload_n (pc := 1117) dL_law_1117 rfl 2 rfl ?_
      refine o_aload_n (pc := 1118) dL_law_1118 rfl 0 rfl ?_
      refine o_iload_n (pc := 1119) dL_law_1119 rfl 3 rfl ?_
      refine o_iconst (v := 1) (pc := 1120) dL_law_1120 (by decide) ?_
      refine o_iadd (pc := 1121) dL_law_1121 ?_
      obtain ⟨hg, h⟩ := oH_G h
      refine o_sald (i := 5) (pc := 1122) hr (by decide) hg dL_law_1122 ?_
      refine o_aload_n (pc := 1123) dL_law_1123 rfl 0 rfl ?_
      refine o_iload_n (pc := 1124) dL_law_1124 rfl 3 rfl ?_
      refine o_iconst (v := 2) (pc := 1125) dL_law_1125 (by decide) ?_
      refine o_iadd (pc := 1126) dL_law_1126 ?_
      obtain ⟨hg, h⟩ := oH_G h
      refine o_sald (i := 5) (pc := 1127) hr (by decide) hg dL_law_1127 ?_
      refine o_aload_n (pc := 1128) dL_law_1128 rfl 0 rfl ?_
      refine o_iload_n (pc := 1129) dL_law_1129 rfl 3 rfl ?_
      refine o_iconst (v := 3) (pc := 1130) dL_law_1130 (by decide) ?_
      refine o_iadd (pc := 1131) dL_law_1131 ?_
      obtain ⟨hg, h⟩ := oH_G h
      refine o_sald (i := 5) (pc := 1132) hr (by decide) hg dL_law_1132 ?_
      refine o_aload_n (pc := 1133) dL_law_1133 rfl 0 rfl ?_
      refine o_iload_n (pc := 1134) dL_law_1134 rfl 3 rfl ?_
      refine o_iconst (v := 4) (pc := 1135) dL_law_1135 (by decide) ?_
      refine o_iadd (pc := 1136) dL_law_1136 ?_
      obtain ⟨hg, h⟩ := oH_G h
      refine o_sald (i := 5) (pc := 1137) hr (by decide) hg dL_law_1137 ?_
      have h := oH_bind h
      refine o_callVi (pc := 1138) (st := [oi zz83.1]) [oi (oSv r0 5 (Int32.toNatClampNeg (zv3 + (1 : Int32)))), oi (oSv r0 5 (Int32.toNatClampNeg (zv3 + (2 : Int32)))), oi (oSv r0 5 (Int32.toNatClampNeg (zv3 + (3 : Int32)))), oi (oSv r0 5 (Int32.toNatClampNeg (zv3 + (4 : Int32))))] hR md_X9_waits wd_1332 wd_1333 wd_1334 tc_1000 j_1000 rfl (Nat.le_of_ble_eq_true rfl) rfl dL_law_1138 (s_X9_waits e (by omega)  h) (fun zz84 h => ?_)
      refine o_icmp_eq 1334 (pc := 1141) dL_law_1141 (by decide) (fun hc => ?_) (fun hc => ?_)
      · have h := oH_T hc h
        obtain ⟨zx85, hx⟩ : ∃ y : Int32, y = zv3 + (8 : Int32) := ⟨_, rfl⟩
        have h := oH_let h zx85 hx
        refine o_iinc (lv1 := [(0, orf 2005 0), (1, orf 900 0), (2, orf 1000 0), (3, oi zx85)]) (pc := 1334) dL_law_1334 3 rfl hx.symm (by decide) rfl ?_
        clear hx
        refine o_goto 18 (pc := 1337) dL_law_1337 (by decide) ?_
        exact hVH _ (oH_some (P := fun z => Sum.elim VH VE z) h)
      · have h := oH_F hc h
        refine o_iconst (v := 0) (pc := 1144) dL_law_1144 (by decide) ?_
        exact hE _ _ _ _ dL_law_1145 (by decide) (hRet _ (oH_some (P := fun z => Sum.elim VH VE z) h))
    have h := oH_F hc27 h
    by_cases hc28 : zx1 = 28
    · have h := oH_T hc28 h
      refine o_tabIn 1146 (pc := 33) (off := 1113) dL_law_33 (by rw [hc28]; decide) (by rw [hc28]; decide) (by rw [hc28]; rfl) (by decide) ?_
      refine o_aload_n (pc := 1146) dL_law_1146 rfl 1 rfl ?_
      refine o_aload_n (pc := 1147) dL_law_1147 rfl 0 rfl ?_
      refine o_iload_n (pc := 1148) dL_law_1148 rfl 3 rfl ?_
      refine o_iconst (v := 1) (pc := 1149) dL_law_1149 (by decide) ?_
      refine o_iadd (pc := 1150) dL_law_1150 ?_
      obtain ⟨hg, h⟩ := oH_G h
      refine o_sald (i := 5) (pc := 1151) hr (by decide) hg dL_law_1151 ?_
      refine o_aload_n (pc := 1152) dL_law_1152 rfl 0 rfl ?_
      refine o_iload_n (pc := 1153) dL_law_1153 rfl 3 rfl ?_
      refine o_iconst (v := 2) (pc := 1154) dL_law_1154 (by decide) ?_
      refine o_iadd (pc := 1155) dL_law_1155 ?_
      obtain ⟨hg, h⟩ := oH_G h
      refine o_sald (i := 5) (pc := 1156) hr (by decide) hg dL_law_1156 ?_
      refine o_aload_n (pc := 1157) dL_law_1157 rfl 0 rfl ?_
      refine o_iload_n (pc := 1158) dL_law_1158 rfl 3 rfl ?_
      refine o_iconst (v := 3) (pc := 1159) dL_law_1159 (by decide) ?_
      refine o_iadd (pc := 1160) dL_law_1160 ?_
      obtain ⟨hg, h⟩ := oH_G h
      refine o_sald (i := 5) (pc := 1161) hr (by decide) hg dL_law_1161 ?_
      have h := oH_bind h
      refine o_callVi (pc := 1162) (st := []) [oi (oSv r0 5 (Int32.toNatClampNeg (zv3 + (1 : Int32)))), oi (oSv r0 5 (Int32.toNatClampNeg (zv3 + (2 : Int32)))), oi (oSv r0 5 (Int32.toNatClampNeg (zv3 + (3 : Int32))))] hR md_X8_note wd_790 wd_791 wd_792 tc_900 j_900 rfl (Nat.le_of_ble_eq_true rfl) rfl dL_law_1162 (s_X8_note e (by omega)  h) (fun zz86 h => ?_)
      refine o_aload_n (pc := 1165) dL_law_1165 rfl 2 rfl ?_
      refine o_aload_n (pc := 1166) dL_law_1166 rfl 0 rfl ?_
      refine o_iload_n (pc := 1167) dL_law_1167 rfl 3 rfl ?_
      refine o_iconst (v := 1) (pc := 1168) dL_law_1168 (by decide) ?_
      refine o_iadd (pc := 1169) dL_law_1169 ?_
      obtain ⟨hg, h⟩ := oH_G h
      refine o_sald (i := 5) (pc := 1170) hr (by decide) hg dL_law_1170 ?_
      refine o_aload_n (pc := 1171) dL_law_1171 rfl 0 rfl ?_
      refine o_iload_n (pc := 1172) dL_law_1172 rfl 3 rfl ?_
      refine o_iconst (v := 2) (pc := 1173) dL_law_1173 (by decide) ?_
      refine o_iadd (pc := 1174) dL_law_1174 ?_
      obtain ⟨hg, h⟩ := oH_G h
      refine o_sald (i := 5) (pc := 1175) hr (by decide) hg dL_law_1175 ?_
      refine o_aload_n (pc := 1176) dL_law_1176 rfl 0 rfl ?_
      refine o_iload_n (pc := 1177) dL_law_1177 rfl 3 rfl ?_
      refine o_iconst (v := 3) (pc := 1178) dL_law_1178 (by decide) ?_
      refine o_iadd (pc := 1179) dL_law_1179 ?_
      obtain ⟨hg, h⟩ := oH_G h
      refine o_sald (i := 5) (pc := 1180) hr (by decide) hg dL_law_1180 ?_
      have h := oH_bind h
      refine o_callVi (pc := 1181) (st := [oi zz86.1]) [oi (oSv r0 5 (Int32.toNatClampNeg (zv3 + (1 : Int32)))), oi (oSv r0 5 (Int32.toNatClampNeg (zv3 + (2 : Int32)))), oi (oSv r0 5 (Int32.toNatClampNeg (zv3 + (3 : Int32))))] hR md_X9_note wd_1336 wd_1337 wd_1338 tc_1000 j_1000 rfl (Nat.le_of_ble_eq_true rfl) rfl dL_law_1181 (s_X9_note e (by omega)  h) (fun zz87 h => ?_)
      refine o_icmp_eq 1334 (pc := 1184) dL_law_1184 (by decide) (fun hc => ?_) (fun hc => ?_)
      · have h := oH_T hc h
        obtain ⟨zx88, hx⟩ : ∃ y : Int32, y = zv3 + (8 : Int32) := ⟨_, rfl⟩
        have h := oH_let h zx88 hx
        refine o_iinc (lv1 := [(0, orf 2005 0), (1, orf 900 0), (2, orf 1000 0), (3, oi zx88)]) (pc := 1334) dL_law_1334 3 rfl hx.symm (by decide) rfl ?_
        clear hx
        refine o_goto 18 (pc := 1337) dL_law_1337 (by decide) ?_
        exact hVH _ (oH_some (P := fun z => Sum.elim VH VE z) h)
      · have h := oH_F hc h
        refine o_iconst (v := 0) (pc := 1187) dL_law_1187 (by decide) ?_
        exact hE _ _ _ _ dL_law_1188 (by decide) (hRet _ (oH_some (P := fun z => Sum.elim VH VE z) h))
    have h := oH_F hc28 h
    by_cases hc29 : zx1 = 29
    · have h := oH_T hc29 h
      refine o_tabIn 1189 (pc := 33) (off := 1156) dL_law_33 (by rw [hc29]; decide) (by rw [hc29]; decide) (by rw [hc29]; rfl) (by decide) ?_
      refine o_aload_n (pc := 1189) dL_law_1189 rfl 1 rfl ?_
      refine o_aload_n (pc := 1190) dL_law_1190 rfl 0 rfl ?_
      refine o_iload_n (pc := 1191) dL_law_1191 rfl 3 rfl ?_
      refine o_iconst (v := 1) (pc := 1192) dL_law_1192 (by decide) ?_
      refine o_iadd (pc := 1193) dL_law_1193 ?_
      obtain ⟨hg, h⟩ := oH_G h
      refine o_sald (i := 5) (pc := 1194) hr (by decide) hg dL_law_1194 ?_
      have h := oH_bind h
      refine o_callVi (pc := 1195) (st := []) [oi (oSv r0 5 (Int32.toNatClampNeg (zv3 + (1 : Int32))))] hR md_X8_lose wd_794 wd_795 wd_796 tc_900 j_900 rfl (Nat.le_of_ble_eq_true rfl) rfl dL_law_1195 (s_X8_lose e (by omega)  h) (fun zz89 h => ?_)
      refine o_aload_n (pc := 1198) dL_law_1198 rfl 2 rfl ?_
      refine o_aload_n (pc := 1199) dL_law_1199 rfl 0 rfl ?_
      refine o_iload_n (pc := 1200) dL_law_1200 rfl 3 rfl ?_
      refine o_iconst (v := 1) (pc := 1201) dL_law_1201 (by decide) ?_
      refine o_iadd (pc := 1202) dL_law_1202 ?_
      obtain ⟨hg, h⟩ := oH_G h
      refine o_sald (i := 5) (pc := 1203) hr (by decide) hg dL_law_1203 ?_
      have h := oH_bind h
      refine o_callVi (pc := 1204) (st := [oi zz89.1]) [oi (oSv r0 5 (Int32.toNatClampNeg (zv3 + (1 : Int32))))] hR md_X9_lose wd_1340 wd_1341 wd_1342 tc_1000 j_1000 rfl (Nat.le_of_ble_eq_true rfl) rfl dL_law_1204 (s_X9_lose e (by omega)  h) (fun zz90 h => ?_)
      refine o_icmp_eq 1334 (pc := 1207) dL_law_1207 (by decide) (fun hc => ?_) (fun hc => ?_)
      · have h := oH_T hc h
        obtain ⟨zx91, hx⟩ : ∃ y : Int32, y = zv3 + (8 : Int32) := ⟨_, rfl⟩
        have h := oH_let h zx91 hx
        refine o_iinc (lv1 := [(0, orf 2005 0), (1, orf 900 0), (2, orf 1000 0), (3, oi zx91)]) (pc := 1334) dL_law_1334 3 rfl hx.symm (by decide) rfl ?_
        clear hx
        refine o_goto 18 (pc := 1337) dL_law_1337 (by decide) ?_
        exact hVH _ (oH_some (P := fun z => Sum.elim VH VE z) h)
      · have h := oH_F hc h
        refine o_iconst (v := 0) (pc := 1210) dL_law_1210 (by decide) ?_
        exact hE _ _ _ _ dL_law_1211 (by decide) (hRet _ (oH_some (P := fun z => Sum.elim VH VE z) h))
    have h := oH_F hc29 h
    by_cases hc30 : zx1 = 30
    · have h := oH_T hc30 h
      refine o_tabIn 1212 (pc := 33) (off := 1179) dL_law_33 (by rw [hc30]; decide) (by rw [hc30]; decide) (by rw [hc30]; rfl) (by decide) ?_
      refine o_aload_n (pc := 1212) dL_law_1212 rfl 1 rfl ?_
      refine o_aload_n (pc := 1213) dL_law_1213 rfl 0 rfl ?_
      refine o_iload_n (pc := 1214) dL_law_1214 rfl 3 rfl ?_
      refine o_iconst (v := 1) (pc := 1215) dL_law_1215 (by decide) ?_
      refine o_iadd (pc := 1216) dL_law_1216 ?_
      obtain ⟨hg, h⟩ := oH_G h
      refine o_sald (i := 5) (pc := 1217) hr (by decide) hg dL_law_1217 ?_
      refine o_aload_n (pc := 1218) dL_law_1218 rfl 0 rfl ?_
      refine o_iload_n (pc := 1219) dL_law_1219 rfl 3 rfl ?_
      refine o_iconst (v := 2) (pc := 1220) dL_law_1220 (by decide) ?_
      refine o_iadd (pc := 1221) dL_law_1221 ?_
      obtain ⟨hg, h⟩ := oH_G h
      refine o_sald (i := 5) (pc := 1222) hr (by decide) hg dL_law_1222 ?_
      have h := oH_bind h
      refine o_callVi (pc := 1223) (st := []) [oi (oSv r0 5 (Int32.toNatClampNeg (zv3 + (1 : Int32)))), oi (oSv r0 5 (Int32.toNatClampNeg (zv3 + (2 : Int32))))] hR md_X8_bricks wd_802 wd_803 wd_804 tc_900 j_900 rfl (Nat.le_of_ble_eq_true rfl) rfl dL_law_1223 (s_X8_bricks e (by omega)  h) (fun zz92 h => ?_)
      refine o_aload_n (pc := 1226) dL_law_1226 rfl 2 rfl ?_
      refine o_aload_n (pc := 1227) dL_law_1227 rfl 0 rfl ?_
      refine o_iload_n (pc := 1228) dL_law_1228 rfl 3 rfl ?_
      refine o_iconst (v := 1) (pc := 1229) dL_law_1229 (by decide) ?_
      refine o_iadd (pc := 1230) dL_law_1230 ?_
      obtain ⟨hg, h⟩ := oH_G h
      refine o_sald (i := 5) (pc := 1231) hr (by decide) hg dL_law_1231 ?_
      refine o_aload_n (pc := 1232) dL_law_1232 rfl 0 rfl ?_
      refine o_iload_n (pc := 1233) dL_law_1233 rfl 3 rfl ?_
      refine o_iconst (v := 2) (pc := 1234) dL_law_1234 (by decide) ?_
      refine o_iadd (pc := 1235) dL_law_1235 ?_
      obtain ⟨hg, h⟩ := oH_G h
      refine o_sald (i := 5) (pc := 1236) hr (by decide) hg dL_law_1236 ?_
      have h := oH_bind h
      refine o_callVi (pc := 1237) (st := [oi zz92.1]) [oi (oSv r0 5 (Int32.toNatClampNeg (zv3 + (1 : Int32)))), oi (oSv r0 5 (Int32.toNatClampNeg (zv3 + (2 : Int32))))] hR md_X9_bricks wd_1348 wd_1349 wd_1350 tc_1000 j_1000 rfl (Nat.le_of_ble_eq_true rfl) rfl dL_law_1237 (s_X9_bricks e (by omega)  h) (fun zz93 h => ?_)
      refine o_icmp_eq 1334 (pc := 1240) dL_law_1240 (by decide) (fun hc => ?_) (fun hc => ?_)
      · have h := oH_T hc h
        obtain ⟨zx94, hx⟩ : ∃ y : Int32, y = zv3 + (8 : Int32) := ⟨_, rfl⟩
        have h := oH_let h zx94 hx
        refine o_iinc (lv1 := [(0, orf 2005 0), (1, orf 900 0), (2, orf 1000 0), (3, oi zx94)]) (pc := 1334) dL_law_1334 3 rfl hx.symm (by decide) rfl ?_
        clear hx
        refine o_goto 18 (pc := 1337) dL_law_1337 (by decide) ?_
        exact hVH _ (oH_some (P := fun z => Sum.elim VH VE z) h)
      · have h := oH_F hc h
        refine o_iconst (v := 0) (pc := 1243) dL_law_1243 (by decide) ?_
        exact hE _ _ _ _ dL_law_1244 (by decide) (hRet _ (oH_some (P := fun z => Sum.elim VH VE z) h))
    have h := oH_F hc30 h
    by_cases hc31 : zx1 = 31
    · have h := oH_T hc31 h
      refine o_tabIn 1245 (pc := 33) (off := 1212) dL_law_33 (by rw [hc31]; decide) (by rw [hc31]; decide) (by rw [hc31]; rfl) (by decide) ?_
      refine o_aload_n (pc := 1245) dL_law_1245 rfl 1 rfl ?_
      refine o_aload_n (pc := 1246) dL_law_1246 rfl 0 rfl ?_
      refine o_iload_n (pc := 1247) dL_law_1247 rfl 3 rfl ?_
      refine o_iconst (v := 1) (pc := 1248) dL_law_1248 (by decide) ?_
      refine o_iadd (pc := 1249) dL_law_1249 ?_
      obtain ⟨hg, h⟩ := oH_G h
      refine o_sald (i := 5) (pc := 1250) hr (by decide) hg dL_law_1250 ?_
      have h := oH_bind h
      refine o_callVi (pc := 1251) (st := []) [oi (oSv r0 5 (Int32.toNatClampNeg (zv3 + (1 : Int32))))] hR md_X8_best wd_810 wd_811 wd_812 tc_900 j_900 rfl (Nat.le_of_ble_eq_true rfl) rfl dL_law_1251 (s_X8_best e (by omega)  h) (fun zz95 h => ?_)
      refine o_aload_n (pc := 1254) dL_law_1254 rfl 2 rfl ?_
      refine o_aload_n (pc := 1255) dL_law_1255 rfl 0 rfl ?_
      refine o_iload_n (pc := 1256) dL_law_1256 rfl 3 rfl ?_
      refine o_iconst (v := 1) (pc := 1257) dL_law_1257 (by decide) ?_
      refine o_iadd (pc := 1258) dL_law_1258 ?_
      obtain ⟨hg, h⟩ := oH_G h
      refine o_sald (i := 5) (pc := 1259) hr (by decide) hg dL_law_1259 ?_
      have h := oH_bind h
      refine o_callVi (pc := 1260) (st := [oi zz95.1]) [oi (oSv r0 5 (Int32.toNatClampNeg (zv3 + (1 : Int32))))] hR md_X9_best wd_1352 wd_1353 wd_1354 tc_1000 j_1000 rfl (Nat.le_of_ble_eq_true rfl) rfl dL_law_1260 (s_X9_best e (by omega)  h) (fun zz96 h => ?_)
      refine o_icmp_eq 1334 (pc := 1263) dL_law_1263 (by decide) (fun hc => ?_) (fun hc => ?_)
      · have h := oH_T hc h
        obtain ⟨zx97, hx⟩ : ∃ y : Int32, y = zv3 + (8 : Int32) := ⟨_, rfl⟩
        have h := oH_let h zx97 hx
        refine o_iinc (lv1 := [(0, orf 2005 0), (1, orf 900 0), (2, orf 1000 0), (3, oi zx97)]) (pc := 1334) dL_law_1334 3 rfl hx.symm (by decide) rfl ?_
        clear hx
        refine o_goto 18 (pc := 1337) dL_law_1337 (by decide) ?_
        exact hVH _ (oH_some (P := fun z => Sum.elim VH VE z) h)
      · have h := oH_F hc h
        refine o_iconst (v := 0) (pc := 1266) dL_law_1266 (by decide) ?_
        exact hE _ _ _ _ dL_law_1267 (by decide) (hRet _ (oH_some (P := fun z => Sum.elim VH VE z) h))
    have h := oH_F hc31 h
    by_cases hc32 : zx1 = 32
    · have h := oH_T hc32 h
      refine o_tabIn 1268 (pc := 33) (off := 1235) dL_law_33 (by rw [hc32]; decide) (by rw [hc32]; decide) (by rw [hc32]; rfl) (by decide) ?_
      refine o_aload_n (pc := 1268) dL_law_1268 rfl 1 rfl ?_
      refine o_aload_n (pc := 1269) dL_law_1269 rfl 0 rfl ?_
      refine o_iload_n (pc := 1270) dL_law_1270 rfl 3 rfl ?_
      refine o_iconst (v := 1) (pc := 1271) dL_law_1271 (by decide) ?_
      refine o_iadd (pc := 1272) dL_law_1272 ?_
      obtain ⟨hg, h⟩ := oH_G h
      refine o_sald (i := 5) (pc := 1273) hr (by decide) hg dL_law_1273 ?_
      refine o_aload_n (pc := 1274) dL_law_1274 rfl 0 rfl ?_
      refine o_iload_n (pc := 1275) dL_law_1275 rfl 3 rfl ?_
      refine o_iconst (v := 2) (pc := 1276) dL_law_1276 (by decide) ?_
      refine o_iadd (pc := 1277) dL_law_1277 ?_
      obtain ⟨hg, h⟩ := oH_G h
      refine o_sald (i := 5) (pc := 1278) hr (by decide) hg dL_law_1278 ?_
      refine o_aload_n (pc := 1279) dL_law_1279 rfl 0 rfl ?_
      refine o_iload_n (pc := 1280) dL_law_1280 rfl 3 rfl ?_
      refine o_iconst (v := 3) (pc := 1281) dL_law_1281 (by decide) ?_
      refine o_iadd (pc := 1282) dL_law_1282 ?_
      obtain ⟨hg, h⟩ := oH_G h
      refine o_sald (i := 5) (pc := 1283) hr (by decide) hg dL_law_1283 ?_
      have h := oH_bind h
      refine o_callVi (pc := 1284) (st := []) [oi (oSv r0 5 (Int32.toNatClampNeg (zv3 + (1 : Int32)))), oi (oSv r0 5 (Int32.toNatClampNeg (zv3 + (2 : Int32)))), oi (oSv r0 5 (Int32.toNatClampNeg (zv3 + (3 : Int32))))] hR md_X8_explains wd_837 wd_838 wd_839 tc_900 j_900 rfl (Nat.le_of_ble_eq_true rfl) rfl dL_law_1284 (s_X8_explains e (by omega)  h) (fun zz98 h => ?_)
      refine o_aload_n (pc := 1287) dL_law_1287 rfl 2 rfl ?_
      refine o_aload_n (pc := 1288) dL_law_1288 rfl 0 rfl ?_
      refine o_iload_n (pc := 1289) dL_law_1289 rfl 3 rfl ?_
      refine o_iconst (v := 1) (pc := 1290) dL_law_1290 (by decide) ?_
      refine o_iadd (pc := 1291) dL_law_1291 ?_
      obtain ⟨hg, h⟩ := oH_G h
      refine o_sald (i := 5) (pc := 1292) hr (by decide) hg dL_law_1292 ?_
      refine o_aload_n (pc := 1293) dL_law_1293 rfl 0 rfl ?_
      refine o_iload_n (pc := 1294) dL_law_1294 rfl 3 rfl ?_
      refine o_iconst (v := 2) (pc := 1295) dL_law_1295 (by decide) ?_
      refine o_iadd (pc := 1296) dL_law_1296 ?_
      obtain ⟨hg, h⟩ := oH_G h
      refine o_sald (i := 5) (pc := 1297) hr (by decide) hg dL_law_1297 ?_
      refine o_aload_n (pc := 1298) dL_law_1298 rfl 0 rfl ?_
      refine o_iload_n (pc := 1299) dL_law_1299 rfl 3 rfl ?_
      refine o_iconst (v := 3) (pc := 1300) dL_law_1300 (by decide) ?_
      refine o_iadd (pc := 1301) dL_law_1301 ?_
      obtain ⟨hg, h⟩ := oH_G h
      refine o_sald (i := 5) (pc := 1302) hr (by decide) hg dL_law_1302 ?_
      have h := oH_bind h
      refine o_callVi (pc := 1303) (st := [oi zz98.1]) [oi (oSv r0 5 (Int32.toNatClampNeg (zv3 + (1 : Int32)))), oi (oSv r0 5 (Int32.toNatClampNeg (zv3 + (2 : Int32)))), oi (oSv r0 5 (Int32.toNatClampNeg (zv3 + (3 : Int32))))] hR md_X9_explains wd_1364 wd_1365 wd_1366 tc_1000 j_1000 rfl (Nat.le_of_ble_eq_true rfl) rfl dL_law_1303 (s_X9_explains e (by omega)  h) (fun zz99 h => ?_)
      refine o_icmp_eq 1334 (pc := 1306) dL_law_1306 (by decide) (fun hc => ?_) (fun hc => ?_)
      · have h := oH_T hc h
        obtain ⟨zx100, hx⟩ : ∃ y : Int32, y = zv3 + (8 : Int32) := ⟨_, rfl⟩
        have h := oH_let h zx100 hx
        refine o_iinc (lv1 := [(0, orf 2005 0), (1, orf 900 0), (2, orf 1000 0), (3, oi zx100)]) (pc := 1334) dL_law_1334 3 rfl hx.symm (by decide) rfl ?_
        clear hx
        refine o_goto 18 (pc := 1337) dL_law_1337 (by decide) ?_
        exact hVH _ (oH_some (P := fun z => Sum.elim VH VE z) h)
      · have h := oH_F hc h
        refine o_iconst (v := 0) (pc := 1309) dL_law_1309 (by decide) ?_
        exact hE _ _ _ _ dL_law_1310 (by decide) (hRet _ (oH_some (P := fun z => Sum.elim VH VE z) h))
    have h := oH_F hc32 h
    by_cases hc33 : zx1 = 33
    · have h := oH_T hc33 h
      refine o_tabIn 1311 (pc := 33) (off := 1278) dL_law_33 (by rw [hc33]; decide) (by rw [hc33]; decide) (by rw [hc33]; rfl) (by decide) ?_
      refine o_aload_n (pc := 1311) dL_law_1311 rfl 1 rfl ?_
      refine o_aload_n (pc := 1312) dL_law_1312 rfl 0 rfl ?_
      refine o_iload_n (pc := 1313) dL_law_1313 rfl 3 rfl ?_
      refine o_iconst (v := 1) (pc := 1314) dL_law_1314 (by decide) ?_
      refine o_iadd (pc := 1315) dL_law_1315 ?_
      obtain ⟨hg, h⟩ := oH_G h
      refine o_sald (i := 5) (pc := 1316) hr (by decide) hg dL_law_1316 ?_
      have h := oH_bind h
      refine o_callVi (pc := 1317) (st := []) [oi (oSv r0 5 (Int32.toNatClampNeg (zv3 + (1 : Int32))))] hR md_X8_count wd_843 wd_844 wd_845 tc_900 j_900 rfl (Nat.le_of_ble_eq_true rfl) rfl dL_law_1317 (s_X8_count e (by omega)  h) (fun zz101 h => ?_)
      refine o_aload_n (pc := 1320) dL_law_1320 rfl 2 rfl ?_
      refine o_aload_n (pc := 1321) dL_law_1321 rfl 0 rfl ?_
      refine o_iload_n (pc := 1322) dL_law_1322 rfl 3 rfl ?_
      refine o_iconst (v := 1) (pc := 1323) dL_law_1323 (by decide) ?_
      refine o_iadd (pc := 1324) dL_law_1324 ?_
      obtain ⟨hg, h⟩ := oH_G h
      refine o_sald (i := 5) (pc := 1325) hr (by decide) hg dL_law_1325 ?_
      have h := oH_bind h
      refine o_callVi (pc := 1326) (st := [oi zz101.1]) [oi (oSv r0 5 (Int32.toNatClampNeg (zv3 + (1 : Int32))))] hR md_X9_count wd_1368 wd_1369 wd_1370 tc_1000 j_1000 rfl (Nat.le_of_ble_eq_true rfl) rfl dL_law_1326 (s_X9_count e (by omega)  h) (fun zz102 h => ?_)
      refine o_icmp_eq 1334 (pc := 1329) dL_law_1329 (by decide) (fun hc => ?_) (fun hc => ?_)
      · have h := oH_T hc h
        obtain ⟨zx103, hx⟩ : ∃ y : Int32, y = zv3 + (8 : Int32) := ⟨_, rfl⟩
        have h := oH_let h zx103 hx
        refine o_iinc (lv1 := [(0, orf 2005 0), (1, orf 900 0), (2, orf 1000 0), (3, oi zx103)]) (pc := 1334) dL_law_1334 3 rfl hx.symm (by decide) rfl ?_
        clear hx
        refine o_goto 18 (pc := 1337) dL_law_1337 (by decide) ?_
        exact hVH _ (oH_some (P := fun z => Sum.elim VH VE z) h)
      · have h := oH_F hc h
        refine o_iconst (v := 0) (pc := 1332) dL_law_1332 (by decide) ?_
        exact hE _ _ _ _ dL_law_1333 (by decide) (hRet _ (oH_some (P := fun z => Sum.elim VH VE z) h))
    have h := oH_F hc33 h
    refine o_tabOut 1334 (pc := 33) dL_law_33 (by
        have g0 : ¬ Int32.toInt zx1 = 0 := fun z => hc0 (Int32.toInt_inj.mp z)
        have g1 : ¬ Int32.toInt zx1 = 1 := fun z => hc1 (Int32.toInt_inj.mp z)
        have g2 : ¬ Int32.toInt zx1 = 2 := fun z => hc2 (Int32.toInt_inj.mp z)
        have g3 : ¬ Int32.toInt zx1 = 3 := fun z => hc3 (Int32.toInt_inj.mp z)
        have g4 : ¬ Int32.toInt zx1 = 4 := fun z => hc4 (Int32.toInt_inj.mp z)
        have g5 : ¬ Int32.toInt zx1 = 5 := fun z => hc5 (Int32.toInt_inj.mp z)
        have g6 : ¬ Int32.toInt zx1 = 6 := fun z => hc6 (Int32.toInt_inj.mp z)
        have g7 : ¬ Int32.toInt zx1 = 7 := fun z => hc7 (Int32.toInt_inj.mp z)
        have g8 : ¬ Int32.toInt zx1 = 8 := fun z => hc8 (Int32.toInt_inj.mp z)
        have g9 : ¬ Int32.toInt zx1 = 9 := fun z => hc9 (Int32.toInt_inj.mp z)
        have g10 : ¬ Int32.toInt zx1 = 10 := fun z => hc10 (Int32.toInt_inj.mp z)
        have g11 : ¬ Int32.toInt zx1 = 11 := fun z => hc11 (Int32.toInt_inj.mp z)
        have g12 : ¬ Int32.toInt zx1 = 12 := fun z => hc12 (Int32.toInt_inj.mp z)
        have g13 : ¬ Int32.toInt zx1 = 13 := fun z => hc13 (Int32.toInt_inj.mp z)
        have g14 : ¬ Int32.toInt zx1 = 14 := fun z => hc14 (Int32.toInt_inj.mp z)
        have g15 : ¬ Int32.toInt zx1 = 15 := fun z => hc15 (Int32.toInt_inj.mp z)
        have g16 : ¬ Int32.toInt zx1 = 16 := fun z => hc16 (Int32.toInt_inj.mp z)
        have g17 : ¬ Int32.toInt zx1 = 17 := fun z => hc17 (Int32.toInt_inj.mp z)
        have g18 : ¬ Int32.toInt zx1 = 18 := fun z => hc18 (Int32.toInt_inj.mp z)
        have g19 : ¬ Int32.toInt zx1 = 19 := fun z => hc19 (Int32.toInt_inj.mp z)
        have g20 : ¬ Int32.toInt zx1 = 20 := fun z => hc20 (Int32.toInt_inj.mp z)
        have g21 : ¬ Int32.toInt zx1 = 21 := fun z => hc21 (Int32.toInt_inj.mp z)
        have g22 : ¬ Int32.toInt zx1 = 22 := fun z => hc22 (Int32.toInt_inj.mp z)
        have g23 : ¬ Int32.toInt zx1 = 23 := fun z => hc23 (Int32.toInt_inj.mp z)
        have g24 : ¬ Int32.toInt zx1 = 24 := fun z => hc24 (Int32.toInt_inj.mp z)
        have g25 : ¬ Int32.toInt zx1 = 25 := fun z => hc25 (Int32.toInt_inj.mp z)
        have g26 : ¬ Int32.toInt zx1 = 26 := fun z => hc26 (Int32.toInt_inj.mp z)
        have g27 : ¬ Int32.toInt zx1 = 27 := fun z => hc27 (Int32.toInt_inj.mp z)
        have g28 : ¬ Int32.toInt zx1 = 28 := fun z => hc28 (Int32.toInt_inj.mp z)
        have g29 : ¬ Int32.toInt zx1 = 29 := fun z => hc29 (Int32.toInt_inj.mp z)
        have g30 : ¬ Int32.toInt zx1 = 30 := fun z => hc30 (Int32.toInt_inj.mp z)
        have g31 : ¬ Int32.toInt zx1 = 31 := fun z => hc31 (Int32.toInt_inj.mp z)
        have g32 : ¬ Int32.toInt zx1 = 32 := fun z => hc32 (Int32.toInt_inj.mp z)
        have g33 : ¬ Int32.toInt zx1 = 33 := fun z => hc33 (Int32.toInt_inj.mp z)
        omega) (by decide) ?_
    obtain ⟨zx104, hx⟩ : ∃ y : Int32, y = zv3 + (8 : Int32) := ⟨_, rfl⟩
    have h := oH_let h zx104 hx
    refine o_iinc (lv1 := [(0, orf 2005 0), (1, orf 900 0), (2, orf 1000 0), (3, oi zx104)]) (pc := 1334) dL_law_1334 3 rfl hx.symm (by decide) rfl ?_
    clear hx
    refine o_goto 18 (pc := 1337) dL_law_1337 (by decide) ?_
    exact hVH _ (oH_some (P := fun z => Sum.elim VH VE z) h)
theorem s_L_law_L18 {X : oX} {e : Nat} (he : 20 ≤ e) (hR : oRoom X (e + 1)) {r0 : oR} (hr : oXr X = r0)   {VE : (oS) ⊕ (Int32 × oS) → Prop} (hVE : ∀ z, VE (Sum.inl z) → oVv X mL_law 1340 [] [] z) {PQ : Int32 × oS → Prop} (hE : oEZ X mL_law PQ) (hRet : ∀ z, VE (Sum.inr z) → PQ z) (n : Nat) (w : Int32 × oS) (h : oH (oLp (f_L_law_L18 r0) n w) VE) : oVv X mL_law 18 [(0, orf 2005 0), (1, orf 900 0), (2, orf 1000 0), (3, oi w.1)] [] w.2 :=
  oLp_s (VH := fun w => oVv X mL_law 18 [(0, orf 2005 0), (1, orf 900 0), (2, orf 1000 0), (3, oi w.1)] [] w.2) (fun w h => s_L_law_L18b he hR hr  (fun _ h => h) hVE hE hRet h) n w h
def f_L_law (r0 : oR) (za3 : Int32) (S : oS) : Option (Int32 × oS) :=
  (oLp (f_L_law_L18 r0) oFu (za3, S)).bind fun w => Sum.elim (fun zz105 =>
  some ((1 : Int32), zz105)) (fun r => some r) w
theorem s_L_law {X : oX} {e : Nat} (he : 20 ≤ e) (hR : oRoom X (e + 1)) {r0 : oR} (hr : oXr X = r0) {za3 : Int32} {P : Int32 × oS → Prop} (hE : oEZ X mL_law P) {S : oS} (h : oH (f_L_law r0 za3 S) P) : oVv X mL_law 18 [(0, orf 2005 0), (1, orf 900 0), (2, orf 1000 0), (3, oi za3)] [] S := by
  unfold f_L_law at h
  have h := oH_bind h
  refine s_L_law_L18 he hR hr  ?_ hE ?_ _ (za3, S) h
  · intro zz105 h
    have h := oElimL h
    refine o_iconst (v := 1) (pc := 1340) dL_law_1340 (by decide) ?_
    exact hE _ _ _ _ dL_law_1341 (by decide) (oH_some h)
  · intro r h
    have h := oElimR h
    exact oH_some (P := P) h
