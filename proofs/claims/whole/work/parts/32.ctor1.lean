set_option maxRecDepth 100000 in
set_option maxHeartbeats 1000000 in
theorem k_X2 (D : va_G) (cA : Nat → ClassId) (ms : Nat) (h0 : Nat) (sz : Nat) : kCt D cA ms 1 0 0 yX2_init mX2_init [.ref h0] [(h0, .inr (2, [.int 0, .int 0, .int 0]))] sz (fun w => w = [(h0, .inr (2, [.int 0, .int 0, .int 0]))]) := by
  refine kCt_of (by decide) rfl rfl (Nat.le_of_ble_eq_true rfl) ?_
  intro Y hD0 hcA hI hE hR
  subst hD0; subst hcA
  show oKv Y mX2_init 0 [(0, .ref h0)] [] [(h0, .inr (2, [.int 0, .int 0, .int 0]))] 0 0
  refine c_aload_n (pc := 0) dX2_init_0 rfl 0 rfl ?_
  refine c_objInit (pc := 1) (hR.lo (by decide)) wd_127 wd_19 wd_20 dX2_init_1 ?_
  refine c_ret (pc := 4) hE rfl dX2_init_4 rfl
set_option maxRecDepth 100000 in
set_option maxHeartbeats 1000000 in
theorem k_X0 (D : va_G) (cA : Nat → ClassId) (ms : Nat) (h0 : Nat) (sz : Nat) : kCt D cA ms 1 3 264 yX0_init mX0_init [.ref h0] [(h0, .inr (0, [.null, .null, .null, .int 0, .int 0, .int 0, .int 0, .int 0]))] sz (fun w => ∃ (zq1 : Nat) (zq2 : Nat) (zq3 : Nat), w = [(h0, .inr (0, [.ref zq1, .ref zq2, .ref zq3, .int 0, .int 0, .int 0, .int 0, .int 0])), (zq1, .inl (cA 0, 244, .inl (fun _ => 0))), (zq2, .inl (cA 0, 10, .inl (fun _ => 0))), (zq3, .inl (cA 0, 10, .inl (fun _ => 0)))]) := by
  refine kCt_of (by decide) rfl rfl (Nat.le_of_ble_eq_true rfl) ?_
  intro Y hD0 hcA hI hE hR
  subst hD0; subst hcA
  show oKv Y mX0_init 0 [(0, .ref h0)] [] [(h0, .inr (0, [.null, .null, .null, .int 0, .int 0, .int 0, .int 0, .int 0]))] 0 0
  refine c_aload_n (pc := 0) dX0_init_0 rfl 0 rfl ?_
  refine c_objInit (pc := 1) (hR.lo (by decide)) wd_314 wd_19 wd_20 dX0_init_1 ?_
  refine c_aload_n (pc := 4) dX0_init_4 rfl 0 rfl ?_
  refine c_sipush (v := 244) (pc := 5) dX0_init_5 (by decide) ?_
  refine c_newa (atype := .int) (N := 244) (pc := 8) (k := 0) (n := 0) 0 (244, .inl (fun _ => 0)) ⟨Nat.le_trans (by decide) hR.2.2.1, Nat.le_trans (by decide) hR.2.2.2⟩ wd_69 rfl (fun _ => rfl) (fun _ => rfl) (by decide) (by decide) (by decide) dX0_init_8 (fun zq1 => ?_)
  show oKv Y mX0_init 10 [(0, .ref h0)] [.ref zq1, .ref h0] [(h0, .inr (0, [.null, .null, .null, .int 0, .int 0, .int 0, .int 0, .int 0])), (zq1, .inl (Y.2.2.2.2.1 0, 244, .inl (fun _ => 0)))] 1 244
  refine c_putF (ws1 := [(h0, .inr (0, [.ref zq1, .null, .null, .int 0, .int 0, .int 0, .int 0, .int 0])), (zq1, .inl (Y.2.2.2.2.1 0, 244, .inl (fun _ => 0)))]) (pc := 10) hI fd_RX0_9 ff_100_0 0 kd_100 rfl rfl rfl (Nat.le_of_ble_eq_true rfl) rfl dX0_init_10 ?_
  refine c_aload_n (pc := 13) dX0_init_13 rfl 0 rfl ?_
  refine c_bipush (v := 10) (pc := 14) dX0_init_14 (by decide) ?_
  refine c_newa (atype := .int) (N := 10) (pc := 16) (k := 1) (n := 244) 0 (10, .inl (fun _ => 0)) ⟨Nat.le_trans (by decide) hR.2.2.1, Nat.le_trans (by decide) hR.2.2.2⟩ wd_69 rfl (fun _ => rfl) (fun _ => rfl) (by decide) (by decide) (by decide) dX0_init_16 (fun zq2 => ?_)
  show oKv Y mX0_init 18 [(0, .ref h0)] [.ref zq2, .ref h0] [(h0, .inr (0, [.ref zq1, .null, .null, .int 0, .int 0, .int 0, .int 0, .int 0])), (zq1, .inl (Y.2.2.2.2.1 0, 244, .inl (fun _ => 0))), (zq2, .inl (Y.2.2.2.2.1 0, 10, .inl (fun _ => 0)))] 2 254
  refine c_putF (ws1 := [(h0, .inr (0, [.ref zq1, .ref zq2, .null, .int 0, .int 0, .int 0, .int 0, .int 0])), (zq1, .inl (Y.2.2.2.2.1 0, 244, .inl (fun _ => 0))), (zq2, .inl (Y.2.2.2.2.1 0, 10, .inl (fun _ => 0)))]) (pc := 18) hI fd_RX0_15 ff_100_1 0 kd_100 rfl rfl rfl (Nat.le_of_ble_eq_true rfl) rfl dX0_init_18 ?_
  refine c_aload_n (pc := 21) dX0_init_21 rfl 0 rfl ?_
  refine c_bipush (v := 10) (pc := 22) dX0_init_22 (by decide) ?_
  refine c_newa (atype := .int) (N := 10) (pc := 24) (k := 2) (n := 254) 0 (10, .inl (fun _ => 0)) ⟨Nat.le_trans (by decide) hR.2.2.1, Nat.le_trans (by decide) hR.2.2.2⟩ wd_69 rfl (fun _ => rfl) (fun _ => rfl) (by decide) (by decide) (by decide) dX0_init_24 (fun zq3 => ?_)
  show oKv Y mX0_init 26 [(0, .ref h0)] [.ref zq3, .ref h0] [(h0, .inr (0, [.ref zq1, .ref zq2, .null, .int 0, .int 0, .int 0, .int 0, .int 0])), (zq1, .inl (Y.2.2.2.2.1 0, 244, .inl (fun _ => 0))), (zq2, .inl (Y.2.2.2.2.1 0, 10, .inl (fun _ => 0))), (zq3, .inl (Y.2.2.2.2.1 0, 10, .inl (fun _ => 0)))] 3 264
  refine c_putF (ws1 := [(h0, .inr (0, [.ref zq1, .ref zq2, .ref zq3, .int 0, .int 0, .int 0, .int 0, .int 0])), (zq1, .inl (Y.2.2.2.2.1 0, 244, .inl (fun _ => 0))), (zq2, .inl (Y.2.2.2.2.1 0, 10, .inl (fun _ => 0))), (zq3, .inl (Y.2.2.2.2.1 0, 10, .inl (fun _ => 0)))]) (pc := 26) hI fd_RX0_18 ff_100_2 0 kd_100 rfl rfl rfl (Nat.le_of_ble_eq_true rfl) rfl dX0_init_26 ?_
  refine c_ret (pc := 29) hE rfl dX0_init_29 ⟨zq1, zq2, zq3, rfl⟩
set_option maxRecDepth 100000 in
set_option maxHeartbeats 1000000 in
theorem k_X1 (D : va_G) (cA : Nat → ClassId) (ms : Nat) (h0 : Nat) (sz : Nat) : kCt D cA ms 1 10 80 yX1_init mX1_init [.ref h0] [(h0, .inr (1, [.null, .null, .null, .null, .null, .null, .null, .null, .null, .null, .int 0]))] sz (fun w => ∃ (zq1 : Nat) (zq2 : Nat) (zq3 : Nat) (zq4 : Nat) (zq5 : Nat) (zq6 : Nat) (zq7 : Nat) (zq8 : Nat) (zq9 : Nat) (zq10 : Nat), w = [(h0, .inr (1, [.ref zq1, .ref zq2, .ref zq3, .ref zq4, .ref zq5, .ref zq6, .ref zq7, .ref zq8, .ref zq9, .ref zq10, .int 0])), (zq1, .inl (cA 0, 8, .inl (fun _ => 0))), (zq2, .inl (cA 2, 8, .inl (fun _ => 0))), (zq3, .inl (cA 0, 8, .inl (fun _ => 0))), (zq4, .inl (cA 0, 8, .inl (fun _ => 0))), (zq5, .inl (cA 0, 8, .inl (fun _ => 0))), (zq6, .inl (cA 0, 8, .inl (fun _ => 0))), (zq7, .inl (cA 0, 8, .inl (fun _ => 0))), (zq8, .inl (cA 0, 8, .inl (fun _ => 0))), (zq9, .inl (cA 0, 8, .inl (fun _ => 0))), (zq10, .inl (cA 0, 8, .inl (fun _ => 0)))]) := by
  refine kCt_of (by decide) rfl rfl (Nat.le_of_ble_eq_true rfl) ?_
  intro Y hD0 hcA hI hE hR
  subst hD0; subst hcA
  show oKv Y mX1_init 0 [(0, .ref h0)] [] [(h0, .inr (1, [.null, .null, .null, .null, .null, .null, .null, .null, .null, .null, .int 0]))] 0 0
  refine c_aload_n (pc := 0) dX1_init_0 rfl 0 rfl ?_
  refine c_objInit (pc := 1) (hR.lo (by decide)) wd_75 wd_19 wd_20 dX1_init_1 ?_
  refine c_aload_n (pc := 4) dX1_init_4 rfl 0 rfl ?_
  refine c_bipush (v := 8) (pc := 5) dX1_init_5 (by decide) ?_
  refine c_newa (atype := .int) (N := 8) (pc := 7) (k := 0) (n := 0) 0 (8, .inl (fun _ => 0)) ⟨Nat.le_trans (by decide) hR.2.2.1, Nat.le_trans (by decide) hR.2.2.2⟩ wd_69 rfl (fun _ => rfl) (fun _ => rfl) (by decide) (by decide) (by decide) dX1_init_7 (fun zq1 => ?_)
  show oKv Y mX1_init 9 [(0, .ref h0)] [.ref zq1, .ref h0] [(h0, .inr (1, [.null, .null, .null, .null, .null, .null, .null, .null, .null, .null, .int 0])), (zq1, .inl (Y.2.2.2.2.1 0, 8, .inl (fun _ => 0)))] 1 8
  refine c_putF (ws1 := [(h0, .inr (1, [.ref zq1, .null, .null, .null, .null, .null, .null, .null, .null, .null, .int 0])), (zq1, .inl (Y.2.2.2.2.1 0, 8, .inl (fun _ => 0)))]) (pc := 9) hI fd_RX1_9 ff_200_0 0 kd_200 rfl rfl rfl (Nat.le_of_ble_eq_true rfl) rfl dX1_init_9 ?_
  refine c_aload_n (pc := 12) dX1_init_12 rfl 0 rfl ?_
  refine c_bipush (v := 8) (pc := 13) dX1_init_13 (by decide) ?_
  refine c_newa (atype := .boolean) (N := 8) (pc := 15) (k := 1) (n := 8) 2 (8, .inl (fun _ => 0)) ⟨Nat.le_trans (by decide) hR.2.2.1, Nat.le_trans (by decide) hR.2.2.2⟩ wd_114 rfl (fun _ => rfl) (fun _ => rfl) (by decide) (by decide) (by decide) dX1_init_15 (fun zq2 => ?_)
  show oKv Y mX1_init 17 [(0, .ref h0)] [.ref zq2, .ref h0] [(h0, .inr (1, [.ref zq1, .null, .null, .null, .null, .null, .null, .null, .null, .null, .int 0])), (zq1, .inl (Y.2.2.2.2.1 0, 8, .inl (fun _ => 0))), (zq2, .inl (Y.2.2.2.2.1 2, 8, .inl (fun _ => 0)))] 2 16
  refine c_putF (ws1 := [(h0, .inr (1, [.ref zq1, .ref zq2, .null, .null, .null, .null, .null, .null, .null, .null, .int 0])), (zq1, .inl (Y.2.2.2.2.1 0, 8, .inl (fun _ => 0))), (zq2, .inl (Y.2.2.2.2.1 2, 8, .inl (fun _ => 0)))]) (pc := 17) hI fd_RX1_15 ff_200_1 0 kd_200 rfl rfl rfl (Nat.le_of_ble_eq_true rfl) rfl dX1_init_17 ?_
  refine c_aload_n (pc := 20) dX1_init_20 rfl 0 rfl ?_
  refine c_bipush (v := 8) (pc := 21) dX1_init_21 (by decide) ?_
  refine c_newa (atype := .int) (N := 8) (pc := 23) (k := 2) (n := 16) 0 (8, .inl (fun _ => 0)) ⟨Nat.le_trans (by decide) hR.2.2.1, Nat.le_trans (by decide) hR.2.2.2⟩ wd_69 rfl (fun _ => rfl) (fun _ => rfl) (by decide) (by decide) (by decide) dX1_init_23 (fun zq3 => ?_)
  show oKv Y mX1_init 25 [(0, .ref h0)] [.ref zq3, .ref h0] [(h0, .inr (1, [.ref zq1, .ref zq2, .null, .null, .null, .null, .null, .null, .null, .null, .int 0])), (zq1, .inl (Y.2.2.2.2.1 0, 8, .inl (fun _ => 0))), (zq2, .inl (Y.2.2.2.2.1 2, 8, .inl (fun _ => 0))), (zq3, .inl (Y.2.2.2.2.1 0, 8, .inl (fun _ => 0)))] 3 24
  refine c_putF (ws1 := [(h0, .inr (1, [.ref zq1, .ref zq2, .ref zq3, .null, .null, .null, .null, .null, .null, .null, .int 0])), (zq1, .inl (Y.2.2.2.2.1 0, 8, .inl (fun _ => 0))), (zq2, .inl (Y.2.2.2.2.1 2, 8, .inl (fun _ => 0))), (zq3, .inl (Y.2.2.2.2.1 0, 8, .inl (fun _ => 0)))]) (pc := 25) hI fd_RX1_19 ff_200_2 0 kd_200 rfl rfl rfl (Nat.le_of_ble_eq_true rfl) rfl dX1_init_25 ?_
  refine c_aload_n (pc := 28) dX1_init_28 rfl 0 rfl ?_
  refine c_bipush (v := 8) (pc := 29) dX1_init_29 (by decide) ?_
  refine c_newa (atype := .int) (N := 8) (pc := 31) (k := 3) (n := 24) 0 (8, .inl (fun _ => 0)) ⟨Nat.le_trans (by decide) hR.2.2.1, Nat.le_trans (by decide) hR.2.2.2⟩ wd_69 rfl (fun _ => rfl) (fun _ => rfl) (by decide) (by decide) (by decide) dX1_init_31 (fun zq4 => ?_)
  show oKv Y mX1_init 33 [(0, .ref h0)] [.ref zq4, .ref h0] [(h0, .inr (1, [.ref zq1, .ref zq2, .ref zq3, .null, .null, .null, .null, .null, .null, .null, .int 0])), (zq1, .inl (Y.2.2.2.2.1 0, 8, .inl (fun _ => 0))), (zq2, .inl (Y.2.2.2.2.1 2, 8, .inl (fun _ => 0))), (zq3, .inl (Y.2.2.2.2.1 0, 8, .inl (fun _ => 0))), (zq4, .inl (Y.2.2.2.2.1 0, 8, .inl (fun _ => 0)))] 4 32
  refine c_putF (ws1 := [(h0, .inr (1, [.ref zq1, .ref zq2, .ref zq3, .ref zq4, .null, .null, .null, .null, .null, .null, .int 0])), (zq1, .inl (Y.2.2.2.2.1 0, 8, .inl (fun _ => 0))), (zq2, .inl (Y.2.2.2.2.1 2, 8, .inl (fun _ => 0))), (zq3, .inl (Y.2.2.2.2.1 0, 8, .inl (fun _ => 0))), (zq4, .inl (Y.2.2.2.2.1 0, 8, .inl (fun _ => 0)))]) (pc := 33) hI fd_RX1_22 ff_200_3 0 kd_200 rfl rfl rfl (Nat.le_of_ble_eq_true rfl) rfl dX1_init_33 ?_
  refine c_aload_n (pc := 36) dX1_init_36 rfl 0 rfl ?_
  refine c_bipush (v := 8) (pc := 37) dX1_init_37 (by decide) ?_
  refine c_newa (atype := .int) (N := 8) (pc := 39) (k := 4) (n := 32) 0 (8, .inl (fun _ => 0)) ⟨Nat.le_trans (by decide) hR.2.2.1, Nat.le_trans (by decide) hR.2.2.2⟩ wd_69 rfl (fun _ => rfl) (fun _ => rfl) (by decide) (by decide) (by decide) dX1_init_39 (fun zq5 => ?_)
  show oKv Y mX1_init 41 [(0, .ref h0)] [.ref zq5, .ref h0] [(h0, .inr (1, [.ref zq1, .ref zq2, .ref zq3, .ref zq4, .null, .null, .null, .null, .null, .null, .int 0])), (zq1, .inl (Y.2.2.2.2.1 0, 8, .inl (fun _ => 0))), (zq2, .inl (Y.2.2.2.2.1 2, 8, .inl (fun _ => 0))), (zq3, .inl (Y.2.2.2.2.1 0, 8, .inl (fun _ => 0))), (zq4, .inl (Y.2.2.2.2.1 0, 8, .inl (fun _ => 0))), (zq5, .inl (Y.2.2.2.2.1 0, 8, .inl (fun _ => 0)))] 5 40
  refine c_putF (ws1 := [(h0, .inr (1, [.ref zq1, .ref zq2, .ref zq3, .ref zq4, .ref zq5, .null, .null, .null, .null, .null, .int 0])), (zq1, .inl (Y.2.2.2.2.1 0, 8, .inl (fun _ => 0))), (zq2, .inl (Y.2.2.2.2.1 2, 8, .inl (fun _ => 0))), (zq3, .inl (Y.2.2.2.2.1 0, 8, .inl (fun _ => 0))), (zq4, .inl (Y.2.2.2.2.1 0, 8, .inl (fun _ => 0))), (zq5, .inl (Y.2.2.2.2.1 0, 8, .inl (fun _ => 0)))]) (pc := 41) hI fd_RX1_25 ff_200_4 0 kd_200 rfl rfl rfl (Nat.le_of_ble_eq_true rfl) rfl dX1_init_41 ?_
  refine c_aload_n (pc := 44) dX1_init_44 rfl 0 rfl ?_
  refine c_bipush (v := 8) (pc := 45) dX1_init_45 (by decide) ?_
  refine c_newa (atype := .int) (N := 8) (pc := 47) (k := 5) (n := 40) 0 (8, .inl (fun _ => 0)) ⟨Nat.le_trans (by decide) hR.2.2.1, Nat.le_trans (by decide) hR.2.2.2⟩ wd_69 rfl (fun _ => rfl) (fun _ => rfl) (by decide) (by decide) (by decide) dX1_init_47 (fun zq6 => ?_)
  show oKv Y mX1_init 49 [(0, .ref h0)] [.ref zq6, .ref h0] [(h0, .inr (1, [.ref zq1, .ref zq2, .ref zq3, .ref zq4, .ref zq5, .null, .null, .null, .null, .null, .int 0])), (zq1, .inl (Y.2.2.2.2.1 0, 8, .inl (fun _ => 0))), (zq2, .inl (Y.2.2.2.2.1 2, 8, .inl (fun _ => 0))), (zq3, .inl (Y.2.2.2.2.1 0, 8, .inl (fun _ => 0))), (zq4, .inl (Y.2.2.2.2.1 0, 8, .inl (fun _ => 0))), (zq5, .inl (Y.2.2.2.2.1 0, 8, .inl (fun _ => 0))), (zq6, .inl (Y.2.2.2.2.1 0, 8, .inl (fun _ => 0)))] 6 48
  refine c_putF (ws1 := [(h0, .inr (1, [.ref zq1, .ref zq2, .ref zq3, .ref zq4, .ref zq5, .ref zq6, .null, .null, .null, .null, .int 0])), (zq1, .inl (Y.2.2.2.2.1 0, 8, .inl (fun _ => 0))), (zq2, .inl (Y.2.2.2.2.1 2, 8, .inl (fun _ => 0))), (zq3, .inl (Y.2.2.2.2.1 0, 8, .inl (fun _ => 0))), (zq4, .inl (Y.2.2.2.2.1 0, 8, .inl (fun _ => 0))), (zq5, .inl (Y.2.2.2.2.1 0, 8, .inl (fun _ => 0))), (zq6, .inl (Y.2.2.2.2.1 0, 8, .inl (fun _ => 0)))]) (pc := 49) hI fd_RX1_28 ff_200_5 0 kd_200 rfl rfl rfl (Nat.le_of_ble_eq_true rfl) rfl dX1_init_49 ?_
  refine c_aload_n (pc := 52) dX1_init_52 rfl 0 rfl ?_
  refine c_bipush (v := 8) (pc := 53) dX1_init_53 (by decide) ?_
  refine c_newa (atype := .int) (N := 8) (pc := 55) (k := 6) (n := 48) 0 (8, .inl (fun _ => 0)) ⟨Nat.le_trans (by decide) hR.2.2.1, Nat.le_trans (by decide) hR.2.2.2⟩ wd_69 rfl (fun _ => rfl) (fun _ => rfl) (by decide) (by decide) (by decide) dX1_init_55 (fun zq7 => ?_)
  show oKv Y mX1_init 57 [(0, .ref h0)] [.ref zq7, .ref h0] [(h0, .inr (1, [.ref zq1, .ref zq2, .ref zq3, .ref zq4, .ref zq5, .ref zq6, .null, .null, .null, .null, .int 0])), (zq1, .inl (Y.2.2.2.2.1 0, 8, .inl (fun _ => 0))), (zq2, .inl (Y.2.2.2.2.1 2, 8, .inl (fun _ => 0))), (zq3, .inl (Y.2.2.2.2.1 0, 8, .inl (fun _ => 0))), (zq4, .inl (Y.2.2.2.2.1 0, 8, .inl (fun _ => 0))), (zq5, .inl (Y.2.2.2.2.1 0, 8, .inl (fun _ => 0))), (zq6, .inl (Y.2.2.2.2.1 0, 8, .inl (fun _ => 0))), (zq7, .inl (Y.2.2.2.2.1 0, 8, .inl (fun _ => 0)))] 7 56
  refine c_putF (ws1 := [(h0, .inr (1, [.ref zq1, .ref zq2, .ref zq3, .ref zq4, .ref zq5, .ref zq6, .ref zq7, .null, .null, .null, .int 0])), (zq1, .inl (Y.2.2.2.2.1 0, 8, .inl (fun _ => 0))), (zq2, .inl (Y.2.2.2.2.1 2, 8, .inl (fun _ => 0))), (zq3, .inl (Y.2.2.2.2.1 0, 8, .inl (fun _ => 0))), (zq4, .inl (Y.2.2.2.2.1 0, 8, .inl (fun _ => 0))), (zq5, .inl (Y.2.2.2.2.1 0, 8, .inl (fun _ => 0))), (zq6, .inl (Y.2.2.2.2.1 0, 8, .inl (fun _ => 0))), (zq7, .inl (Y.2.2.2.2.1 0, 8, .inl (fun _ => 0)))]) (pc := 57) hI fd_RX1_31 ff_200_6 0 kd_200 rfl rfl rfl (Nat.le_of_ble_eq_true rfl) rfl dX1_init_57 ?_
  refine c_aload_n (pc := 60) dX1_init_60 rfl 0 rfl ?_
  refine c_bipush (v := 8) (pc := 61) dX1_init_61 (by decide) ?_
  refine c_newa (atype := .int) (N := 8) (pc := 63) (k := 7) (n := 56) 0 (8, .inl (fun _ => 0)) ⟨Nat.le_trans (by decide) hR.2.2.1, Nat.le_trans (by decide) hR.2.2.2⟩ wd_69 rfl (fun _ => rfl) (fun _ => rfl) (by decide) (by decide) (by decide) dX1_init_63 (fun zq8 => ?_)
  show oKv Y mX1_init 65 [(0, .ref h0)] [.ref zq8, .ref h0] [(h0, .inr (1, [.ref zq1, .ref zq2, .ref zq3, .ref zq4, .ref zq5, .ref zq6, .ref zq7, .null, .null, .null, .int 0])), (zq1, .inl (Y.2.2.2.2.1 0, 8, .inl (fun _ => 0))), (zq2, .inl (Y.2.2.2.2.1 2, 8, .inl (fun _ => 0))), (zq3, .inl (Y.2.2.2.2.1 0, 8, .inl (fun _ => 0))), (zq4, .inl (Y.2.2.2.2.1 0, 8, .inl (fun _ => 0))), (zq5, .inl (Y.2.2.2.2.1 0, 8, .inl (fun _ => 0))), (zq6, .inl (Y.2.2.2.2.1 0, 8, .inl (fun _ => 0))), (zq7, .inl (Y.2.2.2.2.1 0, 8, .inl (fun _ => 0))), (zq8, .inl (Y.2.2.2.2.1 0, 8, .inl (fun _ => 0)))] 8 64
  refine c_putF (ws1 := [(h0, .inr (1, [.ref zq1, .ref zq2, .ref zq3, .ref zq4, .ref zq5, .ref zq6, .ref zq7, .ref zq8, .null, .null, .int 0])), (zq1, .inl (Y.2.2.2.2.1 0, 8, .inl (fun _ => 0))), (zq2, .inl (Y.2.2.2.2.1 2, 8, .inl (fun _ => 0))), (zq3, .inl (Y.2.2.2.2.1 0, 8, .inl (fun _ => 0))), (zq4, .inl (Y.2.2.2.2.1 0, 8, .inl (fun _ => 0))), (zq5, .inl (Y.2.2.2.2.1 0, 8, .inl (fun _ => 0))), (zq6, .inl (Y.2.2.2.2.1 0, 8, .inl (fun _ => 0))), (zq7, .inl (Y.2.2.2.2.1 0, 8, .inl (fun _ => 0))), (zq8, .inl (Y.2.2.2.2.1 0, 8, .inl (fun _ => 0)))]) (pc := 65) hI fd_RX1_34 ff_200_7 0 kd_200 rfl rfl rfl (Nat.le_of_ble_eq_true rfl) rfl dX1_init_65 ?_
  refine c_aload_n (pc := 68) dX1_init_68 rfl 0 rfl ?_
  refine c_bipush (v := 8) (pc := 69) dX1_init_69 (by decide) ?_
  refine c_newa (atype := .int) (N := 8) (pc := 71) (k := 8) (n := 64) 0 (8, .inl (fun _ => 0)) ⟨Nat.le_trans (by decide) hR.2.2.1, Nat.le_trans (by decide) hR.2.2.2⟩ wd_69 rfl (fun _ => rfl) (fun _ => rfl) (by decide) (by decide) (by decide) dX1_init_71 (fun zq9 => ?_)
  show oKv Y mX1_init 73 [(0, .ref h0)] [.ref zq9, .ref h0] [(h0, .inr (1, [.ref zq1, .ref zq2, .ref zq3, .ref zq4, .ref zq5, .ref zq6, .ref zq7, .ref zq8, .null, .null, .int 0])), (zq1, .inl (Y.2.2.2.2.1 0, 8, .inl (fun _ => 0))), (zq2, .inl (Y.2.2.2.2.1 2, 8, .inl (fun _ => 0))), (zq3, .inl (Y.2.2.2.2.1 0, 8, .inl (fun _ => 0))), (zq4, .inl (Y.2.2.2.2.1 0, 8, .inl (fun _ => 0))), (zq5, .inl (Y.2.2.2.2.1 0, 8, .inl (fun _ => 0))), (zq6, .inl (Y.2.2.2.2.1 0, 8, .inl (fun _ => 0))), (zq7, .inl (Y.2.2.2.2.1 0, 8, .inl (fun _ => 0))), (zq8, .inl (Y.2.2.2.2.1 0, 8, .inl (fun _ => 0))), (zq9, .inl (Y.2.2.2.2.1 0, 8, .inl (fun _ => 0)))] 9 72
  refine c_putF (ws1 := [(h0, .inr (1, [.ref zq1, .ref zq2, .ref zq3, .ref zq4, .ref zq5, .ref zq6, .ref zq7, .ref zq8, .ref zq9, .null, .int 0])), (zq1, .inl (Y.2.2.2.2.1 0, 8, .inl (fun _ => 0))), (zq2, .inl (Y.2.2.2.2.1 2, 8, .inl (fun _ => 0))), (zq3, .inl (Y.2.2.2.2.1 0, 8, .inl (fun _ => 0))), (zq4, .inl (Y.2.2.2.2.1 0, 8, .inl (fun _ => 0))), (zq5, .inl (Y.2.2.2.2.1 0, 8, .inl (fun _ => 0))), (zq6, .inl (Y.2.2.2.2.1 0, 8, .inl (fun _ => 0))), (zq7, .inl (Y.2.2.2.2.1 0, 8, .inl (fun _ => 0))), (zq8, .inl (Y.2.2.2.2.1 0, 8, .inl (fun _ => 0))), (zq9, .inl (Y.2.2.2.2.1 0, 8, .inl (fun _ => 0)))]) (pc := 73) hI fd_RX1_37 ff_200_8 0 kd_200 rfl rfl rfl (Nat.le_of_ble_eq_true rfl) rfl dX1_init_73 ?_
  refine c_aload_n (pc := 76) dX1_init_76 rfl 0 rfl ?_
  refine c_bipush (v := 8) (pc := 77) dX1_init_77 (by decide) ?_
  refine c_newa (atype := .int) (N := 8) (pc := 79) (k := 9) (n := 72) 0 (8, .inl (fun _ => 0)) ⟨Nat.le_trans (by decide) hR.2.2.1, Nat.le_trans (by decide) hR.2.2.2⟩ wd_69 rfl (fun _ => rfl) (fun _ => rfl) (by decide) (by decide) (by decide) dX1_init_79 (fun zq10 => ?_)
  show oKv Y mX1_init 81 [(0, .ref h0)] [.ref zq10, .ref h0] [(h0, .inr (1, [.ref zq1, .ref zq2, .ref zq3, .ref zq4, .ref zq5, .ref zq6, .ref zq7, .ref zq8, .ref zq9, .null, .int 0])), (zq1, .inl (Y.2.2.2.2.1 0, 8, .inl (fun _ => 0))), (zq2, .inl (Y.2.2.2.2.1 2, 8, .inl (fun _ => 0))), (zq3, .inl (Y.2.2.2.2.1 0, 8, .inl (fun _ => 0))), (zq4, .inl (Y.2.2.2.2.1 0, 8, .inl (fun _ => 0))), (zq5, .inl (Y.2.2.2.2.1 0, 8, .inl (fun _ => 0))), (zq6, .inl (Y.2.2.2.2.1 0, 8, .inl (fun _ => 0))), (zq7, .inl (Y.2.2.2.2.1 0, 8, .inl (fun _ => 0))), (zq8, .inl (Y.2.2.2.2.1 0, 8, .inl (fun _ => 0))), (zq9, .inl (Y.2.2.2.2.1 0, 8, .inl (fun _ => 0))), (zq10, .inl (Y.2.2.2.2.1 0, 8, .inl (fun _ => 0)))] 10 80
  refine c_putF (ws1 := [(h0, .inr (1, [.ref zq1, .ref zq2, .ref zq3, .ref zq4, .ref zq5, .ref zq6, .ref zq7, .ref zq8, .ref zq9, .ref zq10, .int 0])), (zq1, .inl (Y.2.2.2.2.1 0, 8, .inl (fun _ => 0))), (zq2, .inl (Y.2.2.2.2.1 2, 8, .inl (fun _ => 0))), (zq3, .inl (Y.2.2.2.2.1 0, 8, .inl (fun _ => 0))), (zq4, .inl (Y.2.2.2.2.1 0, 8, .inl (fun _ => 0))), (zq5, .inl (Y.2.2.2.2.1 0, 8, .inl (fun _ => 0))), (zq6, .inl (Y.2.2.2.2.1 0, 8, .inl (fun _ => 0))), (zq7, .inl (Y.2.2.2.2.1 0, 8, .inl (fun _ => 0))), (zq8, .inl (Y.2.2.2.2.1 0, 8, .inl (fun _ => 0))), (zq9, .inl (Y.2.2.2.2.1 0, 8, .inl (fun _ => 0))), (zq10, .inl (Y.2.2.2.2.1 0, 8, .inl (fun _ => 0)))]) (pc := 81) hI fd_RX1_40 ff_200_9 0 kd_200 rfl rfl rfl (Nat.le_of_ble_eq_true rfl) rfl dX1_init_81 ?_
  refine c_ret (pc := 84) hE rfl dX1_init_84 ⟨zq1, zq2, zq3, zq4, zq5, zq6, zq7, zq8, zq9, zq10, rfl⟩
set_option maxRecDepth 100000 in
set_option maxHeartbeats 1000000 in
theorem k_X4 (D : va_G) (cA : Nat → ClassId) (ms : Nat) (h0 : Nat) (sz : Nat) : kCt D cA ms 1 5 80 yX4_init mX4_init [.ref h0] [(h0, .inr (4, [.null, .null, .null, .null, .null, .int 0, .int 0, .int 0, .long 0, .long 0]))] sz (fun w => ∃ (zq1 : Nat) (zq2 : Nat) (zq3 : Nat) (zq4 : Nat) (zq5 : Nat), w = [(h0, .inr (4, [.ref zq1, .ref zq2, .ref zq3, .ref zq4, .ref zq5, .int 0, .int 0, .int 10, .long 0, .long 0])), (zq1, .inl (cA 1, 12, .inr (.inl (oHe 12)))), (zq2, .inl (cA 0, 4, .inl (fun _ => 0))), (zq3, .inl (cA 0, 4, .inl (fun _ => 0))), (zq4, .inl (cA 0, 30, .inl (fun _ => 0))), (zq5, .inl (cA 0, 30, .inl (fun _ => 0)))]) := by
  refine kCt_of (by decide) rfl rfl (Nat.le_of_ble_eq_true rfl) ?_
  intro Y hD0 hcA hI hE hR
  subst hD0; subst hcA
  show oKv Y mX4_init 0 [(0, .ref h0)] [] [(h0, .inr (4, [.null, .null, .null, .null, .null, .int 0, .int 0, .int 0, .long 0, .long 0]))] 0 0
  refine c_aload_n (pc := 0) dX4_init_0 rfl 0 rfl ?_
  refine c_objInit (pc := 1) (hR.lo (by decide)) wd_26 wd_19 wd_20 dX4_init_1 ?_
  refine c_aload_n (pc := 4) dX4_init_4 rfl 0 rfl ?_
  refine c_bipush (v := 12) (pc := 5) dX4_init_5 (by decide) ?_
  refine c_newa (atype := .long) (N := 12) (pc := 7) (k := 0) (n := 0) 1 (12, .inr (.inl (fun _ => 0))) ⟨Nat.le_trans (by decide) hR.2.2.1, Nat.le_trans (by decide) hR.2.2.2⟩ wd_68 rfl (fun _ => rfl) (fun _ => rfl) (by decide) (by decide) (by decide) dX4_init_7 (fun zq1 => ?_)
  show oKv Y mX4_init 9 [(0, .ref h0)] [.ref zq1, .ref h0] [(h0, .inr (4, [.null, .null, .null, .null, .null, .int 0, .int 0, .int 0, .long 0, .long 0])), (zq1, .inl (Y.2.2.2.2.1 1, 12, .inr (.inl (oHe 0))))] 1 12
  refine c_putF (ws1 := [(h0, .inr (4, [.ref zq1, .null, .null, .null, .null, .int 0, .int 0, .int 0, .long 0, .long 0])), (zq1, .inl (Y.2.2.2.2.1 1, 12, .inr (.inl (oHe 0))))]) (pc := 9) hI fd_RX4_9 ff_500_0 0 kd_500 rfl rfl rfl (Nat.le_of_ble_eq_true rfl) rfl dX4_init_9 ?_
  refine c_aload_n (pc := 12) dX4_init_12 rfl 0 rfl ?_
  refine c_iconst (v := 4) (pc := 13) dX4_init_13 (by decide) ?_
  refine c_newa (atype := .int) (N := 4) (pc := 14) (k := 1) (n := 12) 0 (4, .inl (fun _ => 0)) ⟨Nat.le_trans (by decide) hR.2.2.1, Nat.le_trans (by decide) hR.2.2.2⟩ wd_69 rfl (fun _ => rfl) (fun _ => rfl) (by decide) (by decide) (by decide) dX4_init_14 (fun zq2 => ?_)
  show oKv Y mX4_init 16 [(0, .ref h0)] [.ref zq2, .ref h0] [(h0, .inr (4, [.ref zq1, .null, .null, .null, .null, .int 0, .int 0, .int 0, .long 0, .long 0])), (zq1, .inl (Y.2.2.2.2.1 1, 12, .inr (.inl (oHe 0)))), (zq2, .inl (Y.2.2.2.2.1 0, 4, .inl (fun _ => 0)))] 2 16
  refine c_putF (ws1 := [(h0, .inr (4, [.ref zq1, .ref zq2, .null, .null, .null, .int 0, .int 0, .int 0, .long 0, .long 0])), (zq1, .inl (Y.2.2.2.2.1 1, 12, .inr (.inl (oHe 0)))), (zq2, .inl (Y.2.2.2.2.1 0, 4, .inl (fun _ => 0)))]) (pc := 16) hI fd_RX4_15 ff_500_1 0 kd_500 rfl rfl rfl (Nat.le_of_ble_eq_true rfl) rfl dX4_init_16 ?_
  refine c_aload_n (pc := 19) dX4_init_19 rfl 0 rfl ?_
  refine c_iconst (v := 4) (pc := 20) dX4_init_20 (by decide) ?_
  refine c_newa (atype := .int) (N := 4) (pc := 21) (k := 2) (n := 16) 0 (4, .inl (fun _ => 0)) ⟨Nat.le_trans (by decide) hR.2.2.1, Nat.le_trans (by decide) hR.2.2.2⟩ wd_69 rfl (fun _ => rfl) (fun _ => rfl) (by decide) (by decide) (by decide) dX4_init_21 (fun zq3 => ?_)
  show oKv Y mX4_init 23 [(0, .ref h0)] [.ref zq3, .ref h0] [(h0, .inr (4, [.ref zq1, .ref zq2, .null, .null, .null, .int 0, .int 0, .int 0, .long 0, .long 0])), (zq1, .inl (Y.2.2.2.2.1 1, 12, .inr (.inl (oHe 0)))), (zq2, .inl (Y.2.2.2.2.1 0, 4, .inl (fun _ => 0))), (zq3, .inl (Y.2.2.2.2.1 0, 4, .inl (fun _ => 0)))] 3 20
  refine c_putF (ws1 := [(h0, .inr (4, [.ref zq1, .ref zq2, .ref zq3, .null, .null, .int 0, .int 0, .int 0, .long 0, .long 0])), (zq1, .inl (Y.2.2.2.2.1 1, 12, .inr (.inl (oHe 0)))), (zq2, .inl (Y.2.2.2.2.1 0, 4, .inl (fun _ => 0))), (zq3, .inl (Y.2.2.2.2.1 0, 4, .inl (fun _ => 0)))]) (pc := 23) hI fd_RX4_19 ff_500_2 0 kd_500 rfl rfl rfl (Nat.le_of_ble_eq_true rfl) rfl dX4_init_23 ?_
  refine c_aload_n (pc := 26) dX4_init_26 rfl 0 rfl ?_
  refine c_bipush (v := 30) (pc := 27) dX4_init_27 (by decide) ?_
  refine c_newa (atype := .int) (N := 30) (pc := 29) (k := 3) (n := 20) 0 (30, .inl (fun _ => 0)) ⟨Nat.le_trans (by decide) hR.2.2.1, Nat.le_trans (by decide) hR.2.2.2⟩ wd_69 rfl (fun _ => rfl) (fun _ => rfl) (by decide) (by decide) (by decide) dX4_init_29 (fun zq4 => ?_)
  show oKv Y mX4_init 31 [(0, .ref h0)] [.ref zq4, .ref h0] [(h0, .inr (4, [.ref zq1, .ref zq2, .ref zq3, .null, .null, .int 0, .int 0, .int 0, .long 0, .long 0])), (zq1, .inl (Y.2.2.2.2.1 1, 12, .inr (.inl (oHe 0)))), (zq2, .inl (Y.2.2.2.2.1 0, 4, .inl (fun _ => 0))), (zq3, .inl (Y.2.2.2.2.1 0, 4, .inl (fun _ => 0))), (zq4, .inl (Y.2.2.2.2.1 0, 30, .inl (fun _ => 0)))] 4 50
  refine c_putF (ws1 := [(h0, .inr (4, [.ref zq1, .ref zq2, .ref zq3, .ref zq4, .null, .int 0, .int 0, .int 0, .long 0, .long 0])), (zq1, .inl (Y.2.2.2.2.1 1, 12, .inr (.inl (oHe 0)))), (zq2, .inl (Y.2.2.2.2.1 0, 4, .inl (fun _ => 0))), (zq3, .inl (Y.2.2.2.2.1 0, 4, .inl (fun _ => 0))), (zq4, .inl (Y.2.2.2.2.1 0, 30, .inl (fun _ => 0)))]) (pc := 31) hI fd_RX4_22 ff_500_3 0 kd_500 rfl rfl rfl (Nat.le_of_ble_eq_true rfl) rfl dX4_init_31 ?_
  refine c_aload_n (pc := 34) dX4_init_34 rfl 0 rfl ?_
  refine c_bipush (v := 30) (pc := 35) dX4_init_35 (by decide) ?_
  refine c_newa (atype := .int) (N := 30) (pc := 37) (k := 4) (n := 50) 0 (30, .inl (fun _ => 0)) ⟨Nat.le_trans (by decide) hR.2.2.1, Nat.le_trans (by decide) hR.2.2.2⟩ wd_69 rfl (fun _ => rfl) (fun _ => rfl) (by decide) (by decide) (by decide) dX4_init_37 (fun zq5 => ?_)
  show oKv Y mX4_init 39 [(0, .ref h0)] [.ref zq5, .ref h0] [(h0, .inr (4, [.ref zq1, .ref zq2, .ref zq3, .ref zq4, .null, .int 0, .int 0, .int 0, .long 0, .long 0])), (zq1, .inl (Y.2.2.2.2.1 1, 12, .inr (.inl (oHe 0)))), (zq2, .inl (Y.2.2.2.2.1 0, 4, .inl (fun _ => 0))), (zq3, .inl (Y.2.2.2.2.1 0, 4, .inl (fun _ => 0))), (zq4, .inl (Y.2.2.2.2.1 0, 30, .inl (fun _ => 0))), (zq5, .inl (Y.2.2.2.2.1 0, 30, .inl (fun _ => 0)))] 5 80
  refine c_putF (ws1 := [(h0, .inr (4, [.ref zq1, .ref zq2, .ref zq3, .ref zq4, .ref zq5, .int 0, .int 0, .int 0, .long 0, .long 0])), (zq1, .inl (Y.2.2.2.2.1 1, 12, .inr (.inl (oHe 0)))), (zq2, .inl (Y.2.2.2.2.1 0, 4, .inl (fun _ => 0))), (zq3, .inl (Y.2.2.2.2.1 0, 4, .inl (fun _ => 0))), (zq4, .inl (Y.2.2.2.2.1 0, 30, .inl (fun _ => 0))), (zq5, .inl (Y.2.2.2.2.1 0, 30, .inl (fun _ => 0)))]) (pc := 39) hI fd_RX4_25 ff_500_4 0 kd_500 rfl rfl rfl (Nat.le_of_ble_eq_true rfl) rfl dX4_init_39 ?_
  refine c_aload_n (pc := 42) dX4_init_42 rfl 0 rfl ?_
  refine c_bipush (v := 10) (pc := 43) dX4_init_43 (by decide) ?_
  refine c_put (ws1 := [(h0, .inr (4, [.ref zq1, .ref zq2, .ref zq3, .ref zq4, .ref zq5, .int 0, .int 0, .int 10, .long 0, .long 0])), (zq1, .inl (Y.2.2.2.2.1 1, 12, .inr (.inl (oHe 0)))), (zq2, .inl (Y.2.2.2.2.1 0, 4, .inl (fun _ => 0))), (zq3, .inl (Y.2.2.2.2.1 0, 4, .inl (fun _ => 0))), (zq4, .inl (Y.2.2.2.2.1 0, 30, .inl (fun _ => 0))), (zq5, .inl (Y.2.2.2.2.1 0, 30, .inl (fun _ => 0)))]) (pc := 45) fd_RX4_28 fp_500_7 0 kd_500 rfl rfl rfl (Nat.le_of_ble_eq_true rfl) rfl dX4_init_45 ?_
  refine c_iconst (v := 0) (pc := 48) dX4_init_48 (by decide) ?_
  refine c_istore_n (lv1 := [(1, .int 0), (0, .ref h0)]) (pc := 49) dX4_init_49 rfl (by decide) rfl ?_
  refine c_iload_n (pc := 50) dX4_init_50 rfl 0 rfl ?_
  refine c_iconst (v := 4) (pc := 51) dX4_init_51 (by decide) ?_
  refine c_icmp_ge_f (pc := 52) dX4_init_52 ⟨93, by decide⟩ (by decide) ?_
  refine c_iconst (v := 0) (pc := 55) dX4_init_55 (by decide) ?_
  refine c_istore_n (lv1 := [(2, .int 0), (1, .int 0), (0, .ref h0)]) (pc := 56) dX4_init_56 rfl (by decide) rfl ?_
  refine c_iload_n (pc := 57) dX4_init_57 rfl 0 rfl ?_
  refine c_iconst (v := 3) (pc := 58) dX4_init_58 (by decide) ?_
  refine c_icmp_ge_f (pc := 59) dX4_init_59 ⟨87, by decide⟩ (by decide) ?_
  refine c_aload_n (pc := 62) dX4_init_62 rfl 2 rfl ?_
  refine c_get (pc := 63) fd_RX4_9 0 kd_500 rfl rfl dX4_init_63 ?_
  refine c_iload_n (pc := 66) dX4_init_66 rfl 1 rfl ?_
  refine c_iconst (v := 3) (pc := 67) dX4_init_67 (by decide) ?_
  refine c_imul (z := 0) (pc := 68) dX4_init_68 (by decide) ?_
  refine c_iload_n (pc := 69) dX4_init_69 rfl 0 rfl ?_
  refine c_iadd (z := 0) (pc := 70) dX4_init_70 (by decide) ?_
  refine c_bipush (v := 10) (pc := 71) dX4_init_71 (by decide) ?_
  refine c_getsN (host := "VillageOven") (pc := 73) (by decide +kernel) dX4_init_73 ?_
  refine c_iload_n (pc := 76) dX4_init_76 rfl 0 rfl ?_
  refine c_sald (v := 10) (pc := 77) (by unfold vp_in; decide) (by decide) dX4_init_77 ?_
  refine c_imul (z := 100) (pc := 78) dX4_init_78 (by decide) ?_
  refine c_i2l (z := 100) (pc := 79) dX4_init_79 (by decide) ?_
  refine c_last (g := oHe 0) (ws1 := [(h0, .inr (4, [.ref zq1, .ref zq2, .ref zq3, .ref zq4, .ref zq5, .int 0, .int 0, .int 10, .long 0, .long 0])), (zq1, .inl (Y.2.2.2.2.1 1, 12, .inr (.inl (oHe 1)))), (zq2, .inl (Y.2.2.2.2.1 0, 4, .inl (fun _ => 0))), (zq3, .inl (Y.2.2.2.2.1 0, 4, .inl (fun _ => 0))), (zq4, .inl (Y.2.2.2.2.1 0, 30, .inl (fun _ => 0))), (zq5, .inl (Y.2.2.2.2.1 0, 30, .inl (fun _ => 0)))]) (pc := 80) 1 rfl (by unfold vp_in; decide) (by rw [show vp_updL (oHe 0) (Int32.toNatClampNeg 0) 100 = oHe 1 from rfl]; rfl) dX4_init_80 ?_
  refine c_iinc (v := 1) (lv1 := [(2, .int 1), (1, .int 0), (0, .ref h0)]) (pc := 81) dX4_init_81 0 rfl (by decide) (by decide) rfl ?_
  refine c_goto 57 (pc := 84) dX4_init_84 (by decide) ?_
  refine c_iload_n (pc := 57) dX4_init_57 rfl 0 rfl ?_
  refine c_iconst (v := 3) (pc := 58) dX4_init_58 (by decide) ?_
  refine c_icmp_ge_f (pc := 59) dX4_init_59 ⟨87, by decide⟩ (by decide) ?_
  refine c_aload_n (pc := 62) dX4_init_62 rfl 2 rfl ?_
  refine c_get (pc := 63) fd_RX4_9 0 kd_500 rfl rfl dX4_init_63 ?_
  refine c_iload_n (pc := 66) dX4_init_66 rfl 1 rfl ?_
  refine c_iconst (v := 3) (pc := 67) dX4_init_67 (by decide) ?_
  refine c_imul (z := 0) (pc := 68) dX4_init_68 (by decide) ?_
  refine c_iload_n (pc := 69) dX4_init_69 rfl 0 rfl ?_
  refine c_iadd (z := 1) (pc := 70) dX4_init_70 (by decide) ?_
  refine c_bipush (v := 10) (pc := 71) dX4_init_71 (by decide) ?_
  refine c_getsN (host := "VillageOven") (pc := 73) (by decide +kernel) dX4_init_73 ?_
  refine c_iload_n (pc := 76) dX4_init_76 rfl 0 rfl ?_
  refine c_sald (v := 30) (pc := 77) (by unfold vp_in; decide) (by decide) dX4_init_77 ?_
  refine c_imul (z := 300) (pc := 78) dX4_init_78 (by decide) ?_
  refine c_i2l (z := 300) (pc := 79) dX4_init_79 (by decide) ?_
  refine c_last (g := oHe 1) (ws1 := [(h0, .inr (4, [.ref zq1, .ref zq2, .ref zq3, .ref zq4, .ref zq5, .int 0, .int 0, .int 10, .long 0, .long 0])), (zq1, .inl (Y.2.2.2.2.1 1, 12, .inr (.inl (oHe 2)))), (zq2, .inl (Y.2.2.2.2.1 0, 4, .inl (fun _ => 0))), (zq3, .inl (Y.2.2.2.2.1 0, 4, .inl (fun _ => 0))), (zq4, .inl (Y.2.2.2.2.1 0, 30, .inl (fun _ => 0))), (zq5, .inl (Y.2.2.2.2.1 0, 30, .inl (fun _ => 0)))]) (pc := 80) 1 rfl (by unfold vp_in; decide) (by rw [show vp_updL (oHe 1) (Int32.toNatClampNeg 1) 300 = oHe 2 from rfl]; rfl) dX4_init_80 ?_
  refine c_iinc (v := 2) (lv1 := [(2, .int 2), (1, .int 0), (0, .ref h0)]) (pc := 81) dX4_init_81 0 rfl (by decide) (by decide) rfl ?_
  refine c_goto 57 (pc := 84) dX4_init_84 (by decide) ?_
  refine c_iload_n (pc := 57) dX4_init_57 rfl 0 rfl ?_
  refine c_iconst (v := 3) (pc := 58) dX4_init_58 (by decide) ?_
  refine c_icmp_ge_f (pc := 59) dX4_init_59 ⟨87, by decide⟩ (by decide) ?_
  refine c_aload_n (pc := 62) dX4_init_62 rfl 2 rfl ?_
  refine c_get (pc := 63) fd_RX4_9 0 kd_500 rfl rfl dX4_init_63 ?_
  refine c_iload_n (pc := 66) dX4_init_66 rfl 1 rfl ?_
  refine c_iconst (v := 3) (pc := 67) dX4_init_67 (by decide) ?_
  refine c_imul (z := 0) (pc := 68) dX4_init_68 (by decide) ?_
  refine c_iload_n (pc := 69) dX4_init_69 rfl 0 rfl ?_
  refine c_iadd (z := 2) (pc := 70) dX4_init_70 (by decide) ?_
  refine c_bipush (v := 10) (pc := 71) dX4_init_71 (by decide) ?_
  refine c_getsN (host := "VillageOven") (pc := 73) (by decide +kernel) dX4_init_73 ?_
  refine c_iload_n (pc := 76) dX4_init_76 rfl 0 rfl ?_
  refine c_sald (v := 60) (pc := 77) (by unfold vp_in; decide) (by decide) dX4_init_77 ?_
  refine c_imul (z := 600) (pc := 78) dX4_init_78 (by decide) ?_
  refine c_i2l (z := 600) (pc := 79) dX4_init_79 (by decide) ?_
  refine c_last (g := oHe 2) (ws1 := [(h0, .inr (4, [.ref zq1, .ref zq2, .ref zq3, .ref zq4, .ref zq5, .int 0, .int 0, .int 10, .long 0, .long 0])), (zq1, .inl (Y.2.2.2.2.1 1, 12, .inr (.inl (oHe 3)))), (zq2, .inl (Y.2.2.2.2.1 0, 4, .inl (fun _ => 0))), (zq3, .inl (Y.2.2.2.2.1 0, 4, .inl (fun _ => 0))), (zq4, .inl (Y.2.2.2.2.1 0, 30, .inl (fun _ => 0))), (zq5, .inl (Y.2.2.2.2.1 0, 30, .inl (fun _ => 0)))]) (pc := 80) 1 rfl (by unfold vp_in; decide) (by rw [show vp_updL (oHe 2) (Int32.toNatClampNeg 2) 600 = oHe 3 from rfl]; rfl) dX4_init_80 ?_
  refine c_iinc (v := 3) (lv1 := [(2, .int 3), (1, .int 0), (0, .ref h0)]) (pc := 81) dX4_init_81 0 rfl (by decide) (by decide) rfl ?_
  refine c_goto 57 (pc := 84) dX4_init_84 (by decide) ?_
  refine c_iload_n (pc := 57) dX4_init_57 rfl 0 rfl ?_
  refine c_iconst (v := 3) (pc := 58) dX4_init_58 (by decide) ?_
  refine c_icmp_ge_t 87 (pc := 59) dX4_init_59 (by decide) (by decide) ?_
  refine c_iinc (v := 1) (lv1 := [(1, .int 1), (2, .int 3), (0, .ref h0)]) (pc := 87) dX4_init_87 1 rfl (by decide) (by decide) rfl ?_
  refine c_goto 50 (pc := 90) dX4_init_90 (by decide) ?_
  refine c_iload_n (pc := 50) dX4_init_50 rfl 0 rfl ?_
  refine c_iconst (v := 4) (pc := 51) dX4_init_51 (by decide) ?_
  refine c_icmp_ge_f (pc := 52) dX4_init_52 ⟨93, by decide⟩ (by decide) ?_
  refine c_iconst (v := 0) (pc := 55) dX4_init_55 (by decide) ?_
  refine c_istore_n (lv1 := [(2, .int 0), (1, .int 1), (0, .ref h0)]) (pc := 56) dX4_init_56 rfl (by decide) rfl ?_
  refine c_iload_n (pc := 57) dX4_init_57 rfl 0 rfl ?_
  refine c_iconst (v := 3) (pc := 58) dX4_init_58 (by decide) ?_
  refine c_icmp_ge_f (pc := 59) dX4_init_59 ⟨87, by decide⟩ (by decide) ?_
  refine c_aload_n (pc := 62) dX4_init_62 rfl 2 rfl ?_
  refine c_get (pc := 63) fd_RX4_9 0 kd_500 rfl rfl dX4_init_63 ?_
  refine c_iload_n (pc := 66) dX4_init_66 rfl 1 rfl ?_
  refine c_iconst (v := 3) (pc := 67) dX4_init_67 (by decide) ?_
  refine c_imul (z := 3) (pc := 68) dX4_init_68 (by decide) ?_
  refine c_iload_n (pc := 69) dX4_init_69 rfl 0 rfl ?_
  refine c_iadd (z := 3) (pc := 70) dX4_init_70 (by decide) ?_
  refine c_bipush (v := 10) (pc := 71) dX4_init_71 (by decide) ?_
  refine c_getsN (host := "VillageOven") (pc := 73) (by decide +kernel) dX4_init_73 ?_
  refine c_iload_n (pc := 76) dX4_init_76 rfl 0 rfl ?_
  refine c_sald (v := 10) (pc := 77) (by unfold vp_in; decide) (by decide) dX4_init_77 ?_
  refine c_imul (z := 100) (pc := 78) dX4_init_78 (by decide) ?_
  refine c_i2l (z := 100) (pc := 79) dX4_init_79 (by decide) ?_
  refine c_last (g := oHe 3) (ws1 := [(h0, .inr (4, [.ref zq1, .ref zq2, .ref zq3, .ref zq4, .ref zq5, .int 0, .int 0, .int 10, .long 0, .long 0])), (zq1, .inl (Y.2.2.2.2.1 1, 12, .inr (.inl (oHe 4)))), (zq2, .inl (Y.2.2.2.2.1 0, 4, .inl (fun _ => 0))), (zq3, .inl (Y.2.2.2.2.1 0, 4, .inl (fun _ => 0))), (zq4, .inl (Y.2.2.2.2.1 0, 30, .inl (fun _ => 0))), (zq5, .inl (Y.2.2.2.2.1 0, 30, .inl (fun _ => 0)))]) (pc := 80) 1 rfl (by unfold vp_in; decide) (by rw [show vp_updL (oHe 3) (Int32.toNatClampNeg 3) 100 = oHe 4 from rfl]; rfl) dX4_init_80 ?_
  refine c_iinc (v := 1) (lv1 := [(2, .int 1), (1, .int 1), (0, .ref h0)]) (pc := 81) dX4_init_81 0 rfl (by decide) (by decide) rfl ?_
  refine c_goto 57 (pc := 84) dX4_init_84 (by decide) ?_
  refine c_iload_n (pc := 57) dX4_init_57 rfl 0 rfl ?_
  refine c_iconst (v := 3) (pc := 58) dX4_init_58 (by decide) ?_
  refine c_icmp_ge_f (pc := 59) dX4_init_59 ⟨87, by decide⟩ (by decide) ?_
  refine c_aload_n (pc := 62) dX4_init_62 rfl 2 rfl ?_
  refine c_get (pc := 63) fd_RX4_9 0 kd_500 rfl rfl dX4_init_63 ?_
  refine c_iload_n (pc := 66) dX4_init_66 rfl 1 rfl ?_
  refine c_iconst (v := 3) (pc := 67) dX4_init_67 (by decide) ?_
  refine c_imul (z := 3) (pc := 68) dX4_init_68 (by decide) ?_
  refine c_iload_n (pc := 69) dX4_init_69 rfl 0 rfl ?_
  refine c_iadd (z := 4) (pc := 70) dX4_init_70 (by decide) ?_
  refine c_bipush (v := 10) (pc := 71) dX4_init_71 (by decide) ?_
  refine c_getsN (host := "VillageOven") (pc := 73) (by decide +kernel) dX4_init_73 ?_
  refine c_iload_n (pc := 76) dX4_init_76 rfl 0 rfl ?_
  refine c_sald (v := 30) (pc := 77) (by unfold vp_in; decide) (by decide) dX4_init_77 ?_
  refine c_imul (z := 300) (pc := 78) dX4_init_78 (by decide) ?_
  refine c_i2l (z := 300) (pc := 79) dX4_init_79 (by decide) ?_
  refine c_last (g := oHe 4) (ws1 := [(h0, .inr (4, [.ref zq1, .ref zq2, .ref zq3, .ref zq4, .ref zq5, .int 0, .int 0, .int 10, .long 0, .long 0])), (zq1, .inl (Y.2.2.2.2.1 1, 12, .inr (.inl (oHe 5)))), (zq2, .inl (Y.2.2.2.2.1 0, 4, .inl (fun _ => 0))), (zq3, .inl (Y.2.2.2.2.1 0, 4, .inl (fun _ => 0))), (zq4, .inl (Y.2.2.2.2.1 0, 30, .inl (fun _ => 0))), (zq5, .inl (Y.2.2.2.2.1 0, 30, .inl (fun _ => 0)))]) (pc := 80) 1 rfl (by unfold vp_in; decide) (by rw [show vp_updL (oHe 4) (Int32.toNatClampNeg 4) 300 = oHe 5 from rfl]; rfl) dX4_init_80 ?_
  refine c_iinc (v := 2) (lv1 := [(2, .int 2), (1, .int 1), (0, .ref h0)]) (pc := 81) dX4_init_81 0 rfl (by decide) (by decide) rfl ?_
  refine c_goto 57 (pc := 84) dX4_init_84 (by decide) ?_
  refine c_iload_n (pc := 57) dX4_init_57 rfl 0 rfl ?_
  refine c_iconst (v := 3) (pc := 58) dX4_init_58 (by decide) ?_
  refine c_icmp_ge_f (pc := 59) dX4_init_59 ⟨87, by decide⟩ (by decide) ?_
  refine c_aload_n (pc := 62) dX4_init_62 rfl 2 rfl ?_
  refine c_get (pc := 63) fd_RX4_9 0 kd_500 rfl rfl dX4_init_63 ?_
  refine c_iload_n (pc := 66) dX4_init_66 rfl 1 rfl ?_
  refine c_iconst (v := 3) (pc := 67) dX4_init_67 (by decide) ?_
  refine c_imul (z := 3) (pc := 68) dX4_init_68 (by decide) ?_
  refine c_iload_n (pc := 69) dX4_init_69 rfl 0 rfl ?_
  refine c_iadd (z := 5) (pc := 70) dX4_init_70 (by decide) ?_
  refine c_bipush (v := 10) (pc := 71) dX4_init_71 (by decide) ?_
  refine c_getsN (host := "VillageOven") (pc := 73) (by decide +kernel) dX4_init_73 ?_
  refine c_iload_n (pc := 76) dX4_init_76 rfl 0 rfl ?_
  refine c_sald (v := 60) (pc := 77) (by unfold vp_in; decide) (by decide) dX4_init_77 ?_
  refine c_imul (z := 600) (pc := 78) dX4_init_78 (by decide) ?_
  refine c_i2l (z := 600) (pc := 79) dX4_init_79 (by decide) ?_
  refine c_last (g := oHe 5) (ws1 := [(h0, .inr (4, [.ref zq1, .ref zq2, .ref zq3, .ref zq4, .ref zq5, .int 0, .int 0, .int 10, .long 0, .long 0])), (zq1, .inl (Y.2.2.2.2.1 1, 12, .inr (.inl (oHe 6)))), (zq2, .inl (Y.2.2.2.2.1 0, 4, .inl (fun _ => 0))), (zq3, .inl (Y.2.2.2.2.1 0, 4, .inl (fun _ => 0))), (zq4, .inl (Y.2.2.2.2.1 0, 30, .inl (fun _ => 0))), (zq5, .inl (Y.2.2.2.2.1 0, 30, .inl (fun _ => 0)))]) (pc := 80) 1 rfl (by unfold vp_in; decide) (by rw [show vp_updL (oHe 5) (Int32.toNatClampNeg 5) 600 = oHe 6 from rfl]; rfl) dX4_init_80 ?_
  refine c_iinc (v := 3) (lv1 := [(2, .int 3), (1, .int 1), (0, .ref h0)]) (pc := 81) dX4_init_81 0 rfl (by decide) (by decide) rfl ?_
  refine c_goto 57 (pc := 84) dX4_init_84 (by decide) ?_
  refine c_iload_n (pc := 57) dX4_init_57 rfl 0 rfl ?_
  refine c_iconst (v := 3) (pc := 58) dX4_init_58 (by decide) ?_
  refine c_icmp_ge_t 87 (pc := 59) dX4_init_59 (by decide) (by decide) ?_
  refine c_iinc (v := 2) (lv1 := [(1, .int 2), (2, .int 3), (0, .ref h0)]) (pc := 87) dX4_init_87 1 rfl (by decide) (by decide) rfl ?_
  refine c_goto 50 (pc := 90) dX4_init_90 (by decide) ?_
  refine c_iload_n (pc := 50) dX4_init_50 rfl 0 rfl ?_
  refine c_iconst (v := 4) (pc := 51) dX4_init_51 (by decide) ?_
  refine c_icmp_ge_f (pc := 52) dX4_init_52 ⟨93, by decide⟩ (by decide) ?_
  refine c_iconst (v := 0) (pc := 55) dX4_init_55 (by decide) ?_
  refine c_istore_n (lv1 := [(2, .int 0), (1, .int 2), (0, .ref h0)]) (pc := 56) dX4_init_56 rfl (by decide) rfl ?_
  refine c_iload_n (pc := 57) dX4_init_57 rfl 0 rfl ?_
  refine c_iconst (v := 3) (pc := 58) dX4_init_58 (by decide) ?_
  refine c_icmp_ge_f (pc := 59) dX4_init_59 ⟨87, by decide⟩ (by decide) ?_
  refine c_aload_n (pc := 62) dX4_init_62 rfl 2 rfl ?_
  refine c_get (pc := 63) fd_RX4_9 0 kd_500 rfl rfl dX4_init_63 ?_
  refine c_iload_n (pc := 66) dX4_init_66 rfl 1 rfl ?_
  refine c_iconst (v := 3) (pc := 67) dX4_init_67 (by decide) ?_
  refine c_imul (z := 6) (pc := 68) dX4_init_68 (by decide) ?_
  refine c_iload_n (pc := 69) dX4_init_69 rfl 0 rfl ?_
  refine c_iadd (z := 6) (pc := 70) dX4_init_70 (by decide) ?_
  refine c_bipush (v := 10) (pc := 71) dX4_init_71 (by decide) ?_
  refine c_getsN (host := "VillageOven") (pc := 73) (by decide +kernel) dX4_init_73 ?_
  refine c_iload_n (pc := 76) dX4_init_76 rfl 0 rfl ?_
  refine c_sald (v := 10) (pc := 77) (by unfold vp_in; decide) (by decide) dX4_init_77 ?_
  refine c_imul (z := 100) (pc := 78) dX4_init_78 (by decide) ?_
  refine c_i2l (z := 100) (pc := 79) dX4_init_79 (by decide) ?_
  refine c_last (g := oHe 6) (ws1 := [(h0, .inr (4, [.ref zq1, .ref zq2, .ref zq3, .ref zq4, .ref zq5, .int 0, .int 0, .int 10, .long 0, .long 0])), (zq1, .inl (Y.2.2.2.2.1 1, 12, .inr (.inl (oHe 7)))), (zq2, .inl (Y.2.2.2.2.1 0, 4, .inl (fun _ => 0))), (zq3, .inl (Y.2.2.2.2.1 0, 4, .inl (fun _ => 0))), (zq4, .inl (Y.2.2.2.2.1 0, 30, .inl (fun _ => 0))), (zq5, .inl (Y.2.2.2.2.1 0, 30, .inl (fun _ => 0)))]) (pc := 80) 1 rfl (by unfold vp_in; decide) (by rw [show vp_updL (oHe 6) (Int32.toNatClampNeg 6) 100 = oHe 7 from rfl]; rfl) dX4_init_80 ?_
  refine c_iinc (v := 1) (lv1 := [(2, .int 1), (1, .int 2), (0, .ref h0)]) (pc := 81) dX4_init_81 0 rfl (by decide) (by decide) rfl ?_
  refine c_goto 57 (pc := 84) dX4_init_84 (by decide) ?_
  refine c_iload_n (pc := 57) dX4_init_57 rfl 0 rfl ?_
  refine c_iconst (v := 3) (pc := 58) dX4_init_58 (by decide) ?_
  refine c_icmp_ge_f (pc := 59) dX4_init_59 ⟨87, by decide⟩ (by decide) ?_
  refine c_aload_n (pc := 62) dX4_init_62 rfl 2 rfl ?_
  refine c_get (pc := 63) fd_RX4_9 0 kd_500 rfl rfl dX4_init_63 ?_
  refine c_iload_n (pc := 66) dX4_init_66 rfl 1 rfl ?_
  refine c_iconst (v := 3) (pc := 67) dX4_init_67 (by decide) ?_
  refine c_imul (z := 6) (pc := 68) dX4_init_68 (by decide) ?_
  refine c_iload_n (pc := 69) dX4_init_69 rfl 0 rfl ?_
  refine c_iadd (z := 7) (pc := 70) dX4_init_70 (by decide) ?_
  refine c_bipush (v := 10) (pc := 71) dX4_init_71 (by decide) ?_
  refine c_getsN (host := "VillageOven") (pc := 73) (by decide +kernel) dX4_init_73 ?_
  refine c_iload_n (pc := 76) dX4_init_76 rfl 0 rfl ?_
  refine c_sald (v := 30) (pc := 77) (by unfold vp_in; decide) (by decide) dX4_init_77 ?_
  refine c_imul (z := 300) (pc := 78) dX4_init_78 (by decide) ?_
  refine c_i2l (z := 300) (pc := 79) dX4_init_79 (by decide) ?_
  refine c_last (g := oHe 7) (ws1 := [(h0, .inr (4, [.ref zq1, .ref zq2, .ref zq3, .ref zq4, .ref zq5, .int 0, .int 0, .int 10, .long 0, .long 0])), (zq1, .inl (Y.2.2.2.2.1 1, 12, .inr (.inl (oHe 8)))), (zq2, .inl (Y.2.2.2.2.1 0, 4, .inl (fun _ => 0))), (zq3, .inl (Y.2.2.2.2.1 0, 4, .inl (fun _ => 0))), (zq4, .inl (Y.2.2.2.2.1 0, 30, .inl (fun _ => 0))), (zq5, .inl (Y.2.2.2.2.1 0, 30, .inl (fun _ => 0)))]) (pc := 80) 1 rfl (by unfold vp_in; decide) (by rw [show vp_updL (oHe 7) (Int32.toNatClampNeg 7) 300 = oHe 8 from rfl]; rfl) dX4_init_80 ?_
  refine c_iinc (v := 2) (lv1 := [(2, .int 2), (1, .int 2), (0, .ref h0)]) (pc := 81) dX4_init_81 0 rfl (by decide) (by decide) rfl ?_
  refine c_goto 57 (pc := 84) dX4_init_84 (by decide) ?_
  refine c_iload_n (pc := 57) dX4_init_57 rfl 0 rfl ?_
  refine c_iconst (v := 3) (pc := 58) dX4_init_58 (by decide) ?_
  refine c_icmp_ge_f (pc := 59) dX4_init_59 ⟨87, by decide⟩ (by decide) ?_
  refine c_aload_n (pc := 62) dX4_init_62 rfl 2 rfl ?_
  refine c_get (pc := 63) fd_RX4_9 0 kd_500 rfl rfl dX4_init_63 ?_
  refine c_iload_n (pc := 66) dX4_init_66 rfl 1 rfl ?_
  refine c_iconst (v := 3) (pc := 67) dX4_init_67 (by decide) ?_
  refine c_imul (z := 6) (pc := 68) dX4_init_68 (by decide) ?_
  refine c_iload_n (pc := 69) dX4_init_69 rfl 0 rfl ?_
  refine c_iadd (z := 8) (pc := 70) dX4_init_70 (by decide) ?_
  refine c_bipush (v := 10) (pc := 71) dX4_init_71 (by decide) ?_
  refine c_getsN (host := "VillageOven") (pc := 73) (by decide +kernel) dX4_init_73 ?_
  refine c_iload_n (pc := 76) dX4_init_76 rfl 0 rfl ?_
  refine c_sald (v := 60) (pc := 77) (by unfold vp_in; decide) (by decide) dX4_init_77 ?_
  refine c_imul (z := 600) (pc := 78) dX4_init_78 (by decide) ?_
  refine c_i2l (z := 600) (pc := 79) dX4_init_79 (by decide) ?_
  refine c_last (g := oHe 8) (ws1 := [(h0, .inr (4, [.ref zq1, .ref zq2, .ref zq3, .ref zq4, .ref zq5, .int 0, .int 0, .int 10, .long 0, .long 0])), (zq1, .inl (Y.2.2.2.2.1 1, 12, .inr (.inl (oHe 9)))), (zq2, .inl (Y.2.2.2.2.1 0, 4, .inl (fun _ => 0))), (zq3, .inl (Y.2.2.2.2.1 0, 4, .inl (fun _ => 0))), (zq4, .inl (Y.2.2.2.2.1 0, 30, .inl (fun _ => 0))), (zq5, .inl (Y.2.2.2.2.1 0, 30, .inl (fun _ => 0)))]) (pc := 80) 1 rfl (by unfold vp_in; decide) (by rw [show vp_updL (oHe 8) (Int32.toNatClampNeg 8) 600 = oHe 9 from rfl]; rfl) dX4_init_80 ?_
  refine c_iinc (v := 3) (lv1 := [(2, .int 3), (1, .int 2), (0, .ref h0)]) (pc := 81) dX4_init_81 0 rfl (by decide) (by decide) rfl ?_
  refine c_goto 57 (pc := 84) dX4_init_84 (by decide) ?_
  refine c_iload_n (pc := 57) dX4_init_57 rfl 0 rfl ?_
  refine c_iconst (v := 3) (pc := 58) dX4_init_58 (by decide) ?_
  refine c_icmp_ge_t 87 (pc := 59) dX4_init_59 (by decide) (by decide) ?_
  refine c_iinc (v := 3) (lv1 := [(1, .int 3), (2, .int 3), (0, .ref h0)]) (pc := 87) dX4_init_87 1 rfl (by decide) (by decide) rfl ?_
  refine c_goto 50 (pc := 90) dX4_init_90 (by decide) ?_
  refine c_iload_n (pc := 50) dX4_init_50 rfl 0 rfl ?_
  refine c_iconst (v := 4) (pc := 51) dX4_init_51 (by decide) ?_
  refine c_icmp_ge_f (pc := 52) dX4_init_52 ⟨93, by decide⟩ (by decide) ?_
  refine c_iconst (v := 0) (pc := 55) dX4_init_55 (by decide) ?_
  refine c_istore_n (lv1 := [(2, .int 0), (1, .int 3), (0, .ref h0)]) (pc := 56) dX4_init_56 rfl (by decide) rfl ?_
  refine c_iload_n (pc := 57) dX4_init_57 rfl 0 rfl ?_
  refine c_iconst (v := 3) (pc := 58) dX4_init_58 (by decide) ?_
  refine c_icmp_ge_f (pc := 59) dX4_init_59 ⟨87, by decide⟩ (by decide) ?_
  refine c_aload_n (pc := 62) dX4_init_62 rfl 2 rfl ?_
  refine c_get (pc := 63) fd_RX4_9 0 kd_500 rfl rfl dX4_init_63 ?_
  refine c_iload_n (pc := 66) dX4_init_66 rfl 1 rfl ?_
  refine c_iconst (v := 3) (pc := 67) dX4_init_67 (by decide) ?_
  refine c_imul (z := 9) (pc := 68) dX4_init_68 (by decide) ?_
  refine c_iload_n (pc := 69) dX4_init_69 rfl 0 rfl ?_
  refine c_iadd (z := 9) (pc := 70) dX4_init_70 (by decide) ?_
  refine c_bipush (v := 10) (pc := 71) dX4_init_71 (by decide) ?_
  refine c_getsN (host := "VillageOven") (pc := 73) (by decide +kernel) dX4_init_73 ?_
  refine c_iload_n (pc := 76) dX4_init_76 rfl 0 rfl ?_
  refine c_sald (v := 10) (pc := 77) (by unfold vp_in; decide) (by decide) dX4_init_77 ?_
  refine c_imul (z := 100) (pc := 78) dX4_init_78 (by decide) ?_
  refine c_i2l (z := 100) (pc := 79) dX4_init_79 (by decide) ?_
  refine c_last (g := oHe 9) (ws1 := [(h0, .inr (4, [.ref zq1, .ref zq2, .ref zq3, .ref zq4, .ref zq5, .int 0, .int 0, .int 10, .long 0, .long 0])), (zq1, .inl (Y.2.2.2.2.1 1, 12, .inr (.inl (oHe 10)))), (zq2, .inl (Y.2.2.2.2.1 0, 4, .inl (fun _ => 0))), (zq3, .inl (Y.2.2.2.2.1 0, 4, .inl (fun _ => 0))), (zq4, .inl (Y.2.2.2.2.1 0, 30, .inl (fun _ => 0))), (zq5, .inl (Y.2.2.2.2.1 0, 30, .inl (fun _ => 0)))]) (pc := 80) 1 rfl (by unfold vp_in; decide) (by rw [show vp_updL (oHe 9) (Int32.toNatClampNeg 9) 100 = oHe 10 from rfl]; rfl) dX4_init_80 ?_
  refine c_iinc (v := 1) (lv1 := [(2, .int 1), (1, .int 3), (0, .ref h0)]) (pc := 81) dX4_init_81 0 rfl (by decide) (by decide) rfl ?_
  refine c_goto 57 (pc := 84) dX4_init_84 (by decide) ?_
  refine c_iload_n (pc := 57) dX4_init_57 rfl 0 rfl ?_
  refine c_iconst (v := 3) (pc := 58) dX4_init_58 (by decide) ?_
  refine c_icmp_ge_f (pc := 59) dX4_init_59 ⟨87, by decide⟩ (by decide) ?_
  refine c_aload_n (pc := 62) dX4_init_62 rfl 2 rfl ?_
  refine c_get (pc := 63) fd_RX4_9 0 kd_500 rfl rfl dX4_init_63 ?_
  refine c_iload_n (pc := 66) dX4_init_66 rfl 1 rfl ?_
  refine c_iconst (v := 3) (pc := 67) dX4_init_67 (by decide) ?_
  refine c_imul (z := 9) (pc := 68) dX4_init_68 (by decide) ?_
  refine c_iload_n (pc := 69) dX4_init_69 rfl 0 rfl ?_
  refine c_iadd (z := 10) (pc := 70) dX4_init_70 (by decide) ?_
  refine c_bipush (v := 10) (pc := 71) dX4_init_71 (by decide) ?_
  refine c_getsN (host := "VillageOven") (pc := 73) (by decide +kernel) dX4_init_73 ?_
  refine c_iload_n (pc := 76) dX4_init_76 rfl 0 rfl ?_
  refine c_sald (v := 30) (pc := 77) (by unfold vp_in; decide) (by decide) dX4_init_77 ?_
  refine c_imul (z := 300) (pc := 78) dX4_init_78 (by decide) ?_
  refine c_i2l (z := 300) (pc := 79) dX4_init_79 (by decide) ?_
  refine c_last (g := oHe 10) (ws1 := [(h0, .inr (4, [.ref zq1, .ref zq2, .ref zq3, .ref zq4, .ref zq5, .int 0, .int 0, .int 10, .long 0, .long 0])), (zq1, .inl (Y.2.2.2.2.1 1, 12, .inr (.inl (oHe 11)))), (zq2, .inl (Y.2.2.2.2.1 0, 4, .inl (fun _ => 0))), (zq3, .inl (Y.2.2.2.2.1 0, 4, .inl (fun _ => 0))), (zq4, .inl (Y.2.2.2.2.1 0, 30, .inl (fun _ => 0))), (zq5, .inl (Y.2.2.2.2.1 0, 30, .inl (fun _ => 0)))]) (pc := 80) 1 rfl (by unfold vp_in; decide) (by rw [show vp_updL (oHe 10) (Int32.toNatClampNeg 10) 300 = oHe 11 from rfl]; rfl) dX4_init_80 ?_
  refine c_iinc (v := 2) (lv1 := [(2, .int 2), (1, .int 3), (0, .ref h0)]) (pc := 81) dX4_init_81 0 rfl (by decide) (by decide) rfl ?_
  refine c_goto 57 (pc := 84) dX4_init_84 (by decide) ?_
  refine c_iload_n (pc := 57) dX4_init_57 rfl 0 rfl ?_
  refine c_iconst (v := 3) (pc := 58) dX4_init_58 (by decide) ?_
  refine c_icmp_ge_f (pc := 59) dX4_init_59 ⟨87, by decide⟩ (by decide) ?_
  refine c_aload_n (pc := 62) dX4_init_62 rfl 2 rfl ?_
  refine c_get (pc := 63) fd_RX4_9 0 kd_500 rfl rfl dX4_init_63 ?_
  refine c_iload_n (pc := 66) dX4_init_66 rfl 1 rfl ?_
  refine c_iconst (v := 3) (pc := 67) dX4_init_67 (by decide) ?_
  refine c_imul (z := 9) (pc := 68) dX4_init_68 (by decide) ?_
  refine c_iload_n (pc := 69) dX4_init_69 rfl 0 rfl ?_
  refine c_iadd (z := 11) (pc := 70) dX4_init_70 (by decide) ?_
  refine c_bipush (v := 10) (pc := 71) dX4_init_71 (by decide) ?_
  refine c_getsN (host := "VillageOven") (pc := 73) (by decide +kernel) dX4_init_73 ?_
  refine c_iload_n (pc := 76) dX4_init_76 rfl 0 rfl ?_
  refine c_sald (v := 60) (pc := 77) (by unfold vp_in; decide) (by decide) dX4_init_77 ?_
  refine c_imul (z := 600) (pc := 78) dX4_init_78 (by decide) ?_
  refine c_i2l (z := 600) (pc := 79) dX4_init_79 (by decide) ?_
  refine c_last (g := oHe 11) (ws1 := [(h0, .inr (4, [.ref zq1, .ref zq2, .ref zq3, .ref zq4, .ref zq5, .int 0, .int 0, .int 10, .long 0, .long 0])), (zq1, .inl (Y.2.2.2.2.1 1, 12, .inr (.inl (oHe 12)))), (zq2, .inl (Y.2.2.2.2.1 0, 4, .inl (fun _ => 0))), (zq3, .inl (Y.2.2.2.2.1 0, 4, .inl (fun _ => 0))), (zq4, .inl (Y.2.2.2.2.1 0, 30, .inl (fun _ => 0))), (zq5, .inl (Y.2.2.2.2.1 0, 30, .inl (fun _ => 0)))]) (pc := 80) 1 rfl (by unfold vp_in; decide) (by rw [show vp_updL (oHe 11) (Int32.toNatClampNeg 11) 600 = oHe 12 from rfl]; rfl) dX4_init_80 ?_
  refine c_iinc (v := 3) (lv1 := [(2, .int 3), (1, .int 3), (0, .ref h0)]) (pc := 81) dX4_init_81 0 rfl (by decide) (by decide) rfl ?_
  refine c_goto 57 (pc := 84) dX4_init_84 (by decide) ?_
  refine c_iload_n (pc := 57) dX4_init_57 rfl 0 rfl ?_
  refine c_iconst (v := 3) (pc := 58) dX4_init_58 (by decide) ?_
  refine c_icmp_ge_t 87 (pc := 59) dX4_init_59 (by decide) (by decide) ?_
  refine c_iinc (v := 4) (lv1 := [(1, .int 4), (2, .int 3), (0, .ref h0)]) (pc := 87) dX4_init_87 1 rfl (by decide) (by decide) rfl ?_
  refine c_goto 50 (pc := 90) dX4_init_90 (by decide) ?_
  refine c_iload_n (pc := 50) dX4_init_50 rfl 0 rfl ?_
  refine c_iconst (v := 4) (pc := 51) dX4_init_51 (by decide) ?_
  refine c_icmp_ge_t 93 (pc := 52) dX4_init_52 (by decide) (by decide) ?_
  refine c_ret (pc := 93) hE rfl dX4_init_93 ⟨zq1, zq2, zq3, zq4, zq5, rfl⟩
set_option maxRecDepth 100000 in
set_option maxHeartbeats 1000000 in
theorem k_X6 (D : va_G) (cA : Nat → ClassId) (ms : Nat) (h0 : Nat) (sz : Nat) : kCt D cA ms 1 5 128 yX6_init mX6_init [.ref h0] [(h0, .inr (6, [.null, .null, .null, .null, .null, .int 0, .int 0, .int 0, .int 0, .int 0]))] sz (fun w => ∃ (zq1 : Nat) (zq2 : Nat) (zq3 : Nat) (zq4 : Nat) (zq5 : Nat), w = [(h0, .inr (6, [.ref zq1, .ref zq2, .ref zq3, .ref zq4, .ref zq5, .int 0, .int 4, .int 0, .int 0, .int 3])), (zq1, .inl (cA 0, 30, .inl (fun _ => 0))), (zq2, .inl (cA 0, 30, .inl (fun _ => 0))), (zq3, .inl (cA 0, 30, .inl (fun _ => 0))), (zq4, .inl (cA 2, 30, .inl (fun _ => 0))), (zq5, .inl (cA 0, 8, .inl (fun _ => 0)))]) := by
  refine kCt_of (by decide) rfl rfl (Nat.le_of_ble_eq_true rfl) ?_
  intro Y hD0 hcA hI hE hR
  subst hD0; subst hcA
  show oKv Y mX6_init 0 [(0, .ref h0)] [] [(h0, .inr (6, [.null, .null, .null, .null, .null, .int 0, .int 0, .int 0, .int 0, .int 0]))] 0 0
  refine c_aload_n (pc := 0) dX6_init_0 rfl 0 rfl ?_
  refine c_objInit (pc := 1) (hR.lo (by decide)) wd_271 wd_19 wd_20 dX6_init_1 ?_
  refine c_aload_n (pc := 4) dX6_init_4 rfl 0 rfl ?_
  refine c_bipush (v := 30) (pc := 5) dX6_init_5 (by decide) ?_
  refine c_newa (atype := .int) (N := 30) (pc := 7) (k := 0) (n := 0) 0 (30, .inl (fun _ => 0)) ⟨Nat.le_trans (by decide) hR.2.2.1, Nat.le_trans (by decide) hR.2.2.2⟩ wd_69 rfl (fun _ => rfl) (fun _ => rfl) (by decide) (by decide) (by decide) dX6_init_7 (fun zq1 => ?_)
  show oKv Y mX6_init 9 [(0, .ref h0)] [.ref zq1, .ref h0] [(h0, .inr (6, [.null, .null, .null, .null, .null, .int 0, .int 0, .int 0, .int 0, .int 0])), (zq1, .inl (Y.2.2.2.2.1 0, 30, .inl (fun _ => 0)))] 1 30
  refine c_putF (ws1 := [(h0, .inr (6, [.ref zq1, .null, .null, .null, .null, .int 0, .int 0, .int 0, .int 0, .int 0])), (zq1, .inl (Y.2.2.2.2.1 0, 30, .inl (fun _ => 0)))]) (pc := 9) hI fd_RX6_9 ff_700_0 0 kd_700 rfl rfl rfl (Nat.le_of_ble_eq_true rfl) rfl dX6_init_9 ?_
  refine c_aload_n (pc := 12) dX6_init_12 rfl 0 rfl ?_
  refine c_bipush (v := 30) (pc := 13) dX6_init_13 (by decide) ?_
  refine c_newa (atype := .int) (N := 30) (pc := 15) (k := 1) (n := 30) 0 (30, .inl (fun _ => 0)) ⟨Nat.le_trans (by decide) hR.2.2.1, Nat.le_trans (by decide) hR.2.2.2⟩ wd_69 rfl (fun _ => rfl) (fun _ => rfl) (by decide) (by decide) (by decide) dX6_init_15 (fun zq2 => ?_)
  show oKv Y mX6_init 17 [(0, .ref h0)] [.ref zq2, .ref h0] [(h0, .inr (6, [.ref zq1, .null, .null, .null, .null, .int 0, .int 0, .int 0, .int 0, .int 0])), (zq1, .inl (Y.2.2.2.2.1 0, 30, .inl (fun _ => 0))), (zq2, .inl (Y.2.2.2.2.1 0, 30, .inl (fun _ => 0)))] 2 60
  refine c_putF (ws1 := [(h0, .inr (6, [.ref zq1, .ref zq2, .null, .null, .null, .int 0, .int 0, .int 0, .int 0, .int 0])), (zq1, .inl (Y.2.2.2.2.1 0, 30, .inl (fun _ => 0))), (zq2, .inl (Y.2.2.2.2.1 0, 30, .inl (fun _ => 0)))]) (pc := 17) hI fd_RX6_15 ff_700_1 0 kd_700 rfl rfl rfl (Nat.le_of_ble_eq_true rfl) rfl dX6_init_17 ?_
  refine c_aload_n (pc := 20) dX6_init_20 rfl 0 rfl ?_
  refine c_bipush (v := 30) (pc := 21) dX6_init_21 (by decide) ?_
  refine c_newa (atype := .int) (N := 30) (pc := 23) (k := 2) (n := 60) 0 (30, .inl (fun _ => 0)) ⟨Nat.le_trans (by decide) hR.2.2.1, Nat.le_trans (by decide) hR.2.2.2⟩ wd_69 rfl (fun _ => rfl) (fun _ => rfl) (by decide) (by decide) (by decide) dX6_init_23 (fun zq3 => ?_)
  show oKv Y mX6_init 25 [(0, .ref h0)] [.ref zq3, .ref h0] [(h0, .inr (6, [.ref zq1, .ref zq2, .null, .null, .null, .int 0, .int 0, .int 0, .int 0, .int 0])), (zq1, .inl (Y.2.2.2.2.1 0, 30, .inl (fun _ => 0))), (zq2, .inl (Y.2.2.2.2.1 0, 30, .inl (fun _ => 0))), (zq3, .inl (Y.2.2.2.2.1 0, 30, .inl (fun _ => 0)))] 3 90
  refine c_putF (ws1 := [(h0, .inr (6, [.ref zq1, .ref zq2, .ref zq3, .null, .null, .int 0, .int 0, .int 0, .int 0, .int 0])), (zq1, .inl (Y.2.2.2.2.1 0, 30, .inl (fun _ => 0))), (zq2, .inl (Y.2.2.2.2.1 0, 30, .inl (fun _ => 0))), (zq3, .inl (Y.2.2.2.2.1 0, 30, .inl (fun _ => 0)))]) (pc := 25) hI fd_RX6_18 ff_700_2 0 kd_700 rfl rfl rfl (Nat.le_of_ble_eq_true rfl) rfl dX6_init_25 ?_
  refine c_aload_n (pc := 28) dX6_init_28 rfl 0 rfl ?_
  refine c_bipush (v := 30) (pc := 29) dX6_init_29 (by decide) ?_
  refine c_newa (atype := .boolean) (N := 30) (pc := 31) (k := 3) (n := 90) 2 (30, .inl (fun _ => 0)) ⟨Nat.le_trans (by decide) hR.2.2.1, Nat.le_trans (by decide) hR.2.2.2⟩ wd_114 rfl (fun _ => rfl) (fun _ => rfl) (by decide) (by decide) (by decide) dX6_init_31 (fun zq4 => ?_)
  show oKv Y mX6_init 33 [(0, .ref h0)] [.ref zq4, .ref h0] [(h0, .inr (6, [.ref zq1, .ref zq2, .ref zq3, .null, .null, .int 0, .int 0, .int 0, .int 0, .int 0])), (zq1, .inl (Y.2.2.2.2.1 0, 30, .inl (fun _ => 0))), (zq2, .inl (Y.2.2.2.2.1 0, 30, .inl (fun _ => 0))), (zq3, .inl (Y.2.2.2.2.1 0, 30, .inl (fun _ => 0))), (zq4, .inl (Y.2.2.2.2.1 2, 30, .inl (fun _ => 0)))] 4 120
  refine c_putF (ws1 := [(h0, .inr (6, [.ref zq1, .ref zq2, .ref zq3, .ref zq4, .null, .int 0, .int 0, .int 0, .int 0, .int 0])), (zq1, .inl (Y.2.2.2.2.1 0, 30, .inl (fun _ => 0))), (zq2, .inl (Y.2.2.2.2.1 0, 30, .inl (fun _ => 0))), (zq3, .inl (Y.2.2.2.2.1 0, 30, .inl (fun _ => 0))), (zq4, .inl (Y.2.2.2.2.1 2, 30, .inl (fun _ => 0)))]) (pc := 33) hI fd_RX6_21 ff_700_3 0 kd_700 rfl rfl rfl (Nat.le_of_ble_eq_true rfl) rfl dX6_init_33 ?_
  refine c_aload_n (pc := 36) dX6_init_36 rfl 0 rfl ?_
  refine c_bipush (v := 8) (pc := 37) dX6_init_37 (by decide) ?_
  refine c_newa (atype := .int) (N := 8) (pc := 39) (k := 4) (n := 120) 0 (8, .inl (fun _ => 0)) ⟨Nat.le_trans (by decide) hR.2.2.1, Nat.le_trans (by decide) hR.2.2.2⟩ wd_69 rfl (fun _ => rfl) (fun _ => rfl) (by decide) (by decide) (by decide) dX6_init_39 (fun zq5 => ?_)
  show oKv Y mX6_init 41 [(0, .ref h0)] [.ref zq5, .ref h0] [(h0, .inr (6, [.ref zq1, .ref zq2, .ref zq3, .ref zq4, .null, .int 0, .int 0, .int 0, .int 0, .int 0])), (zq1, .inl (Y.2.2.2.2.1 0, 30, .inl (fun _ => 0))), (zq2, .inl (Y.2.2.2.2.1 0, 30, .inl (fun _ => 0))), (zq3, .inl (Y.2.2.2.2.1 0, 30, .inl (fun _ => 0))), (zq4, .inl (Y.2.2.2.2.1 2, 30, .inl (fun _ => 0))), (zq5, .inl (Y.2.2.2.2.1 0, 8, .inl (fun _ => 0)))] 5 128
  refine c_putF (ws1 := [(h0, .inr (6, [.ref zq1, .ref zq2, .ref zq3, .ref zq4, .ref zq5, .int 0, .int 0, .int 0, .int 0, .int 0])), (zq1, .inl (Y.2.2.2.2.1 0, 30, .inl (fun _ => 0))), (zq2, .inl (Y.2.2.2.2.1 0, 30, .inl (fun _ => 0))), (zq3, .inl (Y.2.2.2.2.1 0, 30, .inl (fun _ => 0))), (zq4, .inl (Y.2.2.2.2.1 2, 30, .inl (fun _ => 0))), (zq5, .inl (Y.2.2.2.2.1 0, 8, .inl (fun _ => 0)))]) (pc := 41) hI fd_RX6_25 ff_700_4 0 kd_700 rfl rfl rfl (Nat.le_of_ble_eq_true rfl) rfl dX6_init_41 ?_
  refine c_aload_n (pc := 44) dX6_init_44 rfl 0 rfl ?_
  refine c_iconst (v := 4) (pc := 45) dX6_init_45 (by decide) ?_
  refine c_put (ws1 := [(h0, .inr (6, [.ref zq1, .ref zq2, .ref zq3, .ref zq4, .ref zq5, .int 0, .int 4, .int 0, .int 0, .int 0])), (zq1, .inl (Y.2.2.2.2.1 0, 30, .inl (fun _ => 0))), (zq2, .inl (Y.2.2.2.2.1 0, 30, .inl (fun _ => 0))), (zq3, .inl (Y.2.2.2.2.1 0, 30, .inl (fun _ => 0))), (zq4, .inl (Y.2.2.2.2.1 2, 30, .inl (fun _ => 0))), (zq5, .inl (Y.2.2.2.2.1 0, 8, .inl (fun _ => 0)))]) (pc := 46) fd_RX6_28 fp_700_6 0 kd_700 rfl rfl rfl (Nat.le_of_ble_eq_true rfl) rfl dX6_init_46 ?_
  refine c_aload_n (pc := 49) dX6_init_49 rfl 0 rfl ?_
  refine c_iconst (v := 0) (pc := 50) dX6_init_50 (by decide) ?_
  refine c_put (ws1 := [(h0, .inr (6, [.ref zq1, .ref zq2, .ref zq3, .ref zq4, .ref zq5, .int 0, .int 4, .int 0, .int 0, .int 0])), (zq1, .inl (Y.2.2.2.2.1 0, 30, .inl (fun _ => 0))), (zq2, .inl (Y.2.2.2.2.1 0, 30, .inl (fun _ => 0))), (zq3, .inl (Y.2.2.2.2.1 0, 30, .inl (fun _ => 0))), (zq4, .inl (Y.2.2.2.2.1 2, 30, .inl (fun _ => 0))), (zq5, .inl (Y.2.2.2.2.1 0, 8, .inl (fun _ => 0)))]) (pc := 51) fd_RX6_32 fp_700_7 0 kd_700 rfl rfl rfl (Nat.le_of_ble_eq_true rfl) rfl dX6_init_51 ?_
  refine c_aload_n (pc := 54) dX6_init_54 rfl 0 rfl ?_
  refine c_iconst (v := 3) (pc := 55) dX6_init_55 (by decide) ?_
  refine c_put (ws1 := [(h0, .inr (6, [.ref zq1, .ref zq2, .ref zq3, .ref zq4, .ref zq5, .int 0, .int 4, .int 0, .int 0, .int 3])), (zq1, .inl (Y.2.2.2.2.1 0, 30, .inl (fun _ => 0))), (zq2, .inl (Y.2.2.2.2.1 0, 30, .inl (fun _ => 0))), (zq3, .inl (Y.2.2.2.2.1 0, 30, .inl (fun _ => 0))), (zq4, .inl (Y.2.2.2.2.1 2, 30, .inl (fun _ => 0))), (zq5, .inl (Y.2.2.2.2.1 0, 8, .inl (fun _ => 0)))]) (pc := 56) fd_RX6_35 fp_700_9 0 kd_700 rfl rfl rfl (Nat.le_of_ble_eq_true rfl) rfl dX6_init_56 ?_
  refine c_ret (pc := 59) hE rfl dX6_init_59 ⟨zq1, zq2, zq3, zq4, zq5, rfl⟩
set_option maxRecDepth 100000 in
set_option maxHeartbeats 1000000 in
theorem k_X3 (D : va_G) (cA : Nat → ClassId) (ms : Nat) (h0 : Nat) (zk0 : Nat) (sz : Nat) : kCt D cA ms 2 11 1216 yX3_init mX3_init [.ref h0, .ref zk0] [(h0, .inr (3, [.null, .null, .null, .null, .null, .null, .null, .null, .int 0, .int 0, .int 0, .long 0, .int 0]))] sz (fun w => ∃ (zq1 : Nat) (zq2 : Nat) (zq3 : Nat) (zq4 : Nat) (zq5 : Nat) (zq6 : Nat) (zq7 : Nat) (zq8 : Nat) (zq9 : Nat) (zq10 : Nat) (zq11 : Nat), w = [(h0, .inr (3, [.ref zk0, .ref zq1, .ref zq2, .ref zq3, .ref zq4, .ref zq5, .ref zq6, .ref zq7, .int 0, .int 0, .int 0, .long 0, .int 0])), (zq1, .inl (cA 3, 4, .inr (.inr (.inr (.inr (va_up (va_up (va_up (va_up (fun _ => none) 0 (some zq8)) 1 (some zq9)) 2 (some zq10)) 3 (some zq11))))))), (zq2, .inl (cA 0, 200, .inl (fun _ => 0))), (zq3, .inl (cA 0, 200, .inl (fun _ => 0))), (zq4, .inl (cA 0, 200, .inl (fun _ => 0))), (zq5, .inl (cA 0, 200, .inl (fun _ => 0))), (zq6, .inl (cA 0, 200, .inl (fun _ => 0))), (zq7, .inl (cA 0, 200, .inl (fun _ => 0))), (zq8, .inr (2, [.int 0, .int 0, .int 0])), (zq9, .inr (2, [.int 0, .int 0, .int 0])), (zq10, .inr (2, [.int 0, .int 0, .int 0])), (zq11, .inr (2, [.int 0, .int 0, .int 0]))]) := by
  refine kCt_of (by decide) rfl rfl (Nat.le_of_ble_eq_true rfl) ?_
  intro Y hD0 hcA hI hE hR
  subst hD0; subst hcA
  show oKv Y mX3_init 0 [(0, .ref h0), (1, .ref zk0)] [] [(h0, .inr (3, [.null, .null, .null, .null, .null, .null, .null, .null, .int 0, .int 0, .int 0, .long 0, .int 0]))] 0 0
  refine c_aload_n (pc := 0) dX3_init_0 rfl 0 rfl ?_
  refine c_objInit (pc := 1) (hR.lo (by decide)) wd_120 wd_19 wd_20 dX3_init_1 ?_
  refine c_aload_n (pc := 4) dX3_init_4 rfl 0 rfl ?_
  refine c_iconst (v := 4) (pc := 5) dX3_init_5 (by decide) ?_
  refine c_newq (N := 4) (pc := 6) (k := 0) (n := 0) ⟨Nat.le_trans (by decide) hR.2.2.1, Nat.le_trans (by decide) hR.2.2.2⟩ wd_121 (by decide) (by decide) (by decide) dX3_init_6 (fun zq1 => ?_)
  show oKv Y mX3_init 9 [(0, .ref h0), (1, .ref zk0)] [.ref zq1, .ref h0] [(h0, .inr (3, [.null, .null, .null, .null, .null, .null, .null, .null, .int 0, .int 0, .int 0, .long 0, .int 0])), (zq1, .inl (Y.2.2.2.2.1 3, 4, .inr (.inr (.inr (.inr (fun _ => none))))))] 1 4
  refine c_putF (ws1 := [(h0, .inr (3, [.null, .ref zq1, .null, .null, .null, .null, .null, .null, .int 0, .int 0, .int 0, .long 0, .int 0])), (zq1, .inl (Y.2.2.2.2.1 3, 4, .inr (.inr (.inr (.inr (fun _ => none))))))]) (pc := 9) hI fd_RX3_11 ff_400_1 0 kd_400 rfl rfl rfl (Nat.le_of_ble_eq_true rfl) rfl dX3_init_9 ?_
  refine c_aload_n (pc := 12) dX3_init_12 rfl 0 rfl ?_
  refine c_sipush (v := 200) (pc := 13) dX3_init_13 (by decide) ?_
  refine c_newa (atype := .int) (N := 200) (pc := 16) (k := 1) (n := 4) 0 (200, .inl (fun _ => 0)) ⟨Nat.le_trans (by decide) hR.2.2.1, Nat.le_trans (by decide) hR.2.2.2⟩ wd_69 rfl (fun _ => rfl) (fun _ => rfl) (by decide) (by decide) (by decide) dX3_init_16 (fun zq2 => ?_)
  show oKv Y mX3_init 18 [(0, .ref h0), (1, .ref zk0)] [.ref zq2, .ref h0] [(h0, .inr (3, [.null, .ref zq1, .null, .null, .null, .null, .null, .null, .int 0, .int 0, .int 0, .long 0, .int 0])), (zq1, .inl (Y.2.2.2.2.1 3, 4, .inr (.inr (.inr (.inr (fun _ => none)))))), (zq2, .inl (Y.2.2.2.2.1 0, 200, .inl (fun _ => 0)))] 2 204
  refine c_putF (ws1 := [(h0, .inr (3, [.null, .ref zq1, .ref zq2, .null, .null, .null, .null, .null, .int 0, .int 0, .int 0, .long 0, .int 0])), (zq1, .inl (Y.2.2.2.2.1 3, 4, .inr (.inr (.inr (.inr (fun _ => none)))))), (zq2, .inl (Y.2.2.2.2.1 0, 200, .inl (fun _ => 0)))]) (pc := 18) hI fd_RX3_17 ff_400_2 0 kd_400 rfl rfl rfl (Nat.le_of_ble_eq_true rfl) rfl dX3_init_18 ?_
  refine c_aload_n (pc := 21) dX3_init_21 rfl 0 rfl ?_
  refine c_sipush (v := 200) (pc := 22) dX3_init_22 (by decide) ?_
  refine c_newa (atype := .int) (N := 200) (pc := 25) (k := 2) (n := 204) 0 (200, .inl (fun _ => 0)) ⟨Nat.le_trans (by decide) hR.2.2.1, Nat.le_trans (by decide) hR.2.2.2⟩ wd_69 rfl (fun _ => rfl) (fun _ => rfl) (by decide) (by decide) (by decide) dX3_init_25 (fun zq3 => ?_)
  show oKv Y mX3_init 27 [(0, .ref h0), (1, .ref zk0)] [.ref zq3, .ref h0] [(h0, .inr (3, [.null, .ref zq1, .ref zq2, .null, .null, .null, .null, .null, .int 0, .int 0, .int 0, .long 0, .int 0])), (zq1, .inl (Y.2.2.2.2.1 3, 4, .inr (.inr (.inr (.inr (fun _ => none)))))), (zq2, .inl (Y.2.2.2.2.1 0, 200, .inl (fun _ => 0))), (zq3, .inl (Y.2.2.2.2.1 0, 200, .inl (fun _ => 0)))] 3 404
  refine c_putF (ws1 := [(h0, .inr (3, [.null, .ref zq1, .ref zq2, .ref zq3, .null, .null, .null, .null, .int 0, .int 0, .int 0, .long 0, .int 0])), (zq1, .inl (Y.2.2.2.2.1 3, 4, .inr (.inr (.inr (.inr (fun _ => none)))))), (zq2, .inl (Y.2.2.2.2.1 0, 200, .inl (fun _ => 0))), (zq3, .inl (Y.2.2.2.2.1 0, 200, .inl (fun _ => 0)))]) (pc := 27) hI fd_RX3_21 ff_400_3 0 kd_400 rfl rfl rfl (Nat.le_of_ble_eq_true rfl) rfl dX3_init_27 ?_
  refine c_aload_n (pc := 30) dX3_init_30 rfl 0 rfl ?_
  refine c_sipush (v := 200) (pc := 31) dX3_init_31 (by decide) ?_
  refine c_newa (atype := .int) (N := 200) (pc := 34) (k := 3) (n := 404) 0 (200, .inl (fun _ => 0)) ⟨Nat.le_trans (by decide) hR.2.2.1, Nat.le_trans (by decide) hR.2.2.2⟩ wd_69 rfl (fun _ => rfl) (fun _ => rfl) (by decide) (by decide) (by decide) dX3_init_34 (fun zq4 => ?_)
  show oKv Y mX3_init 36 [(0, .ref h0), (1, .ref zk0)] [.ref zq4, .ref h0] [(h0, .inr (3, [.null, .ref zq1, .ref zq2, .ref zq3, .null, .null, .null, .null, .int 0, .int 0, .int 0, .long 0, .int 0])), (zq1, .inl (Y.2.2.2.2.1 3, 4, .inr (.inr (.inr (.inr (fun _ => none)))))), (zq2, .inl (Y.2.2.2.2.1 0, 200, .inl (fun _ => 0))), (zq3, .inl (Y.2.2.2.2.1 0, 200, .inl (fun _ => 0))), (zq4, .inl (Y.2.2.2.2.1 0, 200, .inl (fun _ => 0)))] 4 604
  refine c_putF (ws1 := [(h0, .inr (3, [.null, .ref zq1, .ref zq2, .ref zq3, .ref zq4, .null, .null, .null, .int 0, .int 0, .int 0, .long 0, .int 0])), (zq1, .inl (Y.2.2.2.2.1 3, 4, .inr (.inr (.inr (.inr (fun _ => none)))))), (zq2, .inl (Y.2.2.2.2.1 0, 200, .inl (fun _ => 0))), (zq3, .inl (Y.2.2.2.2.1 0, 200, .inl (fun _ => 0))), (zq4, .inl (Y.2.2.2.2.1 0, 200, .inl (fun _ => 0)))]) (pc := 36) hI fd_RX3_24 ff_400_4 0 kd_400 rfl rfl rfl (Nat.le_of_ble_eq_true rfl) rfl dX3_init_36 ?_
  refine c_aload_n (pc := 39) dX3_init_39 rfl 0 rfl ?_
  refine c_sipush (v := 200) (pc := 40) dX3_init_40 (by decide) ?_
  refine c_newa (atype := .int) (N := 200) (pc := 43) (k := 4) (n := 604) 0 (200, .inl (fun _ => 0)) ⟨Nat.le_trans (by decide) hR.2.2.1, Nat.le_trans (by decide) hR.2.2.2⟩ wd_69 rfl (fun _ => rfl) (fun _ => rfl) (by decide) (by decide) (by decide) dX3_init_43 (fun zq5 => ?_)
  show oKv Y mX3_init 45 [(0, .ref h0), (1, .ref zk0)] [.ref zq5, .ref h0] [(h0, .inr (3, [.null, .ref zq1, .ref zq2, .ref zq3, .ref zq4, .null, .null, .null, .int 0, .int 0, .int 0, .long 0, .int 0])), (zq1, .inl (Y.2.2.2.2.1 3, 4, .inr (.inr (.inr (.inr (fun _ => none)))))), (zq2, .inl (Y.2.2.2.2.1 0, 200, .inl (fun _ => 0))), (zq3, .inl (Y.2.2.2.2.1 0, 200, .inl (fun _ => 0))), (zq4, .inl (Y.2.2.2.2.1 0, 200, .inl (fun _ => 0))), (zq5, .inl (Y.2.2.2.2.1 0, 200, .inl (fun _ => 0)))] 5 804
  refine c_putF (ws1 := [(h0, .inr (3, [.null, .ref zq1, .ref zq2, .ref zq3, .ref zq4, .ref zq5, .null, .null, .int 0, .int 0, .int 0, .long 0, .int 0])), (zq1, .inl (Y.2.2.2.2.1 3, 4, .inr (.inr (.inr (.inr (fun _ => none)))))), (zq2, .inl (Y.2.2.2.2.1 0, 200, .inl (fun _ => 0))), (zq3, .inl (Y.2.2.2.2.1 0, 200, .inl (fun _ => 0))), (zq4, .inl (Y.2.2.2.2.1 0, 200, .inl (fun _ => 0))), (zq5, .inl (Y.2.2.2.2.1 0, 200, .inl (fun _ => 0)))]) (pc := 45) hI fd_RX3_27 ff_400_5 0 kd_400 rfl rfl rfl (Nat.le_of_ble_eq_true rfl) rfl dX3_init_45 ?_
  refine c_aload_n (pc := 48) dX3_init_48 rfl 0 rfl ?_
  refine c_sipush (v := 200) (pc := 49) dX3_init_49 (by decide) ?_
  refine c_newa (atype := .int) (N := 200) (pc := 52) (k := 5) (n := 804) 0 (200, .inl (fun _ => 0)) ⟨Nat.le_trans (by decide) hR.2.2.1, Nat.le_trans (by decide) hR.2.2.2⟩ wd_69 rfl (fun _ => rfl) (fun _ => rfl) (by decide) (by decide) (by decide) dX3_init_52 (fun zq6 => ?_)
  show oKv Y mX3_init 54 [(0, .ref h0), (1, .ref zk0)] [.ref zq6, .ref h0] [(h0, .inr (3, [.null, .ref zq1, .ref zq2, .ref zq3, .ref zq4, .ref zq5, .null, .null, .int 0, .int 0, .int 0, .long 0, .int 0])), (zq1, .inl (Y.2.2.2.2.1 3, 4, .inr (.inr (.inr (.inr (fun _ => none)))))), (zq2, .inl (Y.2.2.2.2.1 0, 200, .inl (fun _ => 0))), (zq3, .inl (Y.2.2.2.2.1 0, 200, .inl (fun _ => 0))), (zq4, .inl (Y.2.2.2.2.1 0, 200, .inl (fun _ => 0))), (zq5, .inl (Y.2.2.2.2.1 0, 200, .inl (fun _ => 0))), (zq6, .inl (Y.2.2.2.2.1 0, 200, .inl (fun _ => 0)))] 6 1004
  refine c_putF (ws1 := [(h0, .inr (3, [.null, .ref zq1, .ref zq2, .ref zq3, .ref zq4, .ref zq5, .ref zq6, .null, .int 0, .int 0, .int 0, .long 0, .int 0])), (zq1, .inl (Y.2.2.2.2.1 3, 4, .inr (.inr (.inr (.inr (fun _ => none)))))), (zq2, .inl (Y.2.2.2.2.1 0, 200, .inl (fun _ => 0))), (zq3, .inl (Y.2.2.2.2.1 0, 200, .inl (fun _ => 0))), (zq4, .inl (Y.2.2.2.2.1 0, 200, .inl (fun _ => 0))), (zq5, .inl (Y.2.2.2.2.1 0, 200, .inl (fun _ => 0))), (zq6, .inl (Y.2.2.2.2.1 0, 200, .inl (fun _ => 0)))]) (pc := 54) hI fd_RX3_30 ff_400_6 0 kd_400 rfl rfl rfl (Nat.le_of_ble_eq_true rfl) rfl dX3_init_54 ?_
  refine c_aload_n (pc := 57) dX3_init_57 rfl 0 rfl ?_
  refine c_sipush (v := 200) (pc := 58) dX3_init_58 (by decide) ?_
  refine c_newa (atype := .int) (N := 200) (pc := 61) (k := 6) (n := 1004) 0 (200, .inl (fun _ => 0)) ⟨Nat.le_trans (by decide) hR.2.2.1, Nat.le_trans (by decide) hR.2.2.2⟩ wd_69 rfl (fun _ => rfl) (fun _ => rfl) (by decide) (by decide) (by decide) dX3_init_61 (fun zq7 => ?_)
  show oKv Y mX3_init 63 [(0, .ref h0), (1, .ref zk0)] [.ref zq7, .ref h0] [(h0, .inr (3, [.null, .ref zq1, .ref zq2, .ref zq3, .ref zq4, .ref zq5, .ref zq6, .null, .int 0, .int 0, .int 0, .long 0, .int 0])), (zq1, .inl (Y.2.2.2.2.1 3, 4, .inr (.inr (.inr (.inr (fun _ => none)))))), (zq2, .inl (Y.2.2.2.2.1 0, 200, .inl (fun _ => 0))), (zq3, .inl (Y.2.2.2.2.1 0, 200, .inl (fun _ => 0))), (zq4, .inl (Y.2.2.2.2.1 0, 200, .inl (fun _ => 0))), (zq5, .inl (Y.2.2.2.2.1 0, 200, .inl (fun _ => 0))), (zq6, .inl (Y.2.2.2.2.1 0, 200, .inl (fun _ => 0))), (zq7, .inl (Y.2.2.2.2.1 0, 200, .inl (fun _ => 0)))] 7 1204
  refine c_putF (ws1 := [(h0, .inr (3, [.null, .ref zq1, .ref zq2, .ref zq3, .ref zq4, .ref zq5, .ref zq6, .ref zq7, .int 0, .int 0, .int 0, .long 0, .int 0])), (zq1, .inl (Y.2.2.2.2.1 3, 4, .inr (.inr (.inr (.inr (fun _ => none)))))), (zq2, .inl (Y.2.2.2.2.1 0, 200, .inl (fun _ => 0))), (zq3, .inl (Y.2.2.2.2.1 0, 200, .inl (fun _ => 0))), (zq4, .inl (Y.2.2.2.2.1 0, 200, .inl (fun _ => 0))), (zq5, .inl (Y.2.2.2.2.1 0, 200, .inl (fun _ => 0))), (zq6, .inl (Y.2.2.2.2.1 0, 200, .inl (fun _ => 0))), (zq7, .inl (Y.2.2.2.2.1 0, 200, .inl (fun _ => 0)))]) (pc := 63) hI fd_RX3_33 ff_400_7 0 kd_400 rfl rfl rfl (Nat.le_of_ble_eq_true rfl) rfl dX3_init_63 ?_
  refine c_aload_n (pc := 66) dX3_init_66 rfl 0 rfl ?_
  refine c_aload_n (pc := 67) dX3_init_67 rfl 1 rfl ?_
  refine c_putF (ws1 := [(h0, .inr (3, [.ref zk0, .ref zq1, .ref zq2, .ref zq3, .ref zq4, .ref zq5, .ref zq6, .ref zq7, .int 0, .int 0, .int 0, .long 0, .int 0])), (zq1, .inl (Y.2.2.2.2.1 3, 4, .inr (.inr (.inr (.inr (fun _ => none)))))), (zq2, .inl (Y.2.2.2.2.1 0, 200, .inl (fun _ => 0))), (zq3, .inl (Y.2.2.2.2.1 0, 200, .inl (fun _ => 0))), (zq4, .inl (Y.2.2.2.2.1 0, 200, .inl (fun _ => 0))), (zq5, .inl (Y.2.2.2.2.1 0, 200, .inl (fun _ => 0))), (zq6, .inl (Y.2.2.2.2.1 0, 200, .inl (fun _ => 0))), (zq7, .inl (Y.2.2.2.2.1 0, 200, .inl (fun _ => 0)))]) (pc := 68) hI fd_RX3_36 ff_400_0 0 kd_400 rfl rfl rfl (Nat.le_of_ble_eq_true rfl) rfl dX3_init_68 ?_
  refine c_iconst (v := 0) (pc := 71) dX3_init_71 (by decide) ?_
  refine c_istore_n (lv1 := [(2, .int 0), (0, .ref h0), (1, .ref zk0)]) (pc := 72) dX3_init_72 rfl (by decide) rfl ?_
  refine c_iload_n (pc := 73) dX3_init_73 rfl 0 rfl ?_
  refine c_iconst (v := 4) (pc := 74) dX3_init_74 (by decide) ?_
  refine c_icmp_ge_f (pc := 75) dX3_init_75 ⟨97, by decide⟩ (by decide) ?_
  refine c_aload_n (pc := 78) dX3_init_78 rfl 1 rfl ?_
  refine c_get (pc := 79) fd_RX3_11 0 kd_400 rfl rfl dX3_init_79 ?_
  refine c_iload_n (pc := 82) dX3_init_82 rfl 0 rfl ?_
  refine c_new (ci := 2) (ty := tyX2) (pc := 83) (k := 7) (n := 1204) [.int 0, .int 0, .int 0] ⟨Nat.le_trans (by decide) hR.2.2.1, Nat.le_trans (by decide) hR.2.2.2⟩ rfl oLayX2 tyX2_ok wd_121 wd_123 wd_5 (by intro j hj; exact kDf2 j hj) dX3_init_83 (fun zq8 => ?_)
  refine c_dup (pc := 86) dX3_init_86 rfl ?_
  refine c_callIN (host := "VillageOven") (wr := [(h0, .inr (3, [.ref zk0, .ref zq1, .ref zq2, .ref zq3, .ref zq4, .ref zq5, .ref zq6, .ref zq7, .int 0, .int 0, .int 0, .long 0, .int 0])), (zq1, .inl (Y.2.2.2.2.1 3, 4, .inr (.inr (.inr (.inr (fun _ => none)))))), (zq2, .inl (Y.2.2.2.2.1 0, 200, .inl (fun _ => 0))), (zq3, .inl (Y.2.2.2.2.1 0, 200, .inl (fun _ => 0))), (zq4, .inl (Y.2.2.2.2.1 0, 200, .inl (fun _ => 0))), (zq5, .inl (Y.2.2.2.2.1 0, 200, .inl (fun _ => 0))), (zq6, .inl (Y.2.2.2.2.1 0, 200, .inl (fun _ => 0))), (zq7, .inl (Y.2.2.2.2.1 0, 200, .inl (fun _ => 0)))]) (pc := 87) (d := 1) [] (hR.to (by decide) (by decide) (by decide)) md_X2_init rfl rfl (by decide +kernel) wd_125 rfl (Nat.le_of_ble_eq_true rfl) rfl rfl dX3_init_87 (fun sz => k_X2 _ _ _ _  sz) (fun w1 hw1 => ?_)
  subst hw1
  show oKv Y mX3_init 90 [(2, .int 0), (0, .ref h0), (1, .ref zk0)] [.ref zq8, .int 0, .ref zq1] [(h0, .inr (3, [.ref zk0, .ref zq1, .ref zq2, .ref zq3, .ref zq4, .ref zq5, .ref zq6, .ref zq7, .int 0, .int 0, .int 0, .long 0, .int 0])), (zq1, .inl (Y.2.2.2.2.1 3, 4, .inr (.inr (.inr (.inr (fun _ => none)))))), (zq2, .inl (Y.2.2.2.2.1 0, 200, .inl (fun _ => 0))), (zq3, .inl (Y.2.2.2.2.1 0, 200, .inl (fun _ => 0))), (zq4, .inl (Y.2.2.2.2.1 0, 200, .inl (fun _ => 0))), (zq5, .inl (Y.2.2.2.2.1 0, 200, .inl (fun _ => 0))), (zq6, .inl (Y.2.2.2.2.1 0, 200, .inl (fun _ => 0))), (zq7, .inl (Y.2.2.2.2.1 0, 200, .inl (fun _ => 0))), (zq8, .inr (2, [.int 0, .int 0, .int 0]))] 8 1207
  refine c_aast (ws1 := [(h0, .inr (3, [.ref zk0, .ref zq1, .ref zq2, .ref zq3, .ref zq4, .ref zq5, .ref zq6, .ref zq7, .int 0, .int 0, .int 0, .long 0, .int 0])), (zq1, .inl (Y.2.2.2.2.1 3, 4, .inr (.inr (.inr (.inr (va_up (fun _ => none) 0 (some zq8))))))), (zq2, .inl (Y.2.2.2.2.1 0, 200, .inl (fun _ => 0))), (zq3, .inl (Y.2.2.2.2.1 0, 200, .inl (fun _ => 0))), (zq4, .inl (Y.2.2.2.2.1 0, 200, .inl (fun _ => 0))), (zq5, .inl (Y.2.2.2.2.1 0, 200, .inl (fun _ => 0))), (zq6, .inl (Y.2.2.2.2.1 0, 200, .inl (fun _ => 0))), (zq7, .inl (Y.2.2.2.2.1 0, 200, .inl (fun _ => 0))), (zq8, .inr (2, [.int 0, .int 0, .int 0]))]) (pc := 90) 1 8 rfl rfl (by unfold vp_in; decide) rfl dX3_init_90 ?_
  refine c_iinc (v := 1) (lv1 := [(2, .int 1), (0, .ref h0), (1, .ref zk0)]) (pc := 91) dX3_init_91 0 rfl (by decide) (by decide) rfl ?_
  refine c_goto 73 (pc := 94) dX3_init_94 (by decide) ?_
  refine c_iload_n (pc := 73) dX3_init_73 rfl 0 rfl ?_
  refine c_iconst (v := 4) (pc := 74) dX3_init_74 (by decide) ?_
  refine c_icmp_ge_f (pc := 75) dX3_init_75 ⟨97, by decide⟩ (by decide) ?_
  refine c_aload_n (pc := 78) dX3_init_78 rfl 1 rfl ?_
  refine c_get (pc := 79) fd_RX3_11 0 kd_400 rfl rfl dX3_init_79 ?_
  refine c_iload_n (pc := 82) dX3_init_82 rfl 0 rfl ?_
  refine c_new (ci := 2) (ty := tyX2) (pc := 83) (k := 8) (n := 1207) [.int 0, .int 0, .int 0] ⟨Nat.le_trans (by decide) hR.2.2.1, Nat.le_trans (by decide) hR.2.2.2⟩ rfl oLayX2 tyX2_ok wd_121 wd_123 wd_5 (by intro j hj; exact kDf2 j hj) dX3_init_83 (fun zq9 => ?_)
  refine c_dup (pc := 86) dX3_init_86 rfl ?_
  refine c_callIN (host := "VillageOven") (wr := [(h0, .inr (3, [.ref zk0, .ref zq1, .ref zq2, .ref zq3, .ref zq4, .ref zq5, .ref zq6, .ref zq7, .int 0, .int 0, .int 0, .long 0, .int 0])), (zq1, .inl (Y.2.2.2.2.1 3, 4, .inr (.inr (.inr (.inr (va_up (fun _ => none) 0 (some zq8))))))), (zq2, .inl (Y.2.2.2.2.1 0, 200, .inl (fun _ => 0))), (zq3, .inl (Y.2.2.2.2.1 0, 200, .inl (fun _ => 0))), (zq4, .inl (Y.2.2.2.2.1 0, 200, .inl (fun _ => 0))), (zq5, .inl (Y.2.2.2.2.1 0, 200, .inl (fun _ => 0))), (zq6, .inl (Y.2.2.2.2.1 0, 200, .inl (fun _ => 0))), (zq7, .inl (Y.2.2.2.2.1 0, 200, .inl (fun _ => 0))), (zq8, .inr (2, [.int 0, .int 0, .int 0]))]) (pc := 87) (d := 1) [] (hR.to (by decide) (by decide) (by decide)) md_X2_init rfl rfl (by decide +kernel) wd_125 rfl (Nat.le_of_ble_eq_true rfl) rfl rfl dX3_init_87 (fun sz => k_X2 _ _ _ _  sz) (fun w1 hw1 => ?_)
  subst hw1
  show oKv Y mX3_init 90 [(2, .int 1), (0, .ref h0), (1, .ref zk0)] [.ref zq9, .int 1, .ref zq1] [(h0, .inr (3, [.ref zk0, .ref zq1, .ref zq2, .ref zq3, .ref zq4, .ref zq5, .ref zq6, .ref zq7, .int 0, .int 0, .int 0, .long 0, .int 0])), (zq1, .inl (Y.2.2.2.2.1 3, 4, .inr (.inr (.inr (.inr (va_up (fun _ => none) 0 (some zq8))))))), (zq2, .inl (Y.2.2.2.2.1 0, 200, .inl (fun _ => 0))), (zq3, .inl (Y.2.2.2.2.1 0, 200, .inl (fun _ => 0))), (zq4, .inl (Y.2.2.2.2.1 0, 200, .inl (fun _ => 0))), (zq5, .inl (Y.2.2.2.2.1 0, 200, .inl (fun _ => 0))), (zq6, .inl (Y.2.2.2.2.1 0, 200, .inl (fun _ => 0))), (zq7, .inl (Y.2.2.2.2.1 0, 200, .inl (fun _ => 0))), (zq8, .inr (2, [.int 0, .int 0, .int 0])), (zq9, .inr (2, [.int 0, .int 0, .int 0]))] 9 1210
  refine c_aast (ws1 := [(h0, .inr (3, [.ref zk0, .ref zq1, .ref zq2, .ref zq3, .ref zq4, .ref zq5, .ref zq6, .ref zq7, .int 0, .int 0, .int 0, .long 0, .int 0])), (zq1, .inl (Y.2.2.2.2.1 3, 4, .inr (.inr (.inr (.inr (va_up (va_up (fun _ => none) 0 (some zq8)) 1 (some zq9))))))), (zq2, .inl (Y.2.2.2.2.1 0, 200, .inl (fun _ => 0))), (zq3, .inl (Y.2.2.2.2.1 0, 200, .inl (fun _ => 0))), (zq4, .inl (Y.2.2.2.2.1 0, 200, .inl (fun _ => 0))), (zq5, .inl (Y.2.2.2.2.1 0, 200, .inl (fun _ => 0))), (zq6, .inl (Y.2.2.2.2.1 0, 200, .inl (fun _ => 0))), (zq7, .inl (Y.2.2.2.2.1 0, 200, .inl (fun _ => 0))), (zq8, .inr (2, [.int 0, .int 0, .int 0])), (zq9, .inr (2, [.int 0, .int 0, .int 0]))]) (pc := 90) 1 9 rfl rfl (by unfold vp_in; decide) rfl dX3_init_90 ?_
  refine c_iinc (v := 2) (lv1 := [(2, .int 2), (0, .ref h0), (1, .ref zk0)]) (pc := 91) dX3_init_91 0 rfl (by decide) (by decide) rfl ?_
  refine c_goto 73 (pc := 94) dX3_init_94 (by decide) ?_
  refine c_iload_n (pc := 73) dX3_init_73 rfl 0 rfl ?_
  refine c_iconst (v := 4) (pc := 74) dX3_init_74 (by decide) ?_
  refine c_icmp_ge_f (pc := 75) dX3_init_75 ⟨97, by decide⟩ (by decide) ?_
  refine c_aload_n (pc := 78) dX3_init_78 rfl 1 rfl ?_
  refine c_get (pc := 79) fd_RX3_11 0 kd_400 rfl rfl dX3_init_79 ?_
  refine c_iload_n (pc := 82) dX3_init_82 rfl 0 rfl ?_
  refine c_new (ci := 2) (ty := tyX2) (pc := 83) (k := 9) (n := 1210) [.int 0, .int 0, .int 0] ⟨Nat.le_trans (by decide) hR.2.2.1, Nat.le_trans (by decide) hR.2.2.2⟩ rfl oLayX2 tyX2_ok wd_121 wd_123 wd_5 (by intro j hj; exact kDf2 j hj) dX3_init_83 (fun zq10 => ?_)
  refine c_dup (pc := 86) dX3_init_86 rfl ?_
  refine c_callIN (host := "VillageOven") (wr := [(h0, .inr (3, [.ref zk0, .ref zq1, .ref zq2, .ref zq3, .ref zq4, .ref zq5, .ref zq6, .ref zq7, .int 0, .int 0, .int 0, .long 0, .int 0])), (zq1, .inl (Y.2.2.2.2.1 3, 4, .inr (.inr (.inr (.inr (va_up (va_up (fun _ => none) 0 (some zq8)) 1 (some zq9))))))), (zq2, .inl (Y.2.2.2.2.1 0, 200, .inl (fun _ => 0))), (zq3, .inl (Y.2.2.2.2.1 0, 200, .inl (fun _ => 0))), (zq4, .inl (Y.2.2.2.2.1 0, 200, .inl (fun _ => 0))), (zq5, .inl (Y.2.2.2.2.1 0, 200, .inl (fun _ => 0))), (zq6, .inl (Y.2.2.2.2.1 0, 200, .inl (fun _ => 0))), (zq7, .inl (Y.2.2.2.2.1 0, 200, .inl (fun _ => 0))), (zq8, .inr (2, [.int 0, .int 0, .int 0])), (zq9, .inr (2, [.int 0, .int 0, .int 0]))]) (pc := 87) (d := 1) [] (hR.to (by decide) (by decide) (by decide)) md_X2_init rfl rfl (by decide +kernel) wd_125 rfl (Nat.le_of_ble_eq_true rfl) rfl rfl dX3_init_87 (fun sz => k_X2 _ _ _ _  sz) (fun w1 hw1 => ?_)
  subst hw1
  show oKv Y mX3_init 90 [(2, .int 2), (0, .ref h0), (1, .ref zk0)] [.ref zq10, .int 2, .ref zq1] [(h0, .inr (3, [.ref zk0, .ref zq1, .ref zq2, .ref zq3, .ref zq4, .ref zq5, .ref zq6, .ref zq7, .int 0, .int 0, .int 0, .long 0, .int 0])), (zq1, .inl (Y.2.2.2.2.1 3, 4, .inr (.inr (.inr (.inr (va_up (va_up (fun _ => none) 0 (some zq8)) 1 (some zq9))))))), (zq2, .inl (Y.2.2.2.2.1 0, 200, .inl (fun _ => 0))), (zq3, .inl (Y.2.2.2.2.1 0, 200, .inl (fun _ => 0))), (zq4, .inl (Y.2.2.2.2.1 0, 200, .inl (fun _ => 0))), (zq5, .inl (Y.2.2.2.2.1 0, 200, .inl (fun _ => 0))), (zq6, .inl (Y.2.2.2.2.1 0, 200, .inl (fun _ => 0))), (zq7, .inl (Y.2.2.2.2.1 0, 200, .inl (fun _ => 0))), (zq8, .inr (2, [.int 0, .int 0, .int 0])), (zq9, .inr (2, [.int 0, .int 0, .int 0])), (zq10, .inr (2, [.int 0, .int 0, .int 0]))] 10 1213
  refine c_aast (ws1 := [(h0, .inr (3, [.ref zk0, .ref zq1, .ref zq2, .ref zq3, .ref zq4, .ref zq5, .ref zq6, .ref zq7, .int 0, .int 0, .int 0, .long 0, .int 0])), (zq1, .inl (Y.2.2.2.2.1 3, 4, .inr (.inr (.inr (.inr (va_up (va_up (va_up (fun _ => none) 0 (some zq8)) 1 (some zq9)) 2 (some zq10))))))), (zq2, .inl (Y.2.2.2.2.1 0, 200, .inl (fun _ => 0))), (zq3, .inl (Y.2.2.2.2.1 0, 200, .inl (fun _ => 0))), (zq4, .inl (Y.2.2.2.2.1 0, 200, .inl (fun _ => 0))), (zq5, .inl (Y.2.2.2.2.1 0, 200, .inl (fun _ => 0))), (zq6, .inl (Y.2.2.2.2.1 0, 200, .inl (fun _ => 0))), (zq7, .inl (Y.2.2.2.2.1 0, 200, .inl (fun _ => 0))), (zq8, .inr (2, [.int 0, .int 0, .int 0])), (zq9, .inr (2, [.int 0, .int 0, .int 0])), (zq10, .inr (2, [.int 0, .int 0, .int 0]))]) (pc := 90) 1 10 rfl rfl (by unfold vp_in; decide) rfl dX3_init_90 ?_
  refine c_iinc (v := 3) (lv1 := [(2, .int 3), (0, .ref h0), (1, .ref zk0)]) (pc := 91) dX3_init_91 0 rfl (by decide) (by decide) rfl ?_
  refine c_goto 73 (pc := 94) dX3_init_94 (by decide) ?_
  refine c_iload_n (pc := 73) dX3_init_73 rfl 0 rfl ?_
  refine c_iconst (v := 4) (pc := 74) dX3_init_74 (by decide) ?_
  refine c_icmp_ge_f (pc := 75) dX3_init_75 ⟨97, by decide⟩ (by decide) ?_
  refine c_aload_n (pc := 78) dX3_init_78 rfl 1 rfl ?_
  refine c_get (pc := 79) fd_RX3_11 0 kd_400 rfl rfl dX3_init_79 ?_
  refine c_iload_n (pc := 82) dX3_init_82 rfl 0 rfl ?_
  refine c_new (ci := 2) (ty := tyX2) (pc := 83) (k := 10) (n := 1213) [.int 0, .int 0, .int 0] ⟨Nat.le_trans (by decide) hR.2.2.1, Nat.le_trans (by decide) hR.2.2.2⟩ rfl oLayX2 tyX2_ok wd_121 wd_123 wd_5 (by intro j hj; exact kDf2 j hj) dX3_init_83 (fun zq11 => ?_)
  refine c_dup (pc := 86) dX3_init_86 rfl ?_
  refine c_callIN (host := "VillageOven") (wr := [(h0, .inr (3, [.ref zk0, .ref zq1, .ref zq2, .ref zq3, .ref zq4, .ref zq5, .ref zq6, .ref zq7, .int 0, .int 0, .int 0, .long 0, .int 0])), (zq1, .inl (Y.2.2.2.2.1 3, 4, .inr (.inr (.inr (.inr (va_up (va_up (va_up (fun _ => none) 0 (some zq8)) 1 (some zq9)) 2 (some zq10))))))), (zq2, .inl (Y.2.2.2.2.1 0, 200, .inl (fun _ => 0))), (zq3, .inl (Y.2.2.2.2.1 0, 200, .inl (fun _ => 0))), (zq4, .inl (Y.2.2.2.2.1 0, 200, .inl (fun _ => 0))), (zq5, .inl (Y.2.2.2.2.1 0, 200, .inl (fun _ => 0))), (zq6, .inl (Y.2.2.2.2.1 0, 200, .inl (fun _ => 0))), (zq7, .inl (Y.2.2.2.2.1 0, 200, .inl (fun _ => 0))), (zq8, .inr (2, [.int 0, .int 0, .int 0])), (zq9, .inr (2, [.int 0, .int 0, .int 0])), (zq10, .inr (2, [.int 0, .int 0, .int 0]))]) (pc := 87) (d := 1) [] (hR.to (by decide) (by decide) (by decide)) md_X2_init rfl rfl (by decide +kernel) wd_125 rfl (Nat.le_of_ble_eq_true rfl) rfl rfl dX3_init_87 (fun sz => k_X2 _ _ _ _  sz) (fun w1 hw1 => ?_)
  subst hw1
  show oKv Y mX3_init 90 [(2, .int 3), (0, .ref h0), (1, .ref zk0)] [.ref zq11, .int 3, .ref zq1] [(h0, .inr (3, [.ref zk0, .ref zq1, .ref zq2, .ref zq3, .ref zq4, .ref zq5, .ref zq6, .ref zq7, .int 0, .int 0, .int 0, .long 0, .int 0])), (zq1, .inl (Y.2.2.2.2.1 3, 4, .inr (.inr (.inr (.inr (va_up (va_up (va_up (fun _ => none) 0 (some zq8)) 1 (some zq9)) 2 (some zq10))))))), (zq2, .inl (Y.2.2.2.2.1 0, 200, .inl (fun _ => 0))), (zq3, .inl (Y.2.2.2.2.1 0, 200, .inl (fun _ => 0))), (zq4, .inl (Y.2.2.2.2.1 0, 200, .inl (fun _ => 0))), (zq5, .inl (Y.2.2.2.2.1 0, 200, .inl (fun _ => 0))), (zq6, .inl (Y.2.2.2.2.1 0, 200, .inl (fun _ => 0))), (zq7, .inl (Y.2.2.2.2.1 0, 200, .inl (fun _ => 0))), (zq8, .inr (2, [.int 0, .int 0, .int 0])), (zq9, .inr (2, [.int 0, .int 0, .int 0])), (zq10, .inr (2, [.int 0, .int 0, .int 0])), (zq11, .inr (2, [.int 0, .int 0, .int 0]))] 11 1216
  refine c_aast (ws1 := [(h0, .inr (3, [.ref zk0, .ref zq1, .ref zq2, .ref zq3, .ref zq4, .ref zq5, .ref zq6, .ref zq7, .int 0, .int 0, .int 0, .long 0, .int 0])), (zq1, .inl (Y.2.2.2.2.1 3, 4, .inr (.inr (.inr (.inr (va_up (va_up (va_up (va_up (fun _ => none) 0 (some zq8)) 1 (some zq9)) 2 (some zq10)) 3 (some zq11))))))), (zq2, .inl (Y.2.2.2.2.1 0, 200, .inl (fun _ => 0))), (zq3, .inl (Y.2.2.2.2.1 0, 200, .inl (fun _ => 0))), (zq4, .inl (Y.2.2.2.2.1 0, 200, .inl (fun _ => 0))), (zq5, .inl (Y.2.2.2.2.1 0, 200, .inl (fun _ => 0))), (zq6, .inl (Y.2.2.2.2.1 0, 200, .inl (fun _ => 0))), (zq7, .inl (Y.2.2.2.2.1 0, 200, .inl (fun _ => 0))), (zq8, .inr (2, [.int 0, .int 0, .int 0])), (zq9, .inr (2, [.int 0, .int 0, .int 0])), (zq10, .inr (2, [.int 0, .int 0, .int 0])), (zq11, .inr (2, [.int 0, .int 0, .int 0]))]) (pc := 90) 1 11 rfl rfl (by unfold vp_in; decide) rfl dX3_init_90 ?_
  refine c_iinc (v := 4) (lv1 := [(2, .int 4), (0, .ref h0), (1, .ref zk0)]) (pc := 91) dX3_init_91 0 rfl (by decide) (by decide) rfl ?_
  refine c_goto 73 (pc := 94) dX3_init_94 (by decide) ?_
  refine c_iload_n (pc := 73) dX3_init_73 rfl 0 rfl ?_
  refine c_iconst (v := 4) (pc := 74) dX3_init_74 (by decide) ?_
  refine c_icmp_ge_t 97 (pc := 75) dX3_init_75 (by decide) (by decide) ?_
  refine c_ret (pc := 97) hE rfl dX3_init_97 ⟨zq1, zq2, zq3, zq4, zq5, zq6, zq7, zq8, zq9, zq10, zq11, rfl⟩
set_option maxRecDepth 100000 in
set_option maxHeartbeats 1000000 in
theorem k_X7 (D : va_G) (cA : Nat → ClassId) (ms : Nat) (h0 : Nat) (sz : Nat) : kCt D cA ms 2 12 180 yX7_init mX7_init [.ref h0] [(h0, .inr (7, [.null, .null]))] sz (fun w => ∃ (zq1 : Nat) (zq2 : Nat) (zq3 : Nat) (zq4 : Nat) (zq5 : Nat) (zq6 : Nat) (zq7 : Nat) (zq8 : Nat) (zq9 : Nat) (zq10 : Nat) (zq11 : Nat) (zq12 : Nat), w = [(h0, .inr (7, [.ref zq1, .ref zq7])), (zq1, .inr (4, [.ref zq2, .ref zq3, .ref zq4, .ref zq5, .ref zq6, .int 0, .int 0, .int 10, .long 0, .long 0])), (zq2, .inl (cA 1, 12, .inr (.inl (oHe 12)))), (zq3, .inl (cA 0, 4, .inl (fun _ => 0))), (zq4, .inl (cA 0, 4, .inl (fun _ => 0))), (zq5, .inl (cA 0, 30, .inl (fun _ => 0))), (zq6, .inl (cA 0, 30, .inl (fun _ => 0))), (zq7, .inr (4, [.ref zq8, .ref zq9, .ref zq10, .ref zq11, .ref zq12, .int 0, .int 0, .int 10, .long 0, .long 0])), (zq8, .inl (cA 1, 12, .inr (.inl (oHe 12)))), (zq9, .inl (cA 0, 4, .inl (fun _ => 0))), (zq10, .inl (cA 0, 4, .inl (fun _ => 0))), (zq11, .inl (cA 0, 30, .inl (fun _ => 0))), (zq12, .inl (cA 0, 30, .inl (fun _ => 0)))]) := by
  refine kCt_of (by decide) rfl rfl (Nat.le_of_ble_eq_true rfl) ?_
  intro Y hD0 hcA hI hE hR
  subst hD0; subst hcA
  show oKv Y mX7_init 0 [(0, .ref h0)] [] [(h0, .inr (7, [.null, .null]))] 0 0
  refine c_aload_n (pc := 0) dX7_init_0 rfl 0 rfl ?_
  refine c_objInit (pc := 1) (hR.lo (by decide)) wd_256 wd_19 wd_20 dX7_init_1 ?_
  refine c_aload_n (pc := 4) dX7_init_4 rfl 0 rfl ?_
  refine c_new (ci := 4) (ty := tyX4) (pc := 5) (k := 0) (n := 0) [.null, .null, .null, .null, .null, .int 0, .int 0, .int 0, .long 0, .long 0] ⟨Nat.le_trans (by decide) hR.2.2.1, Nat.le_trans (by decide) hR.2.2.2⟩ rfl oLayX4 tyX4_ok wd_257 wd_22 wd_2 (by intro j hj; exact kDf4 j hj) dX7_init_5 (fun zq1 => ?_)
  refine c_dup (pc := 8) dX7_init_8 rfl ?_
  refine c_callI (wr := [(h0, .inr (7, [.null, .null]))]) (pc := 9) (d := 1) [] (hR.to (by decide) (by decide) (by decide)) md_X4_init rfl rfl wd_258 wd_24 rfl (Nat.le_of_ble_eq_true rfl) rfl rfl dX7_init_9 (fun sz => k_X4 _ _ _ _  sz) (fun w1 hw1 => ?_)
  obtain ⟨zq2, zq3, zq4, zq5, zq6, rfl⟩ := hw1
  show oKv Y mX7_init 12 [(0, .ref h0)] [.ref zq1, .ref h0] [(h0, .inr (7, [.null, .null])), (zq1, .inr (4, [.ref zq2, .ref zq3, .ref zq4, .ref zq5, .ref zq6, .int 0, .int 0, .int 10, .long 0, .long 0])), (zq2, .inl (Y.2.2.2.2.1 1, 12, .inr (.inl (oHe 12)))), (zq3, .inl (Y.2.2.2.2.1 0, 4, .inl (fun _ => 0))), (zq4, .inl (Y.2.2.2.2.1 0, 4, .inl (fun _ => 0))), (zq5, .inl (Y.2.2.2.2.1 0, 30, .inl (fun _ => 0))), (zq6, .inl (Y.2.2.2.2.1 0, 30, .inl (fun _ => 0)))] 6 90
  refine c_putF (ws1 := [(h0, .inr (7, [.ref zq1, .null])), (zq1, .inr (4, [.ref zq2, .ref zq3, .ref zq4, .ref zq5, .ref zq6, .int 0, .int 0, .int 10, .long 0, .long 0])), (zq2, .inl (Y.2.2.2.2.1 1, 12, .inr (.inl (oHe 12)))), (zq3, .inl (Y.2.2.2.2.1 0, 4, .inl (fun _ => 0))), (zq4, .inl (Y.2.2.2.2.1 0, 4, .inl (fun _ => 0))), (zq5, .inl (Y.2.2.2.2.1 0, 30, .inl (fun _ => 0))), (zq6, .inl (Y.2.2.2.2.1 0, 30, .inl (fun _ => 0)))]) (pc := 12) hI fd_RX7_12 ff_800_0 0 kd_800 rfl rfl rfl (Nat.le_of_ble_eq_true rfl) rfl dX7_init_12 ?_
  refine c_aload_n (pc := 15) dX7_init_15 rfl 0 rfl ?_
  refine c_new (ci := 4) (ty := tyX4) (pc := 16) (k := 6) (n := 90) [.null, .null, .null, .null, .null, .int 0, .int 0, .int 0, .long 0, .long 0] ⟨Nat.le_trans (by decide) hR.2.2.1, Nat.le_trans (by decide) hR.2.2.2⟩ rfl oLayX4 tyX4_ok wd_257 wd_22 wd_2 (by intro j hj; exact kDf4 j hj) dX7_init_16 (fun zq7 => ?_)
  refine c_dup (pc := 19) dX7_init_19 rfl ?_
  refine c_callI (wr := [(h0, .inr (7, [.ref zq1, .null])), (zq1, .inr (4, [.ref zq2, .ref zq3, .ref zq4, .ref zq5, .ref zq6, .int 0, .int 0, .int 10, .long 0, .long 0])), (zq2, .inl (Y.2.2.2.2.1 1, 12, .inr (.inl (oHe 12)))), (zq3, .inl (Y.2.2.2.2.1 0, 4, .inl (fun _ => 0))), (zq4, .inl (Y.2.2.2.2.1 0, 4, .inl (fun _ => 0))), (zq5, .inl (Y.2.2.2.2.1 0, 30, .inl (fun _ => 0))), (zq6, .inl (Y.2.2.2.2.1 0, 30, .inl (fun _ => 0)))]) (pc := 20) (d := 1) [] (hR.to (by decide) (by decide) (by decide)) md_X4_init rfl rfl wd_258 wd_24 rfl (Nat.le_of_ble_eq_true rfl) rfl rfl dX7_init_20 (fun sz => k_X4 _ _ _ _  sz) (fun w1 hw1 => ?_)
  obtain ⟨zq8, zq9, zq10, zq11, zq12, rfl⟩ := hw1
  show oKv Y mX7_init 23 [(0, .ref h0)] [.ref zq7, .ref h0] [(h0, .inr (7, [.ref zq1, .null])), (zq1, .inr (4, [.ref zq2, .ref zq3, .ref zq4, .ref zq5, .ref zq6, .int 0, .int 0, .int 10, .long 0, .long 0])), (zq2, .inl (Y.2.2.2.2.1 1, 12, .inr (.inl (oHe 12)))), (zq3, .inl (Y.2.2.2.2.1 0, 4, .inl (fun _ => 0))), (zq4, .inl (Y.2.2.2.2.1 0, 4, .inl (fun _ => 0))), (zq5, .inl (Y.2.2.2.2.1 0, 30, .inl (fun _ => 0))), (zq6, .inl (Y.2.2.2.2.1 0, 30, .inl (fun _ => 0))), (zq7, .inr (4, [.ref zq8, .ref zq9, .ref zq10, .ref zq11, .ref zq12, .int 0, .int 0, .int 10, .long 0, .long 0])), (zq8, .inl (Y.2.2.2.2.1 1, 12, .inr (.inl (oHe 12)))), (zq9, .inl (Y.2.2.2.2.1 0, 4, .inl (fun _ => 0))), (zq10, .inl (Y.2.2.2.2.1 0, 4, .inl (fun _ => 0))), (zq11, .inl (Y.2.2.2.2.1 0, 30, .inl (fun _ => 0))), (zq12, .inl (Y.2.2.2.2.1 0, 30, .inl (fun _ => 0)))] 12 180
  refine c_putF (ws1 := [(h0, .inr (7, [.ref zq1, .ref zq7])), (zq1, .inr (4, [.ref zq2, .ref zq3, .ref zq4, .ref zq5, .ref zq6, .int 0, .int 0, .int 10, .long 0, .long 0])), (zq2, .inl (Y.2.2.2.2.1 1, 12, .inr (.inl (oHe 12)))), (zq3, .inl (Y.2.2.2.2.1 0, 4, .inl (fun _ => 0))), (zq4, .inl (Y.2.2.2.2.1 0, 4, .inl (fun _ => 0))), (zq5, .inl (Y.2.2.2.2.1 0, 30, .inl (fun _ => 0))), (zq6, .inl (Y.2.2.2.2.1 0, 30, .inl (fun _ => 0))), (zq7, .inr (4, [.ref zq8, .ref zq9, .ref zq10, .ref zq11, .ref zq12, .int 0, .int 0, .int 10, .long 0, .long 0])), (zq8, .inl (Y.2.2.2.2.1 1, 12, .inr (.inl (oHe 12)))), (zq9, .inl (Y.2.2.2.2.1 0, 4, .inl (fun _ => 0))), (zq10, .inl (Y.2.2.2.2.1 0, 4, .inl (fun _ => 0))), (zq11, .inl (Y.2.2.2.2.1 0, 30, .inl (fun _ => 0))), (zq12, .inl (Y.2.2.2.2.1 0, 30, .inl (fun _ => 0)))]) (pc := 23) hI fd_RX7_18 ff_800_1 0 kd_800 rfl rfl rfl (Nat.le_of_ble_eq_true rfl) rfl dX7_init_23 ?_
  refine c_ret (pc := 26) hE rfl dX7_init_26 ⟨zq1, zq2, zq3, zq4, zq5, zq6, zq7, zq8, zq9, zq10, zq11, zq12, rfl⟩
