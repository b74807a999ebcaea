set_option maxRecDepth 100000 in
set_option maxHeartbeats 1000000 in
theorem k_X2 (D : va_G) (cA : Nat → ClassId) (ms : Nat) (h0 : Nat) (sz : Nat) : kCt D cA ms 1 0 0 yX2_init mX2_init [.ref h0] [(h0, .inr (2, [.int 0, .int 0, .int 0]))] sz (fun w => w = [(h0, .inr (2, [.int 0, .int 0, .int 0]))]) := by
  refine kCt_of (by decide) rfl rfl (Nat.le_of_ble_eq_true rfl) ?_
  intro Y hD0 hcA hI hE hR
  subst hD0; subst hcA
  show oKv Y mX2_init 0 [(0, .ref h0)] [] [(h0, .inr (2, [.int 0, .int 0, .int 0]))] 0 0
  refine c_aload_n (pc := 0) dX2_init_0 rfl 0 rfl ?_
  refine c_objInit (pc := 1) (hR.lo (by decide)) wd_127 wd_19 wd_20 dX2_init_1 ?_
  refine c_ret (pc := 4) hE rfl dX2_init_4 rfl
set_option maxRecDepth 100000 in
set_option maxHeartbeats 1000000 in
theorem k_X0 (D : va_G) (cA : Nat → ClassId) (ms : Nat) (h0 : Nat) (sz : Nat) : kCt D cA ms 1 3 264 yX0_init mX0_init [.ref h0] [(h0, .inr (0, [.null, .null, .null, .int 0, .int 0, .int 0, .int 0, .int 0]))] sz (fun w => ∃ (zq1 : Nat) (zq2 : Nat) (zq3 : Nat), w = [(h0, .inr (0, [.ref zq1, .ref zq2, .ref zq3, .int 0, .int 0, .int 0, .int 0, .int 0])), (zq1, .inl (cA 0, 244, .inl (fun _ => 0))), (zq2, .inl (cA 0, 10, .inl (fun _ => 0))), (zq3, .inl (cA 0, 10, .inl (fun _ => 0)))]) := by
  refine kCt_of (by decide) rfl rfl (Nat.le_of_ble_eq_true rfl) ?_
  intro Y hD0 hcA hI hE hR
  subst hD0; subst hcA
  show oKv Y mX0_init 0 [(0, .ref h0)] [] [(h0, .inr (0, [.null, .null, .null, .int 0, .int 0, .int 0, .int 0, .int 0]))] 0 0
  refine c_aload_n (pc := 0) dX0_init_0 rfl 0 rfl ?_
  refine c_objInit (pc := 1) (hR.lo (by decide)) wd_314 wd_19 wd_20 dX0_init_1 ?_
  refine c_aload_n (pc := 4) dX0_init_4 rfl 0 rfl ?_
  refine c_sipush (v := 244) (pc := 5) dX0_init_5 (by decide) ?_
  refine c_newa (atype := .int) (N := 244) (pc := 8) (k := 0) (n := 0) 0 (244, .inl (fun _ => 0)) ⟨Nat.le_trans (by decide) hR.2.2.1, Nat.le_trans (by decide) hR.2.2.2⟩ wd_69 rfl (fun _ => rfl) (fun _ => rfl) (by decide) (by decide) (by decide) dX0_init_8 (fun zq1 => ?_)
  show oKv Y mX0_init 10 [(0, .ref h0)] [.ref zq1, .ref h0] [(h0, .inr (0, [.null, .null, .null, .int 0, .int 0, .int 0, .int 0, .int 0])), (zq1, .inl (Y.2.2.2.2.1 0, 244, .inl (fun _ => 0)))] 1 244
  refine c_putF (ws1 := [(h0, .inr (0, [.ref zq1, .null, .null, .int 0, .int 0, .int 0, .int 0, .int 0])), (zq1, .inl (Y.2.2.2.2.1 0, 244, .inl (fun _ => 0)))]) (pc := 10) hI fd_RX0_9 ff_100_0 0 kd_100 rfl rfl rfl (Nat.le_of_ble_eq_true rfl) rfl dX0_init_10 ?_
  refine c_aload_n (pc := 13) dX0_init_13 rfl 0 rfl ?_
  refine c_bipush (v := 10) (pc := 14) dX0_init_14 (by decide) ?_
  refine c_newa (atype := .int) (N := 10) (pc := 16) (k := 1) (n := 244) 0 (10, .inl (fun _ => 0)) ⟨Nat.le_trans (by decide) hR.2.2.1, Nat.le_trans (by decide) hR.2.2.2⟩ wd_69 rfl (fun _ => rfl) (fun _ => rfl) (by decide) (by decide) (by decide) dX0_init_16 (fun zq2 => ?_)
  show oKv Y mX0_init 18 [(0, .ref h0)] [.ref zq2, .ref h0] [(h0, .inr (0, [.ref zq1, .null, .null, .int 0, .int 0, .int 0, .int 0, .int 0])), (zq1, .inl (Y.2.2.2.2.1 0, 244, .inl (fun _ => 0))), (zq2, .inl (Y.2.2.2.2.1 0, 10, .inl (fun _ => 0)))] 2 254
  refine c_putF (ws1 := [(h0, .inr (0, [.ref zq1, .ref zq2, .null, .int 0, .int 0, .int 0, .int 0, .int 0])), (zq1, .inl (Y.2.2.2.2.1 0, 244, .inl (fun _ => 0))), (zq2, .inl (Y.2.2.2.2.1 0, 10, .inl (fun _ => 0)))]) (pc := 18) hI fd_RX0_15 ff_100_1 0 kd_100 rfl rfl rfl (Nat.le_of_ble_eq_true rfl) rfl dX0_init_18 ?_
  refine c_aload_n (pc := 21) dX0_init_21 rfl 0 rfl ?_
  refine c_bipush (v := 10) (pc := 22) dX0_init_22 (by decide) ?_
  refine c_newa (atype := .int) (N := 10) (pc := 24) (k := 2) (n := 254) 0 (10, .inl (fun _ => 0)) ⟨Nat.le_trans (by decide) hR.2.2.1, Nat.le_trans (by decide) hR.2.2.2⟩ wd_69 rfl (fun _ => rfl) (fun _ => rfl) (by decide) (by decide) (by decide) dX0_init_24 (fun zq3 => ?_)
  show oKv Y mX0_init 26 [(0, .ref h0)] [.ref zq3, .ref h0] [(h0, .inr (0, [.ref zq1, .ref zq2, .null, .int 0, .int 0, .int 0, .int 0, .int 0])), (zq1, .inl (Y.2.2.2.2.1 0, 244, .inl (fun _ => 0))), (zq2, .inl (Y.2.2.2.2.1 0, 10, .inl (fun _ => 0))), (zq3, .inl (Y.2.2.2.2.1 0, 10, .inl (fun _ => 0)))] 3 264
  refine c_putF (ws1 := [(h0, .inr (0, [.ref zq1, .ref zq2, .ref zq3, .int 0, .int 0, .int 0, .int 0, .int 0])), (zq1, .inl (Y.2.2.2.2.1 0, 244, .inl (fun _ => 0))), (zq2, .inl (Y.2.2.2.2.1 0, 10, .inl (fun _ => 0))), (zq3, .inl (Y.2.2.2.2.1 0, 10, .inl (fun _ => 0)))]) (pc := 26) hI fd_RX0_18 ff_100_2 0 kd_100 rfl rfl rfl (Nat.le_of_ble_eq_true rfl) rfl dX0_init_26 ?_
  refine c_ret (pc := 29) hE rfl dX0_init_29 ⟨zq1, zq2, zq3, rfl⟩
