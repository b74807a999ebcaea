/-! THE CLAIM OUT OF ONE WALK OF THE LAW'S BODY. Your part is whole_start (and what it stands on); all else here is the same for every law, but numbers. -/
def R_law : String := "VillageOvenLaw"
def lw_P (b : Addr) (xs : List Int32) (args : Array Value) (s : State) : Prop := args = #[.ref b] ∧ s.IntsAt b xs ∧ xs.length ≤ 4096 ∧ (Jvm.Cond.and given_1 narrow_1).before args s = true
def lw_Q (_ : Array Value) (s : State) (o : Outcome) (t : State) : Prop := o = .returned (some (.int 1)) ∧ Framed s o t [] 600000 7302250
def lw_Z (below : List Frame) (a : Array Value) (s : State) : State → Prop := fun t => ∃ o, t.status = .running ∧ Ended t below o ∧ lw_Q a s o t
/-- the law's own end, with 1 on the stack, nothing written that was there before, its room as the claim has it -/
theorem lw_ret {p : Program} {l : Launch} {e : Env} {s : State} {m : MethodId} {below : List Frame} {meth : Method} {c : Code} {b : Nat} (hx : p.tables.exec = Jvm.exec) (hb : c.code = code) (hr : meth.sig.returnType = ret) (hlocks : meth.locks = false) {pc : Nat} {H : Heap} {ls : Array Slot} (hdg : decode code pc = .ok (.ireturn, 1)) : W p l e room_1 s m #[Value.ref b] below meth c H [] 600000 7302250 (lw_Z below #[Value.ref b] s) (F0 m pc ls [.int 1]) := by
  intro T hT X
  obtain ⟨fs, hret, hrun, hended, hW, hframe⟩ := X.leave (v := some (.int 1)) (hlocks := hlocks) (fun h => by rw [hr] at h; cases h)
  have hmeth' : T.vm.method? m = some meth := X.method'
  refine ⟨T.setFrames fs, ?_, .returned (some (.int 1)), hrun, hended, rfl, ⟨_, rfl⟩, hW, hframe⟩
  jvm_step X.here [X.here.top, hx, hb, hdg, hmeth', hr, ret, narrow_b1]
  (try refine ⟨rfl, ?_⟩); (try refine ⟨rfl, ?_⟩)
  first | (intro acts; rw [hret _ acts rfl rfl rfl]) | rw [hret _ _ rfl rfl rfl]
  exact Steps.refl _
/-- what holds at the law's entry: the machine, the code, the tables' words (any of lw_tbl by 'hts w (by decide +kernel)'), the script of L ints xs at the cell b, what the Statement gives of the start (any of its parts by flat_of_before) -/
def lw_At (p : Program) (s : State) (m : MethodId) (meth : Method) (c : Code) (b L : Nat) (xs : Nat → Int32) : Prop :=
  p.tables.exec = Jvm.exec ∧ c.code = code ∧ meth.sig.returnType = ret ∧ c.maxLocals = 4 ∧ s.vm.findClass R_law = some m.cls ∧ (∀ w ∈ lw_tbl, w.before #[Value.ref b] s = true) ∧ va_X b L xs s s.heap ∧ b < s.heap.size ∧ meth.locks = false ∧ (Jvm.Cond.and given_1 narrow_1).before #[Value.ref b] s = true
set_option maxRecDepth 100000 in
set_option maxHeartbeats 4000000 in
/-- a set of addresses of the world is among those that are new -/
theorem k_new {D : va_G} {cA : Nat → ClassId} {z sA : Nat → Nat} {A : Nat → Prop} (hD : va_D A (kWs cA z)) : ∀ q, oA (D, kAd z sA, cA) q → A q := fun q h => by
  obtain ⟨t, j, hj, rfl⟩ := h
  exact kAd_in hD hj
set_option maxHeartbeats 4000000 in
theorem k_tables {s : State} {args : Array Value} (hts : ∀ w ∈ lw_tbl, w.before args s = true) : ∃ (D : va_G) (cA : Nat → ClassId), va_K D vwCl (kTys cA) s := by
  have htb : ∀ w ∈ oTb, w.before args s = true := fun w h => hts w (oTb_in w h)
  obtain ⟨c0, iS0, hKn0⟩ := u_known (C := RX0) (T := TX0) (N := 8) (n := 8) htb oLayX0 (htb _ wd_310)
  obtain ⟨c1, iS1, hKn1⟩ := u_known (C := RX1) (T := TX1) (N := 11) (n := 11) htb oLayX1 (htb _ wd_71)
  obtain ⟨c2, iS2, hKn2⟩ := u_known (C := RX2) (T := TX2) (N := 3) (n := 3) htb oLayX2 (htb _ wd_123)
  obtain ⟨c3, iS3, hKn3⟩ := u_known (C := RX3) (T := TX3) (N := 13) (n := 13) htb oLayX3 (htb _ wd_116)
  obtain ⟨c4, iS4, hKn4⟩ := u_known (C := RX4) (T := TX4) (N := 10) (n := 10) htb oLayX4 (htb _ wd_22)
  obtain ⟨c5, iS5, hKn5⟩ := u_known (C := RX5) (T := TX5) (N := 15) (n := 15) htb oLayX5 (htb _ wd_191)
  obtain ⟨c6, iS6, hKn6⟩ := u_known (C := RX6) (T := TX6) (N := 10) (n := 10) htb oLayX6 (htb _ wd_267)
  obtain ⟨c7, iS7, hKn7⟩ := u_known (C := RX7) (T := TX7) (N := 2) (n := 2) htb oLayX7 (htb _ wd_252)
  obtain ⟨c8, iS8, hKn8⟩ := u_known (C := RX8) (T := TX8) (N := 8) (n := 8) htb oLayX8 (htb _ wd_14)
  obtain ⟨c9, iS9, hKn9⟩ := u_known (C := RX9) (T := TX9) (N := 65) (n := 65) htb oLayX9 (htb _ wd_852)
  obtain ⟨a0, k0, p0, f0, g0, e0⟩ := Cond.arrayClass_spec (htb _ wd_69)
  obtain ⟨a1, k1, p1, f1, g1, e1⟩ := Cond.arrayClass_spec (htb _ wd_68)
  obtain ⟨a2, k2, p2, f2, g2, e2⟩ := Cond.arrayClass_spec (htb _ wd_114)
  obtain ⟨p3, a3, k3, f3, -, g3, e3, m3⟩ := Cond.arrayOver_spec (n := "VillageOven$Load") (hts _ (oMemT 122 (by decide +kernel)))
  refine ⟨(fun k => if k = 0 then c0 else if k = 1 then c1 else if k = 2 then c2 else if k = 3 then c3 else if k = 4 then c4 else if k = 5 then c5 else if k = 6 then c6 else if k = 7 then c7 else if k = 8 then c8 else c9, fun k => if k = 0 then iS0 else if k = 1 then iS1 else if k = 2 then iS2 else if k = 3 then iS3 else if k = 4 then iS4 else if k = 5 then iS5 else if k = 6 then iS6 else if k = 7 then iS7 else if k = 8 then iS8 else iS9), fun k => if k = 0 then a0 else if k = 1 then a1 else if k = 2 then a2 else a3, ?_, ?_⟩
  · intro k q hq
    match k, hq with
    | 0, hq => cases hq; exact hKn0
    | 1, hq => cases hq; exact hKn1
    | 2, hq => cases hq; exact hKn2
    | 3, hq => cases hq; exact hKn3
    | 4, hq => cases hq; exact hKn4
    | 5, hq => cases hq; exact hKn5
    | 6, hq => cases hq; exact hKn6
    | 7, hq => cases hq; exact hKn7
    | 8, hq => cases hq; exact hKn8
    | 9, hq => cases hq; exact hKn9
    | k + 10, hq => simp [vwCl] at hq
  · intro k q hq
    match k, hq with
    | 0, hq => cases hq; exact ⟨fun n z => ⟨fun k h => (by cases h), k0, g0, p0, e0⟩, f0⟩
    | 1, hq => cases hq; exact ⟨fun n z => ⟨fun k h => (by cases h), k1, g1, p1, e1⟩, f1⟩
    | 2, hq => cases hq; exact ⟨fun n z => ⟨fun k h => (by cases h), k2, g2, p2, e2⟩, f2⟩
    | 3, hq => cases hq; exact ⟨fun n z => ⟨fun k h => (by cases h), k3, g3, p3, e3⟩, k3, p3, g3, e3, f3, m3⟩
    | k + 4, hq => simp [kTys] at hq
set_option maxHeartbeats 4000000 in
theorem k_statics {s : State} {args : Array Value} {A : Nat → Prop} (hts : ∀ w ∈ lw_tbl, w.before args s = true) (hgv : (Jvm.Cond.and given_1 narrow_1).before args s = true) (hA : ∀ a : Nat, a < s.heap.size → ¬ A a) : ∃ sA : Nat → Nat, ∀ i, i < 5 → va_Z "VillageOven" (oSn i) "[I" (.ref (sA i)) A s s.heap ∧ ∀ r : oR, va_T .int (sA i) (oSl r i) (fun j => .int (oSv r i j)) A s s.heap := by
  have hs := flat_of_before _ hgv
  have hini := hts _ (oTb_in _ wd_1)
  obtain ⟨t0, e0, T0⟩ := va_Tof (args := args) (s := s) (tm := .static "VillageOven" "MASS" "[I") (ty := .int) (N := 3) (f := fun j => .int (oMASS j)) (A := A) (by decide) (hs _ (by decide +kernel)) (va_eqt (hs _ (by decide +kernel))) (lt_s (lt_s (lt_s lt_0 (va_eqt (hs _ (by decide +kernel)))) (va_eqt (hs _ (by decide +kernel)))) (va_eqt (hs _ (by decide +kernel)))) hA
  have Z0 := va_Zref (A := A) (hts _ (oMemT 28 (by decide +kernel))) hini e0 hA
  obtain ⟨t1, e1, T1⟩ := va_Tof (args := args) (s := s) (tm := .static "VillageOven" "ROOM" "[I") (ty := .int) (N := 4) (f := fun j => .int (oROOM j)) (A := A) (by decide) (hs _ (by decide +kernel)) (va_eqt (hs _ (by decide +kernel))) (lt_s (lt_s (lt_s (lt_s lt_0 (va_eqt (hs _ (by decide +kernel)))) (va_eqt (hs _ (by decide +kernel)))) (va_eqt (hs _ (by decide +kernel)))) (va_eqt (hs _ (by decide +kernel)))) hA
  have Z1 := va_Zref (A := A) (hts _ (oMemT 554 (by decide +kernel))) hini e1 hA
  obtain ⟨t2, e2, T2⟩ := va_Tof (args := args) (s := s) (tm := .static "VillageOven" "DOOR_DRAUGHT" "[I") (ty := .int) (N := 4) (f := fun j => .int (oDRAUGHT j)) (A := A) (by decide) (hs _ (by decide +kernel)) (va_eqt (hs _ (by decide +kernel))) (lt_s (lt_s (lt_s (lt_s lt_0 (va_eqt (hs _ (by decide +kernel)))) (va_eqt (hs _ (by decide +kernel)))) (va_eqt (hs _ (by decide +kernel)))) (va_eqt (hs _ (by decide +kernel)))) hA
  have Z2 := va_Zref (A := A) (hts _ (oMemT 457 (by decide +kernel))) hini e2 hA
  obtain ⟨t3, e3, T3⟩ := va_Tof (args := args) (s := s) (tm := .static "VillageOven" "PAIR_IN" "[I") (ty := .int) (N := 3) (f := fun j => .int (oPIN j)) (A := A) (by decide) (hs _ (by decide +kernel)) (va_eqt (hs _ (by decide +kernel))) (lt_s (lt_s (lt_s lt_0 (va_eqt (hs _ (by decide +kernel)))) (va_eqt (hs _ (by decide +kernel)))) (va_eqt (hs _ (by decide +kernel)))) hA
  have Z3 := va_Zref (A := A) (hts _ (oMemT 661 (by decide +kernel))) hini e3 hA
  obtain ⟨t4, e4, T4⟩ := va_Tof (args := args) (s := s) (tm := .static "VillageOven" "PAIR_OUT" "[I") (ty := .int) (N := 3) (f := fun j => .int (oPOUT j)) (A := A) (by decide) (hs _ (by decide +kernel)) (va_eqt (hs _ (by decide +kernel))) (lt_s (lt_s (lt_s lt_0 (va_eqt (hs _ (by decide +kernel)))) (va_eqt (hs _ (by decide +kernel)))) (va_eqt (hs _ (by decide +kernel)))) hA
  have Z4 := va_Zref (A := A) (hts _ (oMemT 658 (by decide +kernel))) hini e4 hA
  refine ⟨fun k => if k = 0 then t0 else if k = 1 then t1 else if k = 2 then t2 else if k = 3 then t3 else t4, ?_⟩
  exact lt_s (lt_s (lt_s (lt_s (lt_s lt_0 ⟨Z0, fun _ => T0⟩) ⟨Z1, fun _ => T1⟩) ⟨Z2, fun _ => T2⟩) ⟨Z3, fun _ => T3⟩) ⟨Z4, fun _ => T4⟩
/-- the law's end, in V's words -/
theorem k_end {p : Program} {l : Launch} {e : Env} {s : State} {m : MethodId} {below : List Frame} {meth : Method} {c : Code} {b cells slots : Nat} {G : oG} {r : oR} (hr : meth.sig.returnType = ret) (hc : cells ≤ 600000) (hs : slots ≤ 7302250) (hG : ∀ q, oA G q → s.heap.size ≤ q) : oEZ ((p, l, e, room_1, s), (m, #[Value.ref b], below, meth, c), (cells, slots, lw_Z below #[Value.ref b] s), G, r) mL_law (fun z => z.1 = 1) := by
  intro pc lv v S hd _ hv
  have hv : v = 1 := hv
  subst hv
  intro hO H locs ls hl hP hS
  refine va_forget (fun q hq => hG _ (hS.2.2 q hq)) ?_
  refine W.widen (k := 600000) (n := 7302250) hc hs ?_
  exact lw_ret hO.1 hO.2.1 hr hO.2.2.2.1 hd
set_option maxRecDepth 100000 in
set_option maxHeartbeats 4000000 in
/-- the law's start, if the pure law answers 1 -/
theorem start_open (hpure : ∀ r0 : oR, r0.1 ≤ 4096 → ∃ S : oS, f_L_law r0 0 oS0 = some (1, S)) {p : Program} {e : Env} {s : State} {m : MethodId} {below : List Frame} {meth : Method} {c : Code} (l : Launch) {b L : Nat} {xs : Nat → Int32} (hL : L ≤ 4096) (C0 : lw_At p s m meth c b L xs) : W p l e room_1 s m #[Value.ref b] below meth c s.heap [] 0 0 (lw_Z below #[Value.ref b] s) (entryFrame m ([Value.ref b] : List Value).toArray 4) := by
  obtain ⟨hx, hb, hr, hml, hown, hts, hX, hbl, hlocks, hgv⟩ := id C0
  have htb : ∀ w ∈ oTb, w.before #[Value.ref b] s = true := fun w h => hts w (oTb_in w h)
  have hA : ∀ a : Nat, a < s.heap.size → ¬ (fun q : Nat => s.heap.size ≤ q) a := fun a h => Nat.not_le.mpr h
  obtain ⟨D, cA, hK⟩ := k_tables hts
  obtain ⟨tA, hst⟩ := k_statics (A := fun q : Nat => s.heap.size ≤ q) hts hgv hA
  have hN : ∀ w ∈ oNest, va_Nw w s := by
    intro w hw
    have hh := hts w (oNest_in w hw)
    simp only [oNest, List.mem_cons, List.not_mem_nil, or_false] at hw
    rcases hw with rfl | rfl | rfl | rfl | rfl | rfl | rfl | rfl | rfl | rfl | rfl | rfl | rfl | rfl | rfl <;> exact va_Nw.of rfl hh
  have hAO : va_AO "VillageOven$Load" s := va_AO.of (hts _ (oMemT 122 (by decide +kernel)))
  have hl := lv_entry ([.ref b]) (n := 4) (Nat.le_of_ble_eq_true rfl)
  rw [lg_entry_eq]
  generalize (lg_sl ([.ref b]) ++ List.replicate (4 - (lg_sl ([.ref b])).length) Slot.unset).toArray = ls at hl ⊢
  have hl : lv_has ls 4 [(0, .ref b)] := hl
  have hO : kOk p s m #[Value.ref b] meth c mL_law D cA (tA 0) (fun q : Nat => s.heap.size ≤ q) := ⟨hx, hb, hml, hlocks, hown, htb, ⟨hK, hN, (hst 0 (by decide)).1, (hst 0 (by decide)).2 (0, fun _ => 0), hAO⟩, fun _ h => h⟩
  generalize hY : (((p, l, e, room_1, s), (m, #[Value.ref b], below, meth, c), lw_Z below #[Value.ref b] s, D, cA, tA 0, fun q : Nat => s.heap.size ≤ q) : oY) = Y
  have hR : kRoom Y 4 600000 7302250 := by
    subst hY
    exact ⟨Nat.le_of_ble_eq_true rfl, Nat.le_of_ble_eq_true rfl, Nat.le_refl _, Nat.le_refl _⟩
  have key : oKv Y mL_law 0 [(0, .ref b)] [] [] 0 0 := by
    refine c_new (ci := 8) (ty := tyX8) (pc := 0) (k := 0) (n := 0) [.null, .null, .null, .null, .null, .null, .null, .int 0] ⟨Nat.le_trans (by decide) hR.2.2.1, Nat.le_trans (by decide) hR.2.2.2⟩ rfl oLayX8 tyX8_ok wd_13 wd_14 wd_1 (by intro j hj; exact kDf8 j hj) dL_law_0 (fun zx => ?_)
    refine c_dup (pc := 3) dL_law_3 rfl ?_
    refine c_callI (wr := []) (pc := 4) (d := 3) [] (hR.to (by decide) (by decide) (by decide)) md_X8_init rfl rfl wd_15 wd_16 rfl (Nat.le_of_ble_eq_true rfl) rfl rfl dL_law_4 (fun sz => k_X8 _ _ _ _ sz) (fun w1 hw1 => ?_)
    obtain ⟨zx0, zx1, zx2, zx3, zx4, zx5, zx6, zx7, zx8, zx9, zx10, zx11, zx12, zx13, zx14, zx15, zx16, zx17, zx18, zx19, zx20, zx21, zx22, zx23, zx24, zx25, zx26, zx27, zx28, zx29, zx30, zx31, zx32, zx33, zx34, zx35, zx36, zx37, zx38, zx39, zx40, zx41, zx42, zx43, zx44, zx45, zx46, zx47, zx48, zx49, zx50, zx51, zx52, zx53, zx54, zx55, zx56, zx57, zx58, zx59, zx60, zx61, zx62, zx63, zx64, zx65, zx66, zx67, zx68, zx69, zx70, zx71, zx72, zx73, zx74, rfl⟩ := hw1
    refine c_astore_n (lv1 := [(1, .ref zx), (0, .ref b)]) (pc := 7) dL_law_7 rfl (by decide) rfl ?_
    refine c_new (ci := 9) (ty := tyX9) (pc := 8) (k := 76) (n := 2375) [.int 0, .null, .null, .null, .int 0, .int 0, .null, .null, .long 0, .long 0, .long 0, .int 0, .int 0, .int 0, .null, .null, .null, .null, .null, .null, .null, .null, .null, .null, .int 0, .null, .null, .null, .null, .null, .null, .int 0, .int 0, .null, .int 0, .null, .int 0, .int 0, .int 0, .int 0, .int 0, .null, .null, .null, .null, .null, .int 0, .null, .null, .null, .null, .null, .long 0, .int 0, .int 0, .int 0, .null, .int 0, .null, .null, .null, .null, .null, .int 0, .null] ⟨Nat.le_trans (by decide) hR.2.2.1, Nat.le_trans (by decide) hR.2.2.2⟩ rfl oLayX9 tyX9_ok wd_851 wd_852 wd_10 (by intro j hj; exact kDf9 j hj) dL_law_8 (fun zy => ?_)
    refine c_dup (pc := 11) dL_law_11 rfl ?_
    refine c_callI (wr := [(zx, .inr (8, [.ref zx0, .ref zx6, .ref zx17, .ref zx29, .ref zx52, .ref zx65, .ref zx71, .int 0])), (zx0, .inr (4, [.ref zx1, .ref zx2, .ref zx3, .ref zx4, .ref zx5, .int 0, .int 0, .int 10, .long 0, .long 0])), (zx1, .inl (Y.2.2.2.2.1 1, 12, .inr (.inl (oHe 12)))), (zx2, .inl (Y.2.2.2.2.1 0, 4, .inl (fun _ => 0))), (zx3, .inl (Y.2.2.2.2.1 0, 4, .inl (fun _ => 0))), (zx4, .inl (Y.2.2.2.2.1 0, 30, .inl (fun _ => 0))), (zx5, .inl (Y.2.2.2.2.1 0, 30, .inl (fun _ => 0))), (zx6, .inr (1, [.ref zx7, .ref zx8, .ref zx9, .ref zx10, .ref zx11, .ref zx12, .ref zx13, .ref zx14, .ref zx15, .ref zx16, .int 0])), (zx7, .inl (Y.2.2.2.2.1 0, 8, .inl (fun _ => 0))), (zx8, .inl (Y.2.2.2.2.1 2, 8, .inl (fun _ => 0))), (zx9, .inl (Y.2.2.2.2.1 0, 8, .inl (fun _ => 0))), (zx10, .inl (Y.2.2.2.2.1 0, 8, .inl (fun _ => 0))), (zx11, .inl (Y.2.2.2.2.1 0, 8, .inl (fun _ => 0))), (zx12, .inl (Y.2.2.2.2.1 0, 8, .inl (fun _ => 0))), (zx13, .inl (Y.2.2.2.2.1 0, 8, .inl (fun _ => 0))), (zx14, .inl (Y.2.2.2.2.1 0, 8, .inl (fun _ => 0))), (zx15, .inl (Y.2.2.2.2.1 0, 8, .inl (fun _ => 0))), (zx16, .inl (Y.2.2.2.2.1 0, 8, .inl (fun _ => 0))), (zx17, .inr (3, [.ref zx6, .ref zx18, .ref zx19, .ref zx20, .ref zx21, .ref zx22, .ref zx23, .ref zx24, .int 0, .int 0, .int 0, .long 0, .int 0])), (zx18, .inl (Y.2.2.2.2.1 3, 4, .inr (.inr (.inr (.inr (va_up (va_up (va_up (va_up (fun _ => none) 0 (some zx25)) 1 (some zx26)) 2 (some zx27)) 3 (some zx28))))))), (zx19, .inl (Y.2.2.2.2.1 0, 200, .inl (fun _ => 0))), (zx20, .inl (Y.2.2.2.2.1 0, 200, .inl (fun _ => 0))), (zx21, .inl (Y.2.2.2.2.1 0, 200, .inl (fun _ => 0))), (zx22, .inl (Y.2.2.2.2.1 0, 200, .inl (fun _ => 0))), (zx23, .inl (Y.2.2.2.2.1 0, 200, .inl (fun _ => 0))), (zx24, .inl (Y.2.2.2.2.1 0, 200, .inl (fun _ => 0))), (zx25, .inr (2, [.int 0, .int 0, .int 0])), (zx26, .inr (2, [.int 0, .int 0, .int 0])), (zx27, .inr (2, [.int 0, .int 0, .int 0])), (zx28, .inr (2, [.int 0, .int 0, .int 0])), (zx29, .inr (5, [.ref zx6, .ref zx30, .ref zx36, .ref zx37, .ref zx38, .ref zx39, .ref zx40, .ref zx41, .ref zx42, .ref zx43, .int 0, .int 0, .int 0, .int 0, .int 0])), (zx30, .inr (4, [.ref zx31, .ref zx32, .ref zx33, .ref zx34, .ref zx35, .int 0, .int 0, .int 10, .long 0, .long 0])), (zx31, .inl (Y.2.2.2.2.1 1, 12, .inr (.inl (oHe 12)))), (zx32, .inl (Y.2.2.2.2.1 0, 4, .inl (fun _ => 0))), (zx33, .inl (Y.2.2.2.2.1 0, 4, .inl (fun _ => 0))), (zx34, .inl (Y.2.2.2.2.1 0, 30, .inl (fun _ => 0))), (zx35, .inl (Y.2.2.2.2.1 0, 30, .inl (fun _ => 0))), (zx36, .inl (Y.2.2.2.2.1 1, 160, .inr (.inl (oHe 0)))), (zx37, .inl (Y.2.2.2.2.1 0, 4, .inl (fun _ => 0))), (zx38, .inl (Y.2.2.2.2.1 0, 3, .inl (fun _ => 0))), (zx39, .inl (Y.2.2.2.2.1 2, 48, .inl (fun _ => 0))), (zx40, .inl (Y.2.2.2.2.1 0, 5, .inl (fun _ => 0))), (zx41, .inl (Y.2.2.2.2.1 3, 8, .inr (.inr (.inr (.inr (va_up (va_up (va_up (va_up (va_up (va_up (va_up (va_up (fun _ => none) 0 (some zx44)) 1 (some zx45)) 2 (some zx46)) 3 (some zx47)) 4 (some zx48)) 5 (some zx49)) 6 (some zx50)) 7 (some zx51))))))), (zx42, .inl (Y.2.2.2.2.1 0, 4, .inl (fun _ => 0))), (zx43, .inl (Y.2.2.2.2.1 0, 4, .inl (fun _ => 0))), (zx44, .inr (2, [.int 0, .int 0, .int 0])), (zx45, .inr (2, [.int 0, .int 0, .int 0])), (zx46, .inr (2, [.int 0, .int 0, .int 0])), (zx47, .inr (2, [.int 0, .int 0, .int 0])), (zx48, .inr (2, [.int 0, .int 0, .int 0])), (zx49, .inr (2, [.int 0, .int 0, .int 0])), (zx50, .inr (2, [.int 0, .int 0, .int 0])), (zx51, .inr (2, [.int 0, .int 0, .int 0])), (zx52, .inr (7, [.ref zx53, .ref zx59])), (zx53, .inr (4, [.ref zx54, .ref zx55, .ref zx56, .ref zx57, .ref zx58, .int 0, .int 0, .int 10, .long 0, .long 0])), (zx54, .inl (Y.2.2.2.2.1 1, 12, .inr (.inl (oHe 12)))), (zx55, .inl (Y.2.2.2.2.1 0, 4, .inl (fun _ => 0))), (zx56, .inl (Y.2.2.2.2.1 0, 4, .inl (fun _ => 0))), (zx57, .inl (Y.2.2.2.2.1 0, 30, .inl (fun _ => 0))), (zx58, .inl (Y.2.2.2.2.1 0, 30, .inl (fun _ => 0))), (zx59, .inr (4, [.ref zx60, .ref zx61, .ref zx62, .ref zx63, .ref zx64, .int 0, .int 0, .int 10, .long 0, .long 0])), (zx60, .inl (Y.2.2.2.2.1 1, 12, .inr (.inl (oHe 12)))), (zx61, .inl (Y.2.2.2.2.1 0, 4, .inl (fun _ => 0))), (zx62, .inl (Y.2.2.2.2.1 0, 4, .inl (fun _ => 0))), (zx63, .inl (Y.2.2.2.2.1 0, 30, .inl (fun _ => 0))), (zx64, .inl (Y.2.2.2.2.1 0, 30, .inl (fun _ => 0))), (zx65, .inr (6, [.ref zx66, .ref zx67, .ref zx68, .ref zx69, .ref zx70, .int 0, .int 4, .int 0, .int 0, .int 3])), (zx66, .inl (Y.2.2.2.2.1 0, 30, .inl (fun _ => 0))), (zx67, .inl (Y.2.2.2.2.1 0, 30, .inl (fun _ => 0))), (zx68, .inl (Y.2.2.2.2.1 0, 30, .inl (fun _ => 0))), (zx69, .inl (Y.2.2.2.2.1 2, 30, .inl (fun _ => 0))), (zx70, .inl (Y.2.2.2.2.1 0, 8, .inl (fun _ => 0))), (zx71, .inr (0, [.ref zx72, .ref zx73, .ref zx74, .int 0, .int 0, .int 0, .int 0, .int 0])), (zx72, .inl (Y.2.2.2.2.1 0, 244, .inl (fun _ => 0))), (zx73, .inl (Y.2.2.2.2.1 0, 10, .inl (fun _ => 0))), (zx74, .inl (Y.2.2.2.2.1 0, 10, .inl (fun _ => 0)))]) (pc := 12) (d := 2) [] (hR.to (by decide) (by decide) (by decide)) md_X9_init rfl rfl wd_853 wd_854 rfl (Nat.le_of_ble_eq_true rfl) rfl rfl dL_law_12 (fun sz => k_X9 _ _ _ _ sz) (fun w1 hw1 => ?_)
    obtain ⟨zy0, zy1, zy2, zy3, zy4, zy5, zy6, zy7, zy8, zy9, zy10, zy11, zy12, zy13, zy14, zy15, zy16, zy17, zy18, zy19, zy20, zy21, zy22, zy23, zy24, zy25, zy26, zy27, zy28, zy29, zy30, zy31, zy32, zy33, zy34, zy35, zy36, zy37, zy38, zy39, rfl⟩ := hw1
    refine c_astore_n (lv1 := [(2, .ref zy), (1, .ref zx), (0, .ref b)]) (pc := 15) dL_law_15 rfl (by decide) rfl ?_
    refine c_iconst (v := 0) (pc := 16) dL_law_16 (by decide) ?_
    refine c_istore_n (lv1 := [(3, .int 0), (2, .ref zy), (1, .ref zx), (0, .ref b)]) (pc := 17) dL_law_17 rfl (by decide) rfl ?_
    show oKv Y mL_law 18 [(3, .int 0), (2, .ref zy), (1, .ref zx), (0, .ref b)] [] (kWs Y.2.2.2.2.1 (fun i => ([zx, zx0, zx1, zx2, zx3, zx4, zx5, zx6, zx7, zx8, zx9, zx10, zx11, zx12, zx13, zx14, zx15, zx16, zx17, zx18, zx19, zx20, zx21, zx22, zx23, zx24, zx25, zx26, zx27, zx28, zx29, zx30, zx31, zx32, zx33, zx34, zx35, zx36, zx37, zx38, zx39, zx40, zx41, zx42, zx43, zx44, zx45, zx46, zx47, zx48, zx49, zx50, zx51, zx52, zx53, zx54, zx55, zx56, zx57, zx58, zx59, zx60, zx61, zx62, zx63, zx64, zx65, zx66, zx67, zx68, zx69, zx70, zx71, zx72, zx73, zx74, zy, zy0, zy1, zy2, zy3, zy4, zy5, zy6, zy7, zy8, zy9, zy10, zy11, zy12, zy13, zy14, zy15, zy16, zy17, zy18, zy19, zy20, zy21, zy22, zy23, zy24, zy25, zy26, zy27, zy28, zy29, zy30, zy31, zy32, zy33, zy34, zy35, zy36, zy37, zy38, zy39] : List Nat).getD i 0)) 117 4487
    obtain ⟨z, hz⟩ : ∃ z : Nat → Nat, z = fun i => ([zx, zx0, zx1, zx2, zx3, zx4, zx5, zx6, zx7, zx8, zx9, zx10, zx11, zx12, zx13, zx14, zx15, zx16, zx17, zx18, zx19, zx20, zx21, zx22, zx23, zx24, zx25, zx26, zx27, zx28, zx29, zx30, zx31, zx32, zx33, zx34, zx35, zx36, zx37, zx38, zx39, zx40, zx41, zx42, zx43, zx44, zx45, zx46, zx47, zx48, zx49, zx50, zx51, zx52, zx53, zx54, zx55, zx56, zx57, zx58, zx59, zx60, zx61, zx62, zx63, zx64, zx65, zx66, zx67, zx68, zx69, zx70, zx71, zx72, zx73, zx74, zy, zy0, zy1, zy2, zy3, zy4, zy5, zy6, zy7, zy8, zy9, zy10, zy11, zy12, zy13, zy14, zy15, zy16, zy17, zy18, zy19, zy20, zy21, zy22, zy23, zy24, zy25, zy26, zy27, zy28, zy29, zy30, zy31, zy32, zy33, zy34, zy35, zy36, zy37, zy38, zy39] : List Nat).getD i 0 := ⟨_, rfl⟩
    have z0 : z 0 = zx := by rw [hz]; rfl
    have z1 : z 76 = zy := by rw [hz]; rfl
    rw [← hz, ← z0, ← z1]
    clear hz z0 z1
    subst hY
    intro hO H locs ls hl hP hD hS
    refine va_forget hS.2.2 ?_
    obtain ⟨sA, hsA⟩ : ∃ sA : Nat → Nat, sA = fun i => if i = 5 then b else tA i := ⟨_, rfl⟩
    have hG : ∀ q, oA (D, kAd z sA, cA) q → s.heap.size ≤ q := k_new hD
    have e0 : kAd z sA 2005 0 = b := by rw [hsA]; rfl
    have e1 : kAd z sA 900 0 = z 0 := kAd_at po_900_0 (by decide)
    have e2 : kAd z sA 1000 0 = z 76 := kAd_at po_1000_0 (by decide)
    have hl2 : lv_has ls 4 (oLc (kAd z sA) [(0, orf 2005 0), (1, orf 900 0), (2, orf 1000 0), (3, oi 0)]) := by
      show lv_has ls 4 [(0, .ref (kAd z sA 2005 0)), (1, .ref (kAd z sA 900 0)), (2, .ref (kAd z sA 1000 0)), (3, .int 0)]
      rw [e0, e1, e2]
      exact lv_sub hl [3, 2, 1, 0] rfl
    have eT : ∀ i, i < 5 → kAd z sA (2000 + i) 0 = tA i := fun i hi => by
      unfold kAd
      rw [if_pos (by omega), Nat.add_sub_cancel_left, hsA]
      show (if i = 5 then b else tA i) = tA i
      rw [if_neg (by omega)]
    obtain ⟨scr, x1, x2, x3, x4, x5⟩ := hX
    have hFix : oFix (D, kAd z sA, cA) (L, xs) s := by
      refine ⟨hK, hN, fun i hi => ?_, fun i hi => ?_⟩
      · show va_Z "VillageOven" (oSn i) "[I" (.ref (kAd z sA (2000 + i) 0)) _ s s.heap
        rw [eT i hi]
        exact (hst i hi).1.narrow hG
      · show va_T .int (kAd z sA (2000 + i) 0) _ _ _ s s.heap
        by_cases h5 : i = 5
        · subst h5
          show va_T .int (kAd z sA 2005 0) _ _ _ s s.heap
          rw [e0]
          exact ⟨scr, x1, x2, x3, Nat.le_of_eq x4.symm, by rw [x4]; rfl, x5, fun q => absurd (hG b q) (Nat.not_le.mpr hbl)⟩
        · rw [eT i (by omega)]
          exact ((hst i (by omega)).2 (L, xs)).narrow hG
    obtain ⟨S1, hS1⟩ := hpure (L, xs) hL
    have V := s_L_law (X := ((p, l, e, room_1, s), (m, #[Value.ref b], below, meth, c), (117, 4487, lw_Z below #[Value.ref b] s), (D, kAd z sA, cA), (L, xs))) (e := 30) (by decide) ⟨by decide, by decide, by decide, by decide⟩ (r0 := (L, xs)) rfl (za3 := 0) (P := fun z => z.1 = 1) (k_end hr (by decide) (by decide) hG) (S := oS0) ⟨(1, S1), hS1, rfl⟩
    exact V ⟨hx, hb, hml, hlocks, hown, htb, hFix, kInj hD⟩ H [] ls hl2 (k_bridge hP) ⟨hS.1, fun q h1 _ => hS.2.1 q h1 (Nat.not_le.mpr h1), fun _ h => by cases h⟩
  subst hY
  exact key hO s.heap [] ls hl (fun k q h => by simp at h) ⟨fun i j p q h => by simp at h, fun k q h => by simp at h⟩ va_S.rf
