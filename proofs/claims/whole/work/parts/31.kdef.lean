def oHv (k : Nat) : Int64 := if k % 3 = 0 then 100 else if k % 3 = 1 then 300 else 600
def oHe : Nat → Nat → Int64
  | 0 => fun _ => 0
  | k + 1 => vp_updL (oHe k) k (oHv k)
def oLd (a : Nat → Nat) : Nat → Nat → Option Nat
  | 0 => fun _ => none
  | k + 1 => va_up (oLd a k) k (some (a k))
theorem kRoom.lo {Y : oY} {d k n : Nat} (h : kRoom Y d k n) (hd : 1 ≤ d) : kRoom Y 1 0 0 := ⟨Nat.le_trans hd h.1, Nat.le_trans (Nat.mul_le_mul_left 40 hd) h.2.1, Nat.zero_le _, Nat.zero_le _⟩
theorem kRoom.to {Y : oY} {d k n d' k' n' : Nat} (h : kRoom Y d k n) (h1 : d' ≤ d) (h2 : k' ≤ k) (h3 : n' ≤ n) : kRoom Y d' k' n' := ⟨Nat.le_trans h1 h.1, Nat.le_trans (Nat.mul_le_mul_left 40 h1) h.2.1, Nat.le_trans h2 h.2.2.1, Nat.le_trans h3 h.2.2.2⟩
/-- VillageOvenModel.massOf touches no cell -/
def kSi (v : Int32) : Array Value → State → Outcome → State → Prop := fun _ st o t => o = .returned (some (.int v)) ∧ t.heap = st.heap
set_option maxHeartbeats 4000000 in
theorem k_mass (l : Launch) (x : Int32) : Met l yX9_massOf (Cond.code yX9_massOf mX9_massOf.2.1 mX9_massOf.2.2.1 mX9_massOf.2.2.2 :: oTb) (oRm 1) (va_Pc [.int x] (fun _ => True)) (kSi (if x = 0 then 10 else if x = 1 then 30 else 60)) 0 0 (fun _ => False) := by
  refine Met.ofW (cc := cX9_massOf) (maxL := 1) (ret := some .int) (by decide) rfl ?_
  intro p e s m args below meth c s₁ B hml hv
  obtain ⟨rfl, -⟩ := hv
  have hx := B.exec
  have hb := B.bytes
  have hr := B.returns
  have hlocks := B.notSynchronized
  have hl := lv_entry ([.int x]) (n := 1) (Nat.le_of_ble_eq_true rfl)
  rw [lg_entry_eq]
  generalize (lg_sl ([.int x]) ++ List.replicate (1 - (lg_sl ([.int x])).length) Slot.unset).toArray = ls at hl ⊢
  have hl : lv_has ls 1 [(0, .int x)] := hl
  refine lv_iload_n hx hb dX9_massOf_0 rfl (lv_at hl 0 rfl) ?_
  refine lv_if_ne (tgt := 9) hx hb dX9_massOf_1 (by decide) (fun hc => ?_) (fun hc => ?_)
  · refine lv_iload_n hx hb dX9_massOf_9 rfl (lv_at hl 0 rfl) ?_
    refine lv_iconst (v := 1) hx hb dX9_massOf_10 (by decide) ?_
    refine lv_icmp_ne (tgt := 19) hx hb dX9_massOf_11 (by decide) (fun hc => ?_) (fun hc => ?_)
    · refine lv_bipush (v := 60) hx hb dX9_massOf_19 (by decide) ?_
      exact W.iret hx hb hr (fun t ht hW => ⟨by simp_all, ht⟩) (fun _ h => by cases h) dX9_massOf_21
    · refine lv_bipush (v := 30) hx hb dX9_massOf_14 (by decide) ?_
      refine lv_goto (tgt := 21) hx hb dX9_massOf_16 (by decide) ?_
      exact W.iret hx hb hr (fun t ht hW => ⟨by simp_all, ht⟩) (fun _ h => by cases h) dX9_massOf_21
  · refine lv_bipush (v := 10) hx hb dX9_massOf_4 (by decide) ?_
    refine lv_goto (tgt := 21) hx hb dX9_massOf_6 (by decide) ?_
    exact W.iret hx hb hr (fun t ht hW => ⟨by simp_all, ht⟩) (fun _ h => by cases h) dX9_massOf_21
theorem c_mass {Y : oY} {M : oM} {pc idx : Nat} {lv : List (Nat × Value)} {st : List Value} {ws : va_W} {k n : Nat} {x v : Int32} (hR : kRoom Y 2 k n) (hw : oW (.methodLink M.1 idx yX9_massOf)) (hst : (st.map fun v => v.category).sum ≤ 8) (hv : (if x = 0 then 10 else if x = 1 then 30 else 60) = v) (hd : decode M.2.1 pc = .ok (.invokestatic idx, 3)) (kk : oKv Y M (pc + 3) lv (.int v :: st) ws k n) : oKv Y M pc lv (.int x :: st) ws k n := by
  subst hv
  obtain ⟨⟨p, l, e, R, s⟩, ⟨m, args, below, meth, c⟩, Q, D, cA, ms, A⟩ := Y
  intro hO H locs ls hl hP hD hS
  obtain ⟨hR1, hR2, hR3, hR4⟩ := hR
  obtain ⟨m1, m2, m3, m4⟩ := md_X9_massOf
  have hr := va_runS (R := R) (H := H) (locs := locs) (cells := k) (slots := n) (As := [.int x]) (rest := st) (g := F0 m pc ls (.int x :: st)) (bytes := cX9_massOf) (maxL := 1) (ret := some .int) (n := 1) ⟨hO.1, hO.2.1, hO.2.2.1, hO.2.2.2.2.1, hO.2.2.2.2.2.1⟩ (k_mass l x) ⟨callB_of 1 hO.2.2.2.2.2.1 (oGood m1) rfl rfl rfl (hO.2.2.2.2.2.1 _ m2) (hO.2.2.2.2.2.1 _ hw) m4 ⟨hR1, Nat.le_trans (by decide) hR2⟩, hO.2.2.2.2.2.1 _ wd_859⟩ ⟨fun a U g mk q => q, fun U hU hW => ⟨rfl, trivial⟩⟩ rfl rfl hl.1 rfl (lv_room hst) hd ⟨hR3, hR4⟩ (e := e) (below := below) (meth := meth)
  intro T hT X
  obtain ⟨v, st₀, t, T', L, h0, X', hL, e1, e2, ⟨hv, hh⟩, st'⟩ := hr T hT X
  cases hv
  have hTH : T'.heap = H := by rw [e1, hh, h0]
  have hLn : L = [] := by
    cases L with
    | nil => rfl
    | cons a L => exact (hL a List.mem_cons_self).elim
  subst hLn
  rw [List.append_nil] at X'
  obtain ⟨t2, a1, b1⟩ := kk hO H locs ls hl hP hD hS T' hTH X'
  exact ⟨t2, st' t2 a1, b1⟩
theorem kDf0 : ∀ j, j < 8 → defaultValue (tyX0 j) = vp_V [.null, .null, .null, .int 0, .int 0, .int 0, .int 0, .int 0] j := (lt_s (lt_s (lt_s (lt_s (lt_s (lt_s (lt_s (lt_s lt_0 rfl) rfl) rfl) rfl) rfl) rfl) rfl) rfl)
theorem kDf1 : ∀ j, j < 11 → defaultValue (tyX1 j) = vp_V [.null, .null, .null, .null, .null, .null, .null, .null, .null, .null, .int 0] j := (lt_s (lt_s (lt_s (lt_s (lt_s (lt_s (lt_s (lt_s (lt_s (lt_s (lt_s lt_0 rfl) rfl) rfl) rfl) rfl) rfl) rfl) rfl) rfl) rfl) rfl)
theorem kDf2 : ∀ j, j < 3 → defaultValue (tyX2 j) = vp_V [.int 0, .int 0, .int 0] j := (lt_s (lt_s (lt_s lt_0 rfl) rfl) rfl)
theorem kDf3 : ∀ j, j < 13 → defaultValue (tyX3 j) = vp_V [.null, .null, .null, .null, .null, .null, .null, .null, .int 0, .int 0, .int 0, .long 0, .int 0] j := (lt_s (lt_s (lt_s (lt_s (lt_s (lt_s (lt_s (lt_s (lt_s (lt_s (lt_s (lt_s (lt_s lt_0 rfl) rfl) rfl) rfl) rfl) rfl) rfl) rfl) rfl) rfl) rfl) rfl) rfl)
theorem kDf4 : ∀ j, j < 10 → defaultValue (tyX4 j) = vp_V [.null, .null, .null, .null, .null, .int 0, .int 0, .int 0, .long 0, .long 0] j := (lt_s (lt_s (lt_s (lt_s (lt_s (lt_s (lt_s (lt_s (lt_s (lt_s lt_0 rfl) rfl) rfl) rfl) rfl) rfl) rfl) rfl) rfl) rfl)
theorem kDf5 : ∀ j, j < 15 → defaultValue (tyX5 j) = vp_V [.null, .null, .null, .null, .null, .null, .null, .null, .null, .null, .int 0, .int 0, .int 0, .int 0, .int 0] j := (lt_s (lt_s (lt_s (lt_s (lt_s (lt_s (lt_s (lt_s (lt_s (lt_s (lt_s (lt_s (lt_s (lt_s (lt_s lt_0 rfl) rfl) rfl) rfl) rfl) rfl) rfl) rfl) rfl) rfl) rfl) rfl) rfl) rfl) rfl)
theorem kDf6 : ∀ j, j < 10 → defaultValue (tyX6 j) = vp_V [.null, .null, .null, .null, .null, .int 0, .int 0, .int 0, .int 0, .int 0] j := (lt_s (lt_s (lt_s (lt_s (lt_s (lt_s (lt_s (lt_s (lt_s (lt_s lt_0 rfl) rfl) rfl) rfl) rfl) rfl) rfl) rfl) rfl) rfl)
theorem kDf7 : ∀ j, j < 2 → defaultValue (tyX7 j) = vp_V [.null, .null] j := (lt_s (lt_s lt_0 rfl) rfl)
theorem kDf8 : ∀ j, j < 8 → defaultValue (tyX8 j) = vp_V [.null, .null, .null, .null, .null, .null, .null, .int 0] j := (lt_s (lt_s (lt_s (lt_s (lt_s (lt_s (lt_s (lt_s lt_0 rfl) rfl) rfl) rfl) rfl) rfl) rfl) rfl)
theorem kDf9 : ∀ j, j < 65 → defaultValue (tyX9 j) = vp_V [.int 0, .null, .null, .null, .int 0, .int 0, .null, .null, .long 0, .long 0, .long 0, .int 0, .int 0, .int 0, .null, .null, .null, .null, .null, .null, .null, .null, .null, .null, .int 0, .null, .null, .null, .null, .null, .null, .int 0, .int 0, .null, .int 0, .null, .int 0, .int 0, .int 0, .int 0, .int 0, .null, .null, .null, .null, .null, .int 0, .null, .null, .null, .null, .null, .long 0, .int 0, .int 0, .int 0, .null, .int 0, .null, .null, .null, .null, .null, .int 0, .null] j := (lt_s (lt_s (lt_s (lt_s (lt_s (lt_s (lt_s (lt_s (lt_s (lt_s (lt_s (lt_s (lt_s (lt_s (lt_s (lt_s (lt_s (lt_s (lt_s (lt_s (lt_s (lt_s (lt_s (lt_s (lt_s (lt_s (lt_s (lt_s (lt_s (lt_s (lt_s (lt_s (lt_s (lt_s (lt_s (lt_s (lt_s (lt_s (lt_s (lt_s (lt_s (lt_s (lt_s (lt_s (lt_s (lt_s (lt_s (lt_s (lt_s (lt_s (lt_s (lt_s (lt_s (lt_s (lt_s (lt_s (lt_s (lt_s (lt_s (lt_s (lt_s (lt_s (lt_s (lt_s (lt_s lt_0 rfl) rfl) rfl) rfl) rfl) rfl) rfl) rfl) rfl) rfl) rfl) rfl) rfl) rfl) rfl) rfl) rfl) rfl) rfl) rfl) rfl) rfl) rfl) rfl) rfl) rfl) rfl) rfl) rfl) rfl) rfl) rfl) rfl) rfl) rfl) rfl) rfl) rfl) rfl) rfl) rfl) rfl) rfl) rfl) rfl) rfl) rfl) rfl) rfl) rfl) rfl) rfl) rfl) rfl) rfl) rfl) rfl) rfl) rfl) rfl) rfl) rfl) rfl) rfl) rfl)
