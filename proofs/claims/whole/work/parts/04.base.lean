/-! The abstract machine's words: values, states, contracts (V: the machine comes to its end from here) -/
abbrev oV : Type := Int32 ⊕ (Int64 ⊕ (Nat × Nat))
abbrev oi (x : Int32) : oV := Sum.inl x
abbrev ol (x : Int64) : oV := Sum.inr (Sum.inl x)
abbrev orf (t j : Nat) : oV := Sum.inr (Sum.inr (t, j))
abbrev oS : Type := (Nat → Nat → Nat → Int32) × (Nat → Nat → Nat → Int64)
def oCat : oV → Nat
  | Sum.inr (Sum.inl _) => 2
  | _ => 1
def oc (ad : Nat → Nat → Nat) : oV → Value
  | Sum.inl x => .int x
  | Sum.inr (Sum.inl x) => .long x
  | Sum.inr (Sum.inr q) => .ref (ad q.1 q.2)
theorem oc_cat (ad : Nat → Nat → Nat) (v : oV) : (oc ad v).category = oCat v := by
  rcases v with x | x | x <;> rfl
def oStI (S : oS) (t j k : Nat) (x : Int32) : oS := (fun t' j' k' => if t' = t ∧ j' = j ∧ k' = k then x else S.1 t' j' k', S.2)
def oStL (S : oS) (t j k : Nat) (x : Int64) : oS := (S.1, fun t' j' k' => if t' = t ∧ j' = j ∧ k' = k then x else S.2 t' j' k')
/-- n places of the row (t0, j0), from sp on, laid over the row (t1, j1), from dp on -/
def oCpI (S : oS) (t0 j0 sp t1 j1 dp n : Nat) : oS := (fun t j k => if t = t1 ∧ j = j1 ∧ dp ≤ k ∧ k < dp + n then S.1 t0 j0 (sp + (k - dp)) else S.1 t j k, S.2)
def oCpL (S : oS) (t0 j0 sp t1 j1 dp n : Nat) : oS := (S.1, fun t j k => if t = t1 ∧ j = j1 ∧ dp ≤ k ∧ k < dp + n then S.2 t0 j0 (sp + (k - dp)) else S.2 t j k)
def oSet1 (lv : List (Nat × oV)) (i : Nat) (v : oV) : List (Nat × oV) := lv.filter (fun q => Nat.blt q.1 i && !(Nat.beq (q.1 + 1) i && Nat.beq (oCat q.2) 2)) ++ (i, v) :: lv.filter (fun q => Nat.blt i q.1)
def oSet2 (lv : List (Nat × oV)) (i : Nat) (v : oV) : List (Nat × oV) := lv.filter (fun q => Nat.blt q.1 i && !(Nat.beq (q.1 + 1) i && Nat.beq (oCat q.2) 2)) ++ (i, v) :: lv.filter (fun q => Nat.blt (i + 1) q.1)
def oLc (ad : Nat → Nat → Nat) (lv : List (Nat × oV)) : List (Nat × Value) := lv.map fun q => (q.1, oc ad q.2)
/-- partial answers -/
def oH {α : Type} (o : Option α) (P : α → Prop) : Prop := ∃ a, o = some a ∧ P a
def oLet {α β : Type} (x : α) (f : α → β) : β := f x
theorem oH_some {α : Type} {a : α} {P : α → Prop} (h : oH (some a) P) : P a := by
  obtain ⟨b, hb, hP⟩ := h
  cases hb
  exact hP
theorem oH_bind {α β : Type} {o : Option α} {f : α → Option β} {P : β → Prop} (h : oH (o.bind f) P) : oH o (fun a => oH (f a) P) := by
  obtain ⟨b, hb, hP⟩ := h
  cases o with
  | none => cases hb
  | some a => exact ⟨a, rfl, b, hb, hP⟩
theorem oH_let {α β : Type} {e : α} {f : α → Option β} {P : β → Prop} (h : oH (oLet e f) P) : ∀ x, x = e → oH (f x) P := fun _ hx => by subst hx; exact h
theorem oH_T {c : Prop} [Decidable c] {α : Type} {a b : Option α} {P : α → Prop} (hc : c) (h : oH (if c then a else b) P) : oH a P := by rwa [if_pos hc] at h
theorem oH_F {c : Prop} [Decidable c] {α : Type} {a b : Option α} {P : α → Prop} (hc : ¬ c) (h : oH (if c then a else b) P) : oH b P := by rwa [if_neg hc] at h
theorem oH_G {c : Prop} [Decidable c] {α : Type} {a : Option α} {P : α → Prop} (h : oH (if c then a else none) P) : c ∧ oH a P := by
  by_cases hc : c
  · exact ⟨hc, oH_T hc h⟩
  · obtain ⟨b, hb, -⟩ := oH_F hc h
    cases hb
theorem oH.imp {α : Type} {o : Option α} {P Q : α → Prop} (h : oH o P) (hq : ∀ a, P a → Q a) : oH o Q := by
  obtain ⟨a, ha, hp⟩ := h
  exact ⟨a, ha, hq a hp⟩
def oNx {σ ρ : Type} (k : σ → Option ρ) : σ ⊕ ρ → Option ρ
  | Sum.inl s => k s
  | Sum.inr r => some r
def oLp {σ ρ : Type} (b : σ → Option (σ ⊕ ρ)) : Nat → σ → Option ρ
  | 0 => fun _ => none
  | n + 1 => fun s => (b s).bind (oNx (oLp b n))
theorem oLp_s {σ ρ : Type} {b : σ → Option (σ ⊕ ρ)} {VH : σ → Prop} {VE : ρ → Prop} (hb : ∀ s, oH (b s) (fun z => Sum.elim VH VE z) → VH s) : ∀ n s, oH (oLp b n s) VE → VH s := by
  intro n
  induction n with
  | zero =>
    intro s h
    obtain ⟨a, ha, -⟩ := h
    cases ha
  | succ n ih =>
    intro s h
    have h : oH ((b s).bind (oNx (oLp b n))) VE := h
    refine hb s ((oH_bind h).imp ?_)
    intro z hz
    cases z with
    | inl s' => exact ih s' hz
    | inr r => exact oH_some (a := r) hz
/-- the words that every method may use -/
def oTb : List Cond := lw_tbl.filter goodWord
abbrev oW (w : Cond) : Prop := w ∈ oTb
theorem oTb_good : ∀ w ∈ oTb, goodWord w = true := fun _ h => (List.mem_filter.mp h).2
theorem oTb_in : ∀ w ∈ oTb, w ∈ lw_tbl := fun _ h => (List.mem_filter.mp h).1
abbrev oM : Type := String × ByteArray × Nat × Option FieldType
