abbrev vwCl : List vw_C := [(RX0, TX0, 3), (RX1, TX1, 2), (RX2, TX2, 10), (RX3, TX3, 4), (RX4, TX4, 4), (RX5, TX5, 2), (RX6, TX6, 9), (RX7, TX7, 48)]
/-! words of the walks: a method's mirror is a function into Option; none: the walk would leave its road (an index, fuel) -/
abbrev St : Type := (Nat → Nat → Int32) × (Nat → Nat → Int64)
def ri (S : St) (k : Nat) (i : Int32) : Int32 := S.1 k i.toNatClampNeg
def rs (S : St) (k : Nat) : Int32 := S.1 k 0
def rj (S : St) (k : Nat) (i : Int32) : Int64 := S.2 k i.toNatClampNeg
def wi (S : St) (k : Nat) (i : Nat) (v : Int32) : St := (va_up S.1 k (upd (S.1 k) i v), S.2)
def wj (S : St) (k : Nat) (i : Nat) (v : Int64) : St := (S.1, va_up S.2 k (vp_updL (S.2 k) i v))
def irm (a b : Int32) : Int32 := a - a / b * b
def zb {α β : Type} (e : α) (f : α → Option β) : Option β := f e
def zo {α β : Type} (x : Option α) (f : α → Option β) : Option β := match x with
  | some a => f a
  | none => none
def zo2 {α γ β : Type} (x : Option (α × γ)) (f : α → γ → Option β) : Option β := match x with
  | some q => f q.1 q.2
  | none => none
def zx {α β : Type} (x : Option (Sum Nat α)) (f : α → Option (Sum Nat β)) : Option (Sum Nat β) := match x with
  | some (.inl e) => some (.inl e)
  | some (.inr a) => f a
  | none => none
def zg {β : Type} (c : Bool) (x : Option β) : Option β := match c with
  | true => x
  | false => none
def inb (i : Int32) (n : Nat) : Bool := !(decide (i < 0) || decide (n ≤ i.toNatClampNeg))
def bz (v : Int32) : Bool := decide (v = 0) || decide (v = 1)
def FU : Nat := 8192
theorem zb_k {α β : Type} {e : α} {f : α → Option β} {R : β} (h : zb e f = some R) : ∃ x, x = e ∧ f x = some R := ⟨e, rfl, h⟩
theorem zb_x {α β : Type} {e x : α} {f : α → Option β} {R : β} (h : zb e f = some R) (hx : x = e) : f x = some R := by rw [hx]; exact h
theorem zo_k {α β : Type} {x : Option α} {f : α → Option β} {R : β} (h : zo x f = some R) : ∃ a, x = some a ∧ f a = some R := by
  cases x with
  | none => cases h
  | some a => exact ⟨a, rfl, h⟩
theorem zo2_k {α γ β : Type} {x : Option (α × γ)} {f : α → γ → Option β} {R : β} (h : zo2 x f = some R) : ∃ a b, x = some (a, b) ∧ f a b = some R := by
  cases x with
  | none => cases h
  | some q => exact ⟨q.1, q.2, rfl, h⟩
theorem zg_k {β : Type} {c : Bool} {x : Option β} {R : β} (h : zg c x = some R) : c = true ∧ x = some R := by
  cases c with
  | false => cases h
  | true => exact ⟨rfl, h⟩
theorem inb_k {i : Int32} {n : Nat} (h : inb i n = true) : vp_in i n := by
  intro q
  simp only [inb, Bool.not_eq_true', Bool.or_eq_false_iff, decide_eq_false_iff_not] at h
  exact q.elim h.1 h.2
theorem bz_c {v : Int32} (h : bz v = true) : v = 0 ∨ v = 1 := by
  simpa only [bz, Bool.or_eq_true, decide_eq_true_eq] using h
theorem bz_n {v : Int32} (h : bz v = true) : narrow .boolean (.int v) = .int v := by
  rcases bz_c h with rfl | rfl <;> rfl
theorem bz_f {v : Int32} (h : bz v = true) : fits .boolean (.int v) = true := by
  rcases bz_c h with rfl | rfl <;> rfl
theorem bz_v {v : Int32} (h : bz v = true) : vp_nar .boolean v = v := by
  rcases bz_c h with rfl | rfl <;> rfl
theorem ifp {α : Type} {c : Prop} {a b : α} {R : α} {d : Decidable c} (h : (if c then a else b) = R) (hc : c) : a = R := (if_pos hc).symm.trans h
theorem ifn {α : Type} {c : Prop} {a b : α} {R : α} {d : Decidable c} (h : (if c then a else b) = R) (hc : ¬ c) : b = R := (if_neg hc).symm.trans h
def zl1 {A0 C : Type} (F : (A0 → Option C) → A0 → Option C) : Nat → A0 → Option C
  | 0 => fun _ => none
  | k + 1 => F (zl1 F k)
theorem zl1_ind {A0 C : Type} {F : (A0 → Option C) → A0 → Option C} {R : C} {P : A0 → Prop} (h : ∀ rec : A0 → Option C, (∀ a0, rec a0 = some R → P a0) → ∀ a0, F rec a0 = some R → P a0) : ∀ k a0, zl1 F k a0 = some R → P a0 := by
  intro k
  induction k with
  | zero => intro a0 q; cases q
  | succ k ih => intro a0 q; exact h _ ih a0 q
def zl2 {A0 A1 C : Type} (F : (A0 → A1 → Option C) → A0 → A1 → Option C) : Nat → A0 → A1 → Option C
  | 0 => fun _ _ => none
  | k + 1 => F (zl2 F k)
theorem zl2_ind {A0 A1 C : Type} {F : (A0 → A1 → Option C) → A0 → A1 → Option C} {R : C} {P : A0 → A1 → Prop} (h : ∀ rec : A0 → A1 → Option C, (∀ a0 a1, rec a0 a1 = some R → P a0 a1) → ∀ a0 a1, F rec a0 a1 = some R → P a0 a1) : ∀ k a0 a1, zl2 F k a0 a1 = some R → P a0 a1 := by
  intro k
  induction k with
  | zero => intro a0 a1 q; cases q
  | succ k ih => intro a0 a1 q; exact h _ ih a0 a1 q
def zl3 {A0 A1 A2 C : Type} (F : (A0 → A1 → A2 → Option C) → A0 → A1 → A2 → Option C) : Nat → A0 → A1 → A2 → Option C
  | 0 => fun _ _ _ => none
  | k + 1 => F (zl3 F k)
theorem zl3_ind {A0 A1 A2 C : Type} {F : (A0 → A1 → A2 → Option C) → A0 → A1 → A2 → Option C} {R : C} {P : A0 → A1 → A2 → Prop} (h : ∀ rec : A0 → A1 → A2 → Option C, (∀ a0 a1 a2, rec a0 a1 a2 = some R → P a0 a1 a2) → ∀ a0 a1 a2, F rec a0 a1 a2 = some R → P a0 a1 a2) : ∀ k a0 a1 a2, zl3 F k a0 a1 a2 = some R → P a0 a1 a2 := by
  intro k
  induction k with
  | zero => intro a0 a1 a2 q; cases q
  | succ k ih => intro a0 a1 a2 q; exact h _ ih a0 a1 a2 q
def zl4 {A0 A1 A2 A3 C : Type} (F : (A0 → A1 → A2 → A3 → Option C) → A0 → A1 → A2 → A3 → Option C) : Nat → A0 → A1 → A2 → A3 → Option C
  | 0 => fun _ _ _ _ => none
  | k + 1 => F (zl4 F k)
theorem zl4_ind {A0 A1 A2 A3 C : Type} {F : (A0 → A1 → A2 → A3 → Option C) → A0 → A1 → A2 → A3 → Option C} {R : C} {P : A0 → A1 → A2 → A3 → Prop} (h : ∀ rec : A0 → A1 → A2 → A3 → Option C, (∀ a0 a1 a2 a3, rec a0 a1 a2 a3 = some R → P a0 a1 a2 a3) → ∀ a0 a1 a2 a3, F rec a0 a1 a2 a3 = some R → P a0 a1 a2 a3) : ∀ k a0 a1 a2 a3, zl4 F k a0 a1 a2 a3 = some R → P a0 a1 a2 a3 := by
  intro k
  induction k with
  | zero => intro a0 a1 a2 a3 q; cases q
  | succ k ih => intro a0 a1 a2 a3 q; exact h _ ih a0 a1 a2 a3 q
def zl5 {A0 A1 A2 A3 A4 C : Type} (F : (A0 → A1 → A2 → A3 → A4 → Option C) → A0 → A1 → A2 → A3 → A4 → Option C) : Nat → A0 → A1 → A2 → A3 → A4 → Option C
  | 0 => fun _ _ _ _ _ => none
  | k + 1 => F (zl5 F k)
theorem zl5_ind {A0 A1 A2 A3 A4 C : Type} {F : (A0 → A1 → A2 → A3 → A4 → Option C) → A0 → A1 → A2 → A3 → A4 → Option C} {R : C} {P : A0 → A1 → A2 → A3 → A4 → Prop} (h : ∀ rec : A0 → A1 → A2 → A3 → A4 → Option C, (∀ a0 a1 a2 a3 a4, rec a0 a1 a2 a3 a4 = some R → P a0 a1 a2 a3 a4) → ∀ a0 a1 a2 a3 a4, F rec a0 a1 a2 a3 a4 = some R → P a0 a1 a2 a3 a4) : ∀ k a0 a1 a2 a3 a4, zl5 F k a0 a1 a2 a3 a4 = some R → P a0 a1 a2 a3 a4 := by
  intro k
  induction k with
  | zero => intro a0 a1 a2 a3 a4 q; cases q
  | succ k ih => intro a0 a1 a2 a3 a4 q; exact h _ ih a0 a1 a2 a3 a4 q
def zl6 {A0 A1 A2 A3 A4 A5 C : Type} (F : (A0 → A1 → A2 → A3 → A4 → A5 → Option C) → A0 → A1 → A2 → A3 → A4 → A5 → Option C) : Nat → A0 → A1 → A2 → A3 → A4 → A5 → Option C
  | 0 => fun _ _ _ _ _ _ => none
  | k + 1 => F (zl6 F k)
theorem zl6_ind {A0 A1 A2 A3 A4 A5 C : Type} {F : (A0 → A1 → A2 → A3 → A4 → A5 → Option C) → A0 → A1 → A2 → A3 → A4 → A5 → Option C} {R : C} {P : A0 → A1 → A2 → A3 → A4 → A5 → Prop} (h : ∀ rec : A0 → A1 → A2 → A3 → A4 → A5 → Option C, (∀ a0 a1 a2 a3 a4 a5, rec a0 a1 a2 a3 a4 a5 = some R → P a0 a1 a2 a3 a4 a5) → ∀ a0 a1 a2 a3 a4 a5, F rec a0 a1 a2 a3 a4 a5 = some R → P a0 a1 a2 a3 a4 a5) : ∀ k a0 a1 a2 a3 a4 a5, zl6 F k a0 a1 a2 a3 a4 a5 = some R → P a0 a1 a2 a3 a4 a5 := by
  intro k
  induction k with
  | zero => intro a0 a1 a2 a3 a4 a5 q; cases q
  | succ k ih => intro a0 a1 a2 a3 a4 a5 q; exact h _ ih a0 a1 a2 a3 a4 a5 q
def zl7 {A0 A1 A2 A3 A4 A5 A6 C : Type} (F : (A0 → A1 → A2 → A3 → A4 → A5 → A6 → Option C) → A0 → A1 → A2 → A3 → A4 → A5 → A6 → Option C) : Nat → A0 → A1 → A2 → A3 → A4 → A5 → A6 → Option C
  | 0 => fun _ _ _ _ _ _ _ => none
  | k + 1 => F (zl7 F k)
theorem zl7_ind {A0 A1 A2 A3 A4 A5 A6 C : Type} {F : (A0 → A1 → A2 → A3 → A4 → A5 → A6 → Option C) → A0 → A1 → A2 → A3 → A4 → A5 → A6 → Option C} {R : C} {P : A0 → A1 → A2 → A3 → A4 → A5 → A6 → Prop} (h : ∀ rec : A0 → A1 → A2 → A3 → A4 → A5 → A6 → Option C, (∀ a0 a1 a2 a3 a4 a5 a6, rec a0 a1 a2 a3 a4 a5 a6 = some R → P a0 a1 a2 a3 a4 a5 a6) → ∀ a0 a1 a2 a3 a4 a5 a6, F rec a0 a1 a2 a3 a4 a5 a6 = some R → P a0 a1 a2 a3 a4 a5 a6) : ∀ k a0 a1 a2 a3 a4 a5 a6, zl7 F k a0 a1 a2 a3 a4 a5 a6 = some R → P a0 a1 a2 a3 a4 a5 a6 := by
  intro k
  induction k with
  | zero => intro a0 a1 a2 a3 a4 a5 a6 q; cases q
  | succ k ih => intro a0 a1 a2 a3 a4 a5 a6 q; exact h _ ih a0 a1 a2 a3 a4 a5 a6 q
def zl8 {A0 A1 A2 A3 A4 A5 A6 A7 C : Type} (F : (A0 → A1 → A2 → A3 → A4 → A5 → A6 → A7 → Option C) → A0 → A1 → A2 → A3 → A4 → A5 → A6 → A7 → Option C) : Nat → A0 → A1 → A2 → A3 → A4 → A5 → A6 → A7 → Option C
  | 0 => fun _ _ _ _ _ _ _ _ => none
  | k + 1 => F (zl8 F k)
theorem zl8_ind {A0 A1 A2 A3 A4 A5 A6 A7 C : Type} {F : (A0 → A1 → A2 → A3 → A4 → A5 → A6 → A7 → Option C) → A0 → A1 → A2 → A3 → A4 → A5 → A6 → A7 → Option C} {R : C} {P : A0 → A1 → A2 → A3 → A4 → A5 → A6 → A7 → Prop} (h : ∀ rec : A0 → A1 → A2 → A3 → A4 → A5 → A6 → A7 → Option C, (∀ a0 a1 a2 a3 a4 a5 a6 a7, rec a0 a1 a2 a3 a4 a5 a6 a7 = some R → P a0 a1 a2 a3 a4 a5 a6 a7) → ∀ a0 a1 a2 a3 a4 a5 a6 a7, F rec a0 a1 a2 a3 a4 a5 a6 a7 = some R → P a0 a1 a2 a3 a4 a5 a6 a7) : ∀ k a0 a1 a2 a3 a4 a5 a6 a7, zl8 F k a0 a1 a2 a3 a4 a5 a6 a7 = some R → P a0 a1 a2 a3 a4 a5 a6 a7 := by
  intro k
  induction k with
  | zero => intro a0 a1 a2 a3 a4 a5 a6 a7 q; cases q
  | succ k ih => intro a0 a1 a2 a3 a4 a5 a6 a7 q; exact h _ ih a0 a1 a2 a3 a4 a5 a6 a7 q
/-- the words on nest mates -/
def NW (U : State) : Prop := va_Nw (.fieldLinkNest "Makewheel" 214 "Makewheel$Rows" "many" "I" "Makewheel") U ∧ va_Nw (.fieldLinkNest "Makewheel" 142 "Makewheel$Cache" "rows" "LMakewheel$Rows;" "Makewheel") U ∧ va_Nw (.fieldLinkNest "Makewheel$Looker" 154 "Makewheel$Cache" "rows" "LMakewheel$Rows;" "Makewheel") U ∧ va_Nw (.fieldLinkNest "Makewheel" 138 "Makewheel$Cache" "vanishing" "I" "Makewheel") U ∧ va_Nw (.fieldLinkNest "Makewheel$Looker" 151 "Makewheel$Cache" "vanishing" "I" "Makewheel") U ∧ va_Nw (.fieldLinkNest "Makewheel$Looker" 175 "Makewheel$Machines" "rows" "LMakewheel$Rows;" "Makewheel") U ∧ va_Nw (.fieldLinkNest "Makewheel" 132 "Makewheel$Machines" "areChecked" "Z" "Makewheel") U ∧ va_Nw (.fieldLinkNest "Makewheel$Looker" 169 "Makewheel$Machines" "areChecked" "Z" "Makewheel") U ∧ va_Nw (.fieldLinkNest "Makewheel" 159 "Makewheel$Looker" "seen" "LMakewheel$Rows;" "Makewheel") U ∧ va_Nw (.fieldLinkNest "Makewheel$Schedule" 56 "Makewheel$Looker" "fresh" "LMakewheel$Rows;" "Makewheel") U ∧ va_Nw (.fieldLinkNest "Makewheel" 164 "Makewheel$Looker" "runs" "I" "Makewheel") U ∧ va_Nw (.fieldLinkNest "Makewheel" 177 "Makewheel$Looker" "leaking" "I" "Makewheel") U ∧ va_Nw (.methodLinkNest "Makewheel" 26 ⟨"Makewheel$Cache", "<init>", "()V"⟩ "Makewheel") U ∧ va_Nw (.methodLinkNest "Makewheel" 33 ⟨"Makewheel$Machines", "<init>", "()V"⟩ "Makewheel") U ∧ va_Nw (.methodLinkNest "Makewheel$Looker" 126 ⟨"Makewheel", "contentOf", "(LMakewheel$Rows;I)I"⟩ "Makewheel") U ∧ va_Nw (.methodLinkNest "Makewheel$Looker" 130 ⟨"Makewheel", "nodeRead", "(III)I"⟩ "Makewheel") U ∧ va_Nw (.methodLinkNest "Makewheel$Schedule" 61 ⟨"Makewheel", "nodeRead", "(III)I"⟩ "Makewheel") U
theorem NW.warm {s U : State} (hW : s.WarmedH U.vm) (h : NW s) : NW U := ⟨va_Nw.warmF hW h.1, va_Nw.warmF hW h.2.1, va_Nw.warmF hW h.2.2.1, va_Nw.warmF hW h.2.2.2.1, va_Nw.warmF hW h.2.2.2.2.1, va_Nw.warmF hW h.2.2.2.2.2.1, va_Nw.warmF hW h.2.2.2.2.2.2.1, va_Nw.warmF hW h.2.2.2.2.2.2.2.1, va_Nw.warmF hW h.2.2.2.2.2.2.2.2.1, va_Nw.warmF hW h.2.2.2.2.2.2.2.2.2.1, va_Nw.warmF hW h.2.2.2.2.2.2.2.2.2.2.1, va_Nw.warmF hW h.2.2.2.2.2.2.2.2.2.2.2.1, va_Nw.warmM hW h.2.2.2.2.2.2.2.2.2.2.2.2.1, va_Nw.warmM hW h.2.2.2.2.2.2.2.2.2.2.2.2.2.1, va_Nw.warmM hW h.2.2.2.2.2.2.2.2.2.2.2.2.2.2.1, va_Nw.warmM hW h.2.2.2.2.2.2.2.2.2.2.2.2.2.2.2.1, va_Nw.warmM hW h.2.2.2.2.2.2.2.2.2.2.2.2.2.2.2.2⟩
theorem NW.same {s U : State} (hv : s.vm = U.vm) (h : NW s) : NW U := ⟨va_Nw.same rfl hv h.1, va_Nw.same rfl hv h.2.1, va_Nw.same rfl hv h.2.2.1, va_Nw.same rfl hv h.2.2.2.1, va_Nw.same rfl hv h.2.2.2.2.1, va_Nw.same rfl hv h.2.2.2.2.2.1, va_Nw.same rfl hv h.2.2.2.2.2.2.1, va_Nw.same rfl hv h.2.2.2.2.2.2.2.1, va_Nw.same rfl hv h.2.2.2.2.2.2.2.2.1, va_Nw.same rfl hv h.2.2.2.2.2.2.2.2.2.1, va_Nw.same rfl hv h.2.2.2.2.2.2.2.2.2.2.1, va_Nw.same rfl hv h.2.2.2.2.2.2.2.2.2.2.2.1, va_Nw.same rfl hv h.2.2.2.2.2.2.2.2.2.2.2.2.1, va_Nw.same rfl hv h.2.2.2.2.2.2.2.2.2.2.2.2.2.1, va_Nw.same rfl hv h.2.2.2.2.2.2.2.2.2.2.2.2.2.2.1, va_Nw.same rfl hv h.2.2.2.2.2.2.2.2.2.2.2.2.2.2.2.1, va_Nw.same rfl hv h.2.2.2.2.2.2.2.2.2.2.2.2.2.2.2.2⟩
theorem NW.n6_214 {s : State} (h : NW s) : va_Nw (.fieldLinkNest "Makewheel" 214 "Makewheel$Rows" "many" "I" "Makewheel") s := h.1
theorem NW.n6_142 {s : State} (h : NW s) : va_Nw (.fieldLinkNest "Makewheel" 142 "Makewheel$Cache" "rows" "LMakewheel$Rows;" "Makewheel") s := h.2.1
theorem NW.n2_154 {s : State} (h : NW s) : va_Nw (.fieldLinkNest "Makewheel$Looker" 154 "Makewheel$Cache" "rows" "LMakewheel$Rows;" "Makewheel") s := h.2.2.1
theorem NW.n6_138 {s : State} (h : NW s) : va_Nw (.fieldLinkNest "Makewheel" 138 "Makewheel$Cache" "vanishing" "I" "Makewheel") s := h.2.2.2.1
theorem NW.n2_151 {s : State} (h : NW s) : va_Nw (.fieldLinkNest "Makewheel$Looker" 151 "Makewheel$Cache" "vanishing" "I" "Makewheel") s := h.2.2.2.2.1
theorem NW.n2_175 {s : State} (h : NW s) : va_Nw (.fieldLinkNest "Makewheel$Looker" 175 "Makewheel$Machines" "rows" "LMakewheel$Rows;" "Makewheel") s := h.2.2.2.2.2.1
theorem NW.n6_132 {s : State} (h : NW s) : va_Nw (.fieldLinkNest "Makewheel" 132 "Makewheel$Machines" "areChecked" "Z" "Makewheel") s := h.2.2.2.2.2.2.1
theorem NW.n2_169 {s : State} (h : NW s) : va_Nw (.fieldLinkNest "Makewheel$Looker" 169 "Makewheel$Machines" "areChecked" "Z" "Makewheel") s := h.2.2.2.2.2.2.2.1
theorem NW.n6_159 {s : State} (h : NW s) : va_Nw (.fieldLinkNest "Makewheel" 159 "Makewheel$Looker" "seen" "LMakewheel$Rows;" "Makewheel") s := h.2.2.2.2.2.2.2.2.1
theorem NW.n5_56 {s : State} (h : NW s) : va_Nw (.fieldLinkNest "Makewheel$Schedule" 56 "Makewheel$Looker" "fresh" "LMakewheel$Rows;" "Makewheel") s := h.2.2.2.2.2.2.2.2.2.1
theorem NW.n6_164 {s : State} (h : NW s) : va_Nw (.fieldLinkNest "Makewheel" 164 "Makewheel$Looker" "runs" "I" "Makewheel") s := h.2.2.2.2.2.2.2.2.2.2.1
theorem NW.n6_177 {s : State} (h : NW s) : va_Nw (.fieldLinkNest "Makewheel" 177 "Makewheel$Looker" "leaking" "I" "Makewheel") s := h.2.2.2.2.2.2.2.2.2.2.2.1
theorem NW.n6_26 {s : State} (h : NW s) : va_Nw (.methodLinkNest "Makewheel" 26 ⟨"Makewheel$Cache", "<init>", "()V"⟩ "Makewheel") s := h.2.2.2.2.2.2.2.2.2.2.2.2.1
theorem NW.n6_33 {s : State} (h : NW s) : va_Nw (.methodLinkNest "Makewheel" 33 ⟨"Makewheel$Machines", "<init>", "()V"⟩ "Makewheel") s := h.2.2.2.2.2.2.2.2.2.2.2.2.2.1
theorem NW.n2_126 {s : State} (h : NW s) : va_Nw (.methodLinkNest "Makewheel$Looker" 126 ⟨"Makewheel", "contentOf", "(LMakewheel$Rows;I)I"⟩ "Makewheel") s := h.2.2.2.2.2.2.2.2.2.2.2.2.2.2.1
theorem NW.n2_130 {s : State} (h : NW s) : va_Nw (.methodLinkNest "Makewheel$Looker" 130 ⟨"Makewheel", "nodeRead", "(III)I"⟩ "Makewheel") s := h.2.2.2.2.2.2.2.2.2.2.2.2.2.2.2.1
theorem NW.n5_61 {s : State} (h : NW s) : va_Nw (.methodLinkNest "Makewheel$Schedule" 61 ⟨"Makewheel", "nodeRead", "(III)I"⟩ "Makewheel") s := h.2.2.2.2.2.2.2.2.2.2.2.2.2.2.2.2
/-! contracts over a world of fixed cells -/
def PreW (D : va_G) (tys : List (ClassId × FieldType)) (w : va_W) (vs : List Value) : Array Value → State → Prop := va_Pc vs (fun U => va_P D vwCl w U.heap ∧ va_K D vwCl tys U ∧ NW U)
def PoI (D : va_G) (w1 : va_W) (A : Nat → Prop) (r : Int32) : Array Value → State → Outcome → State → Prop := va_Qi (fun (r1 : Int32) (_ : Unit) => r1 = r) (fun _ t => va_P D vwCl w1 t.heap) A
def PoL (D : va_G) (w1 : va_W) (A : Nat → Prop) (r : Int64) : Array Value → State → Outcome → State → Prop := va_Ql (fun (r1 : Int64) (_ : Unit) => r1 = r) (fun _ t => va_P D vwCl w1 t.heap) A
def PoV (D : va_G) (w1 : va_W) (A : Nat → Prop) : Array Value → State → Outcome → State → Prop := va_Qv (fun (_ : Unit) => True) (fun _ t => va_P D vwCl w1 t.heap) A
theorem PreW.blind {D : va_G} {tys : List (ClassId × FieldType)} {w : va_W} {vs : List Value} : FrameBlind (PreW D tys w vs) := by
  intro a U g mk q
  obtain ⟨h1, h2, h3, h4⟩ := q
  exact ⟨h1, h2, va_K.moved (u := U) (U := U.calling g mk a) (Vm.Alike.refl U.vm) h3, NW.same rfl h4⟩
theorem met_go {l : Launch} {y : MethodName} {ws ws' : List Cond} {rm : Room} {cc : ByteArray} {maxL : Nat} {ret : Option FieldType} {vs : List Value} {D : va_G} {tys : List (ClassId × FieldType)} {w : va_W} {Qc : Array Value → State → Outcome → State → Prop} {A : Nat → Prop}
    (hy : plainName y.cls = true) (hw : ws = Cond.code y cc maxL ret :: ws') (hle : (lg_sl vs).length ≤ maxL)
    (body : ∀ (p : Program) (e : Env) (s : State) (m : MethodId) (args : Array Value) (below : List Frame) (meth : Method) (c : Code) (ls : Array Slot), p.tables.exec = Jvm.exec → c.code = cc → meth.sig.returnType = ret → c.maxLocals = maxL → (∀ w ∈ ws, w.before args s = true) → s.vm.findClass y.cls = some m.cls → meth.locks = false → va_P D vwCl w s.heap → va_K D vwCl tys s → NW s → lv_has ls maxL (lv_args 0 vs) →
      W p l e rm s m args below meth c s.heap [] 0 0 (MQ below Qc args s 0 0 A) (F0 m 0 ls [])) : Met l y ws rm (PreW D tys w vs) Qc 0 0 A := by
  refine Met.ofW hy hw ?_
  intro p e s m args below meth c s₁ B hml hv
  obtain ⟨hargs, hP, hK, hN⟩ := hv
  have hl := lv_entry vs hle
  refine W.eq (by rw [hargs, lg_entry_eq]) ?_
  exact body p e s m args below meth c _ B.exec B.bytes B.returns hml (atoms_spec (ws := ws) B.pre) (findClass_of_methodNamed B.named) B.notSynchronized hP hK hN hl
section CAL
variable {p : Program} {l : Launch} {e : Env} {R : Room} {s : State} {m : MethodId} {args : Array Value} {below : List Frame} {meth : Method} {c : Code} {H : Heap} {locs : List Loc} {Q : State → Prop}
variable {cc : ByteArray} {pc : Nat} {ls : Array Slot} {rest st0 As : List Value} {D : va_G} {A : Nat → Prop} {tys : List (ClassId × FieldType)} {w w1 : va_W} {ret : Option FieldType}
theorem fin_i {v r : Int32} (hx : p.tables.exec = Jvm.exec) (hb : c.code = cc) (hr : meth.sig.returnType = some .int) (hlk : meth.locks = false) (hS : va_S A s.heap H locs) (hP : va_P D vwCl w H) (hw : v = r) (hdg : decode cc pc = .ok (.ireturn, 1)) : W p l e R s m args below meth c H locs 0 0 (MQ below (PoI D w A r) args s 0 0 A) (F0 m pc ls [.int v]) :=
  W.iret hx hb hr (fun t ht _ => ⟨⟨v, (), rfl, hw, by show va_P D vwCl w t.heap; rw [ht]; exact hP⟩, hS.F ht⟩) hS.2.2 hdg hlk
theorem fin_z {v r : Int32} (hx : p.tables.exec = Jvm.exec) (hb : c.code = cc) (hr : meth.sig.returnType = some .boolean) (hlk : meth.locks = false) (hS : va_S A s.heap H locs) (hP : va_P D vwCl w H) (hz : narrow .boolean (.int v) = .int v) (hw : v = r) (hdg : decode cc pc = .ok (.ireturn, 1)) : W p l e R s m args below meth c H locs 0 0 (MQ below (PoI D w A r) args s 0 0 A) (F0 m pc ls [.int v]) :=
  W.zret hx hb hr hz (fun t ht _ => ⟨⟨v, (), rfl, hw, by show va_P D vwCl w t.heap; rw [ht]; exact hP⟩, hS.F ht⟩) hS.2.2 hdg hlk
theorem fin_l {v r : Int64} (hx : p.tables.exec = Jvm.exec) (hb : c.code = cc) (hr : meth.sig.returnType = some .long) (hlk : meth.locks = false) (hS : va_S A s.heap H locs) (hP : va_P D vwCl w H) (hw : v = r) (hdg : decode cc pc = .ok (.lreturn, 1)) : W p l e R s m args below meth c H locs 0 0 (MQ below (PoL D w A r) args s 0 0 A) (F0 m pc ls [.long v]) :=
  W.lret hx hb hr (fun t ht _ => ⟨⟨v, (), rfl, hw, by show va_P D vwCl w t.heap; rw [ht]; exact hP⟩, hS.F ht⟩) hS.2.2 hdg hlk
theorem fin_v (hx : p.tables.exec = Jvm.exec) (hb : c.code = cc) (hr : meth.sig.returnType = none) (hlk : meth.locks = false) (hS : va_S A s.heap H locs) (hP : va_P D vwCl w H) (hdg : decode cc pc = .ok (.return_, 1)) : W p l e R s m args below meth c H locs 0 0 (MQ below (PoV D w A) args s 0 0 A) (F0 m pc ls []) :=
  W.vret hx hb hr (fun t ht _ => ⟨⟨(), rfl, trivial, by show va_P D vwCl w t.heap; rw [ht]; exact hP⟩, hS.F ht⟩) hS.2.2 hdg hlk
variable {cells slots : Nat} {y : MethodName} {bytes : ByteArray} {maxL nL n index q0 ci N : Nat} {ws Ts : List Cond} {rm : Room} {own C host : String} {b : Addr} {fs : List Value} {T : u_T} {Qc : Array Value → State → Outcome → State → Prop}
theorem rnV (S : CallFix p m c cc nL s args Ts own) (hM : Met l y ws rm (PreW D tys w (.ref b :: As)) Qc 0 0 A) (cw : CallW R s args own C index y bytes maxL ret ws rm 0 0 n) (hP : va_P D vwCl w H) (hK : va_K D vwCl tys s) (hN : NW s) (he : w[q0]? = some (b, .inr (ci, fs))) (hc : vwCl[ci]? = some (C, T, N)) (hn : As.length = n) (hl : ls.size = nL) (hst : st0 = As.reverse ++ .ref b :: rest) (hW : (rest.map fun v => v.category).sum ≤ 8) (hdg : decode cc pc = .ok (.invokevirtual index, 3)) (hcs : cells + 0 ≤ R.cells ∧ slots + 0 ≤ R.slots) :
    va_Run p l e R s m args below meth c H locs cells slots 0 0 (F0 m pc ls st0) rest (Qc (Value.ref b :: As).toArray) A :=
  va_runV S hM cw ⟨PreW.blind, va_recv hK hP hc he, (fun _ hU hW => ⟨rfl, by rw [hU]; exact hP, va_K.moved hW.alike hK, NW.warm hW hN⟩)⟩ rfl hn hl hst (lv_room hW) hdg hcs
theorem rnS (S : CallFix p m c cc nL s args Ts own) (hM : Met l y ws rm (PreW D tys w As) Qc 0 0 A) (cw : CallB R s args own index y bytes maxL ret ws rm 0 0 n ∧ (Cond.static y).before args s = true) (hP : va_P D vwCl w H) (hK : va_K D vwCl tys s) (hN : NW s) (hn : As.length = n) (hl : ls.size = nL) (hst : st0 = As.reverse ++ rest) (hW : (rest.map fun v => v.category).sum ≤ 8) (hdg : decode cc pc = .ok (.invokestatic index, 3)) (hcs : cells + 0 ≤ R.cells ∧ slots + 0 ≤ R.slots) :
    va_Run p l e R s m args below meth c H locs cells slots 0 0 (F0 m pc ls st0) rest (Qc As.toArray) A :=
  va_runS S hM cw ⟨PreW.blind, (fun _ hU hW => ⟨rfl, by rw [hU]; exact hP, va_K.moved hW.alike hK, NW.warm hW hN⟩)⟩ rfl hn hl hst (lv_room hW) hdg hcs
theorem rnSN (S : CallFix p m c cc nL s args Ts own) (hM : Met l y ws rm (PreW D tys w As) Qc 0 0 A) (cw : va_CN R s args own index y host bytes maxL ret ws rm 0 0 n ∧ (Cond.static y).before args s = true ∧ True) (hP : va_P D vwCl w H) (hK : va_K D vwCl tys s) (hN : NW s) (hn : As.length = n) (hl : ls.size = nL) (hst : st0 = As.reverse ++ rest) (hW : (rest.map fun v => v.category).sum ≤ 8) (hdg : decode cc pc = .ok (.invokestatic index, 3)) (hcs : cells + 0 ≤ R.cells ∧ slots + 0 ≤ R.slots) :
    va_Run p l e R s m args below meth c H locs cells slots 0 0 (F0 m pc ls st0) rest (Qc As.toArray) A :=
  va_runSN S hM cw ⟨PreW.blind, (fun _ hU hW => ⟨rfl, by rw [hU]; exact hP, va_K.moved hW.alike hK, NW.warm hW hN⟩)⟩ rfl hn hl hst (lv_room hW) hdg hcs
theorem cal_i {r : Int32} {a : Array Value} (hr : va_Run p l e R s m args below meth c H locs cells slots 0 0 (F0 m pc ls st0) rest (PoI D w1 A r a) A) (hS : va_S A s.heap H locs)
    (kk : ∀ (H1 : Heap) (locs1 : List Loc), va_P D vwCl w1 H1 → va_S A s.heap H1 locs1 → W p l e R s m args below meth c H1 locs1 cells slots Q (F0 m (pc + 3) ls (.int r :: rest))) : W p l e R s m args below meth c H locs cells slots Q (F0 m pc ls st0) :=
  va_calli hr hS (fun _ _ h => h) (fun _ h => h) (fun r1 _ t H1 locs1 ht _ hw hB _ _ hS => by subst hw; exact kk H1 locs1 (by rw [← ht]; exact hB) hS)
theorem cal_l {r : Int64} {a : Array Value} (hr : va_Run p l e R s m args below meth c H locs cells slots 0 0 (F0 m pc ls st0) rest (PoL D w1 A r a) A) (hS : va_S A s.heap H locs)
    (kk : ∀ (H1 : Heap) (locs1 : List Loc), va_P D vwCl w1 H1 → va_S A s.heap H1 locs1 → W p l e R s m args below meth c H1 locs1 cells slots Q (F0 m (pc + 3) ls (.long r :: rest))) : W p l e R s m args below meth c H locs cells slots Q (F0 m pc ls st0) :=
  va_calll hr hS (fun _ _ h => h) (fun _ h => h) (fun r1 _ t H1 locs1 ht _ hw hB _ _ hS => by subst hw; exact kk H1 locs1 (by rw [← ht]; exact hB) hS)
theorem cal_v {a : Array Value} (hr : va_Run p l e R s m args below meth c H locs cells slots 0 0 (F0 m pc ls st0) rest (PoV D w1 A a) A) (hS : va_S A s.heap H locs)
    (kk : ∀ (H1 : Heap) (locs1 : List Loc), va_P D vwCl w1 H1 → va_S A s.heap H1 locs1 → W p l e R s m args below meth c H1 locs1 cells slots Q (F0 m (pc + 3) ls (rest))) : W p l e R s m args below meth c H locs cells slots Q (F0 m pc ls st0) :=
  va_callv hr hS (fun _ _ h => h) (fun _ h => h) (fun _ t H1 locs1 ht _ _ hB _ _ hS => kk H1 locs1 (by rw [← ht]; exact hB) hS)
end CAL
/-! the class's world: twelve tables, then Cache, Machines, two Lookers, Graph, Schedule, Makewheel -/
def mny : Nat → Int32
  | 0 => 4
  | 1 => 16
  | 2 => 32
  | 3 => 100
  | 4 => 3
  | 5 => 16
  | 6 => 16
  | 7 => 32
  | 8 => 32
  | 9 => 32
  | 10 => 32
  | 11 => 32
  | _ => 0
def wid : Nat → Int32
  | 0 => 5
  | 1 => 13
  | 2 => 53
  | 3 => 53
  | 4 => 2
  | 5 => 1
  | 6 => 2
  | 7 => 2
  | 8 => 3
  | 9 => 53
  | 10 => 3
  | 11 => 53
  | _ => 0
def blk : Nat → Int32
  | 0 => (-1)
  | 1 => (-1)
  | 2 => (-1)
  | 3 => (-1)
  | 4 => (0)
  | 5 => (0)
  | 6 => (0)
  | 7 => (-1)
  | 8 => (0)
  | 9 => (-1)
  | 10 => (0)
  | 11 => (-1)
  | _ => 0
def rsz : Nat → Nat
  | 0 => 20
  | 1 => 208
  | 2 => 1696
  | 3 => 5300
  | 4 => 6
  | 5 => 16
  | 6 => 32
  | 7 => 64
  | 8 => 96
  | 9 => 1696
  | 10 => 96
  | 11 => 1696
  | _ => 0
def rob (ad : Nat → Nat) (k : Nat) : Nat × va_E := (ad (2 * k), .inr (4, [.int (mny k), .int (wid k), .int (blk k), .ref (ad (2 * k + 1))]))
def rar (cyI : ClassId) (ad : Nat → Nat) (S : St) (k : Nat) : Nat × va_E := (ad (2 * k + 1), .inl (cyI, rsz k, .inl (S.1 k)))
def lok (ad : Nat → Nat) (S : St) (b : Nat) : Nat × va_E := (ad (26 + b), .inr (2, [.ref (ad (2 * 0)), .ref (ad (2 * 1)), .ref (ad (2 * 2)), .ref (ad 24), .ref (ad 25), .int (nI b), .ref (ad (2 * (8 + 2 * b))), .ref (ad (2 * (9 + 2 * b))), .int (S.1 (16 + 2 * b) 0), .int (S.1 (17 + 2 * b) 0)]))
def cw (cyI : ClassId) (ad : Nat → Nat) (S : St) : va_W := [rob ad 0, rar cyI ad S 0, rob ad 1, rar cyI ad S 1, rob ad 2, rar cyI ad S 2, rob ad 3, rar cyI ad S 3, rob ad 4, rar cyI ad S 4, rob ad 5, rar cyI ad S 5, rob ad 6, rar cyI ad S 6, rob ad 7, rar cyI ad S 7, rob ad 8, rar cyI ad S 8, rob ad 9, rar cyI ad S 9, rob ad 10, rar cyI ad S 10, rob ad 11, rar cyI ad S 11, (ad 24, .inr (0, [.ref (ad (2 * 3)), .int (S.1 12 0), .int (S.1 13 0)])), (ad 25, .inr (3, [.ref (ad (2 * 4)), .ref (ad (2 * 5)), .int (S.1 14 0), .int (S.1 15 0)])), lok ad S 0, lok ad S 1, (ad 28, .inr (1, [.ref (ad (2 * 1)), .ref (ad (2 * 6))])), (ad 29, .inr (5, [.ref (ad (26 + 1)), .ref (ad (2 * 7))])), (ad 30, .inr (6, [.ref (ad (2 * 0)), .ref (ad (2 * 1)), .ref (ad (2 * 2)), .ref (ad 24), .ref (ad 25), .ref (ad (26 + 0)), .ref (ad (26 + 1)), .ref (ad 28), .ref (ad 29)]))]
def CA (ad : Nat → Nat) : Nat → Prop := fun q => ∃ j, j < 31 ∧ q = ad j
def AdOK (n : Nat) (ad : Nat → Nat) : Prop := ∀ i j, i < n → j < n → ad i = ad j → i = j
theorem cw_ad {cyI : ClassId} {ad : Nat → Nat} {S : St} : (cw cyI ad S).map (fun q => q.1) = (List.range 31).map ad := rfl
theorem dis_of {n : Nat} {ad : Nat → Nat} (h : AdOK n ad) {w : va_W} (hw : w.map (fun q => q.1) = (List.range n).map ad) {A : Nat → Prop} (hA : ∀ j, j < n → A (ad j)) : va_D A w := by
  have key : ∀ (i : Nat) (p : Nat × va_E), w[i]? = some p → i < n ∧ p.1 = ad i := by
    intro i p hp
    have h1 : (w.map (fun q => q.1))[i]? = some p.1 := by rw [List.getElem?_map, hp]; rfl
    rw [hw, List.getElem?_map] at h1
    by_cases hi : i < n
    · rw [List.getElem?_range hi] at h1
      exact ⟨hi, (Option.some.inj h1).symm⟩
    · rw [List.getElem?_eq_none (by simpa using Nat.le_of_not_lt hi)] at h1
      cases h1
  refine ⟨fun i j p q hp hq hpq => ?_, fun k q hq => ?_⟩
  · obtain ⟨a1, a2⟩ := key i p hp
    obtain ⟨b1, b2⟩ := key j q hq
    exact h i j a1 b1 (by rw [← a2, ← b2]; exact hpq)
  · obtain ⟨a1, a2⟩ := key k q hq
    rw [a2]; exact hA k a1
theorem cw_D {cyI : ClassId} {ad : Nat → Nat} {S : St} (h : AdOK 31 ad) : va_D (CA ad) (cw cyI ad S) := dis_of h cw_ad (fun j hj => ⟨j, hj, rfl⟩)
theorem lt12 {k : Nat} (h : k < 12) : k = 0 ∨ k = 1 ∨ k = 2 ∨ k = 3 ∨ k = 4 ∨ k = 5 ∨ k = 6 ∨ k = 7 ∨ k = 8 ∨ k = 9 ∨ k = 10 ∨ k = 11 := by omega
theorem cw_ro {cyI : ClassId} {ad : Nat → Nat} {S : St} {k : Nat} (h : k < 12) : (cw cyI ad S)[2 * k]? = some (ad (2 * k), .inr (4, [.int (mny k), .int (wid k), .int (blk k), .ref (ad (2 * k + 1))])) := by
  rcases lt12 h with rfl | rfl | rfl | rfl | rfl | rfl | rfl | rfl | rfl | rfl | rfl | rfl <;> rfl
theorem cw_rc {cyI : ClassId} {ad : Nat → Nat} {S : St} {k : Nat} (h : k < 12) : (cw cyI ad S)[2 * k + 1]? = some (ad (2 * k + 1), .inl (cyI, rsz k, .inl (S.1 k))) := by
  rcases lt12 h with rfl | rfl | rfl | rfl | rfl | rfl | rfl | rfl | rfl | rfl | rfl | rfl <;> rfl
theorem cw_rs {cyI : ClassId} {ad : Nat → Nat} {S : St} {k i : Nat} {v : Int32} (h : k < 12) : (cw cyI ad S).set (2 * k + 1) (ad (2 * k + 1), .inl (cyI, rsz k, .inl (upd (S.1 k) i v))) = cw cyI ad (wi S k i v) := by
  rcases lt12 h with rfl | rfl | rfl | rfl | rfl | rfl | rfl | rfl | rfl | rfl | rfl | rfl <;> rfl
theorem cw_lo {cyI : ClassId} {ad : Nat → Nat} {S : St} {b : Nat} (h : b < 2) : (cw cyI ad S)[26 + b]? = some (lok ad S b) := by
  rcases (show b = 0 ∨ b = 1 by omega) with rfl | rfl <;> rfl
theorem cw_o24 {cyI : ClassId} {ad : Nat → Nat} {S : St} : (cw cyI ad S)[24]? = some (ad 24, .inr (0, [.ref (ad (2 * 3)), .int (S.1 12 0), .int (S.1 13 0)])) := rfl
theorem cw_o25 {cyI : ClassId} {ad : Nat → Nat} {S : St} : (cw cyI ad S)[25]? = some (ad 25, .inr (3, [.ref (ad (2 * 4)), .ref (ad (2 * 5)), .int (S.1 14 0), .int (S.1 15 0)])) := rfl
theorem cw_o28 {cyI : ClassId} {ad : Nat → Nat} {S : St} : (cw cyI ad S)[28]? = some (ad 28, .inr (1, [.ref (ad (2 * 1)), .ref (ad (2 * 6))])) := rfl
theorem cw_o29 {cyI : ClassId} {ad : Nat → Nat} {S : St} : (cw cyI ad S)[29]? = some (ad 29, .inr (5, [.ref (ad (26 + 1)), .ref (ad (2 * 7))])) := rfl
theorem cw_o30 {cyI : ClassId} {ad : Nat → Nat} {S : St} : (cw cyI ad S)[30]? = some (ad 30, .inr (6, [.ref (ad (2 * 0)), .ref (ad (2 * 1)), .ref (ad (2 * 2)), .ref (ad 24), .ref (ad 25), .ref (ad (26 + 0)), .ref (ad (26 + 1)), .ref (ad 28), .ref (ad 29)])) := rfl
theorem cw_s12 {cyI : ClassId} {ad : Nat → Nat} {S : St} {v : Int32} : (cw cyI ad S).set 24 (ad 24, .inr (0, [.ref (ad (2 * 3)), .int v, .int (S.1 13 0)])) = cw cyI ad (wi S 12 0 v) := rfl
theorem cw_s13 {cyI : ClassId} {ad : Nat → Nat} {S : St} {v : Int32} : (cw cyI ad S).set 24 (ad 24, .inr (0, [.ref (ad (2 * 3)), .int (S.1 12 0), .int v])) = cw cyI ad (wi S 13 0 v) := rfl
theorem cw_s14 {cyI : ClassId} {ad : Nat → Nat} {S : St} {v : Int32} : (cw cyI ad S).set 25 (ad 25, .inr (3, [.ref (ad (2 * 4)), .ref (ad (2 * 5)), .int v, .int (S.1 15 0)])) = cw cyI ad (wi S 14 0 v) := rfl
theorem cw_s15 {cyI : ClassId} {ad : Nat → Nat} {S : St} {v : Int32} : (cw cyI ad S).set 25 (ad 25, .inr (3, [.ref (ad (2 * 4)), .ref (ad (2 * 5)), .int (S.1 14 0), .int v])) = cw cyI ad (wi S 15 0 v) := rfl
theorem cw_s16 {cyI : ClassId} {ad : Nat → Nat} {S : St} {v : Int32} {b : Nat} (h : b < 2) : (cw cyI ad S).set (26 + b) (ad (26 + b), .inr (2, [.ref (ad (2 * 0)), .ref (ad (2 * 1)), .ref (ad (2 * 2)), .ref (ad 24), .ref (ad 25), .int (nI b), .ref (ad (2 * (8 + 2 * b))), .ref (ad (2 * (9 + 2 * b))), .int v, .int (S.1 (17 + 2 * b) 0)])) = cw cyI ad (wi S (16 + 2 * b) 0 v) := by
  rcases (show b = 0 ∨ b = 1 by omega) with rfl | rfl <;> rfl
theorem cw_s17 {cyI : ClassId} {ad : Nat → Nat} {S : St} {v : Int32} {b : Nat} (h : b < 2) : (cw cyI ad S).set (26 + b) (ad (26 + b), .inr (2, [.ref (ad (2 * 0)), .ref (ad (2 * 1)), .ref (ad (2 * 2)), .ref (ad 24), .ref (ad 25), .int (nI b), .ref (ad (2 * (8 + 2 * b))), .ref (ad (2 * (9 + 2 * b))), .int (S.1 (16 + 2 * b) 0), .int v])) = cw cyI ad (wi S (17 + 2 * b) 0 v) := by
  rcases (show b = 0 ∨ b = 1 by omega) with rfl | rfl <;> rfl
/-! the reference's world -/
def mfs (bd : Nat → Nat) (S : St) : List Value := [.ref (bd 1), .ref (bd 2), .ref (bd 3), .ref (bd 4), .ref (bd 5), .ref (bd 6), .ref (bd 7), .ref (bd 8), .ref (bd 9), .ref (bd 10), .ref (bd 11), .int (S.1 11 0), .int (S.1 12 0), .int (S.1 13 0), .int (S.1 14 0), .ref (bd 12), .ref (bd 13), .ref (bd 14), .ref (bd 15), .ref (bd 16), .ref (bd 17), .ref (bd 18), .ref (bd 19), .ref (bd 20), .ref (bd 21), .int (S.1 25 0), .ref (bd 22), .ref (bd 23), .ref (bd 24), .ref (bd 25), .ref (bd 26), .ref (bd 27), .ref (bd 28), .ref (bd 29), .int (S.1 34 0), .ref (bd 30), .ref (bd 31), .ref (bd 32), .ref (bd 33), .ref (bd 34), .ref (bd 35), .ref (bd 36), .ref (bd 37), .int (S.1 43 0), .ref (bd 38), .ref (bd 39), .ref (bd 40), .int (S.1 47 0)]
def mw (cyI cyJ cyZ : ClassId) (bd : Nat → Nat) (S : St) : va_W := [(bd 0, .inr (7, mfs bd S)), (bd 1, .inl (cyI, 20, .inl (S.1 0))), (bd 2, .inl (cyI, 16, .inl (S.1 1))), (bd 3, .inl (cyI, 16, .inl (S.1 2))), (bd 4, .inl (cyI, 16, .inl (S.1 3))), (bd 5, .inl (cyI, 16, .inl (S.1 4))), (bd 6, .inl (cyI, 16, .inl (S.1 5))), (bd 7, .inl (cyI, 64, .inl (S.1 6))), (bd 8, .inl (cyI, 64, .inl (S.1 7))), (bd 9, .inl (cyI, 16, .inl (S.1 8))), (bd 10, .inl (cyZ, 3, .inl (S.1 9))), (bd 11, .inl (cyZ, 3, .inl (S.1 10))), (bd 12, .inl (cyZ, 32, .inl (S.1 15))), (bd 13, .inl (cyJ, 32, .inr (.inl (S.2 16)))), (bd 14, .inl (cyI, 32, .inl (S.1 17))), (bd 15, .inl (cyI, 32, .inl (S.1 18))), (bd 16, .inl (cyI, 160, .inl (S.1 19))), (bd 17, .inl (cyI, 160, .inl (S.1 20))), (bd 18, .inl (cyJ, 160, .inr (.inl (S.2 21)))), (bd 19, .inl (cyI, 32, .inl (S.1 22))), (bd 20, .inl (cyI, 32, .inl (S.1 23))), (bd 21, .inl (cyZ, 32, .inl (S.1 24))), (bd 22, .inl (cyJ, 606, .inr (.inl (S.2 26)))), (bd 23, .inl (cyI, 101, .inl (S.1 27))), (bd 24, .inl (cyI, 101, .inl (S.1 28))), (bd 25, .inl (cyI, 32, .inl (S.1 29))), (bd 26, .inl (cyI, 32, .inl (S.1 30))), (bd 27, .inl (cyI, 32, .inl (S.1 31))), (bd 28, .inl (cyI, 32, .inl (S.1 32))), (bd 29, .inl (cyI, 4, .inl (S.1 33))), (bd 30, .inl (cyI, 40, .inl (S.1 35))), (bd 31, .inl (cyZ, 32, .inl (S.1 36))), (bd 32, .inl (cyI, 32, .inl (S.1 37))), (bd 33, .inl (cyI, 32, .inl (S.1 38))), (bd 34, .inl (cyI, 160, .inl (S.1 39))), (bd 35, .inl (cyI, 160, .inl (S.1 40))), (bd 36, .inl (cyJ, 160, .inr (.inl (S.2 41)))), (bd 37, .inl (cyJ, 6, .inr (.inl (S.2 42)))), (bd 38, .inl (cyI, 32, .inl (S.1 44))), (bd 39, .inl (cyI, 32, .inl (S.1 45))), (bd 40, .inl (cyI, 32, .inl (S.1 46)))]
def MA (bd : Nat → Nat) : Nat → Prop := fun q => ∃ j, j < 41 ∧ q = bd j
theorem mw_ad {cyI cyJ cyZ : ClassId} {bd : Nat → Nat} {S : St} : (mw cyI cyJ cyZ bd S).map (fun q => q.1) = (List.range 41).map bd := rfl
theorem mw_D {cyI cyJ cyZ : ClassId} {bd : Nat → Nat} {S : St} (h : AdOK 41 bd) : va_D (MA bd) (mw cyI cyJ cyZ bd S) := dis_of h mw_ad (fun j hj => ⟨j, hj, rfl⟩)
theorem mw_o {cyI cyJ cyZ : ClassId} {bd : Nat → Nat} {S : St} : (mw cyI cyJ cyZ bd S)[0]? = some (bd 0, .inr (7, mfs bd S)) := rfl
theorem mw_a0 {cyI cyJ cyZ : ClassId} {bd : Nat → Nat} {S : St} : (mw cyI cyJ cyZ bd S)[1]? = some (bd 1, .inl (cyI, 20, .inl (S.1 0))) := rfl
theorem mw_s0 {cyI cyJ cyZ : ClassId} {bd : Nat → Nat} {S : St} {i : Nat} {v : Int32} : (mw cyI cyJ cyZ bd S).set 1 (bd 1, .inl (cyI, 20, .inl (upd (S.1 0) i v))) = mw cyI cyJ cyZ bd (wi S 0 i v) := rfl
theorem mw_f0 {bd : Nat → Nat} {S : St} : (mfs bd S)[0]? = some (.ref (bd 1)) := rfl
theorem mw_a1 {cyI cyJ cyZ : ClassId} {bd : Nat → Nat} {S : St} : (mw cyI cyJ cyZ bd S)[2]? = some (bd 2, .inl (cyI, 16, .inl (S.1 1))) := rfl
theorem mw_s1 {cyI cyJ cyZ : ClassId} {bd : Nat → Nat} {S : St} {i : Nat} {v : Int32} : (mw cyI cyJ cyZ bd S).set 2 (bd 2, .inl (cyI, 16, .inl (upd (S.1 1) i v))) = mw cyI cyJ cyZ bd (wi S 1 i v) := rfl
theorem mw_f1 {bd : Nat → Nat} {S : St} : (mfs bd S)[1]? = some (.ref (bd 2)) := rfl
theorem mw_a2 {cyI cyJ cyZ : ClassId} {bd : Nat → Nat} {S : St} : (mw cyI cyJ cyZ bd S)[3]? = some (bd 3, .inl (cyI, 16, .inl (S.1 2))) := rfl
theorem mw_s2 {cyI cyJ cyZ : ClassId} {bd : Nat → Nat} {S : St} {i : Nat} {v : Int32} : (mw cyI cyJ cyZ bd S).set 3 (bd 3, .inl (cyI, 16, .inl (upd (S.1 2) i v))) = mw cyI cyJ cyZ bd (wi S 2 i v) := rfl
theorem mw_f2 {bd : Nat → Nat} {S : St} : (mfs bd S)[2]? = some (.ref (bd 3)) := rfl
theorem mw_a3 {cyI cyJ cyZ : ClassId} {bd : Nat → Nat} {S : St} : (mw cyI cyJ cyZ bd S)[4]? = some (bd 4, .inl (cyI, 16, .inl (S.1 3))) := rfl
theorem mw_s3 {cyI cyJ cyZ : ClassId} {bd : Nat → Nat} {S : St} {i : Nat} {v : Int32} : (mw cyI cyJ cyZ bd S).set 4 (bd 4, .inl (cyI, 16, .inl (upd (S.1 3) i v))) = mw cyI cyJ cyZ bd (wi S 3 i v) := rfl
theorem mw_f3 {bd : Nat → Nat} {S : St} : (mfs bd S)[3]? = some (.ref (bd 4)) := rfl
theorem mw_a4 {cyI cyJ cyZ : ClassId} {bd : Nat → Nat} {S : St} : (mw cyI cyJ cyZ bd S)[5]? = some (bd 5, .inl (cyI, 16, .inl (S.1 4))) := rfl
theorem mw_s4 {cyI cyJ cyZ : ClassId} {bd : Nat → Nat} {S : St} {i : Nat} {v : Int32} : (mw cyI cyJ cyZ bd S).set 5 (bd 5, .inl (cyI, 16, .inl (upd (S.1 4) i v))) = mw cyI cyJ cyZ bd (wi S 4 i v) := rfl
theorem mw_f4 {bd : Nat → Nat} {S : St} : (mfs bd S)[4]? = some (.ref (bd 5)) := rfl
theorem mw_a5 {cyI cyJ cyZ : ClassId} {bd : Nat → Nat} {S : St} : (mw cyI cyJ cyZ bd S)[6]? = some (bd 6, .inl (cyI, 16, .inl (S.1 5))) := rfl
theorem mw_s5 {cyI cyJ cyZ : ClassId} {bd : Nat → Nat} {S : St} {i : Nat} {v : Int32} : (mw cyI cyJ cyZ bd S).set 6 (bd 6, .inl (cyI, 16, .inl (upd (S.1 5) i v))) = mw cyI cyJ cyZ bd (wi S 5 i v) := rfl
theorem mw_f5 {bd : Nat → Nat} {S : St} : (mfs bd S)[5]? = some (.ref (bd 6)) := rfl
theorem mw_a6 {cyI cyJ cyZ : ClassId} {bd : Nat → Nat} {S : St} : (mw cyI cyJ cyZ bd S)[7]? = some (bd 7, .inl (cyI, 64, .inl (S.1 6))) := rfl
theorem mw_s6 {cyI cyJ cyZ : ClassId} {bd : Nat → Nat} {S : St} {i : Nat} {v : Int32} : (mw cyI cyJ cyZ bd S).set 7 (bd 7, .inl (cyI, 64, .inl (upd (S.1 6) i v))) = mw cyI cyJ cyZ bd (wi S 6 i v) := rfl
theorem mw_f6 {bd : Nat → Nat} {S : St} : (mfs bd S)[6]? = some (.ref (bd 7)) := rfl
theorem mw_a7 {cyI cyJ cyZ : ClassId} {bd : Nat → Nat} {S : St} : (mw cyI cyJ cyZ bd S)[8]? = some (bd 8, .inl (cyI, 64, .inl (S.1 7))) := rfl
theorem mw_s7 {cyI cyJ cyZ : ClassId} {bd : Nat → Nat} {S : St} {i : Nat} {v : Int32} : (mw cyI cyJ cyZ bd S).set 8 (bd 8, .inl (cyI, 64, .inl (upd (S.1 7) i v))) = mw cyI cyJ cyZ bd (wi S 7 i v) := rfl
theorem mw_f7 {bd : Nat → Nat} {S : St} : (mfs bd S)[7]? = some (.ref (bd 8)) := rfl
theorem mw_a8 {cyI cyJ cyZ : ClassId} {bd : Nat → Nat} {S : St} : (mw cyI cyJ cyZ bd S)[9]? = some (bd 9, .inl (cyI, 16, .inl (S.1 8))) := rfl
theorem mw_s8 {cyI cyJ cyZ : ClassId} {bd : Nat → Nat} {S : St} {i : Nat} {v : Int32} : (mw cyI cyJ cyZ bd S).set 9 (bd 9, .inl (cyI, 16, .inl (upd (S.1 8) i v))) = mw cyI cyJ cyZ bd (wi S 8 i v) := rfl
theorem mw_f8 {bd : Nat → Nat} {S : St} : (mfs bd S)[8]? = some (.ref (bd 9)) := rfl
theorem mw_a9 {cyI cyJ cyZ : ClassId} {bd : Nat → Nat} {S : St} : (mw cyI cyJ cyZ bd S)[10]? = some (bd 10, .inl (cyZ, 3, .inl (S.1 9))) := rfl
theorem mw_s9 {cyI cyJ cyZ : ClassId} {bd : Nat → Nat} {S : St} {i : Nat} {v : Int32} : (mw cyI cyJ cyZ bd S).set 10 (bd 10, .inl (cyZ, 3, .inl (upd (S.1 9) i v))) = mw cyI cyJ cyZ bd (wi S 9 i v) := rfl
theorem mw_f9 {bd : Nat → Nat} {S : St} : (mfs bd S)[9]? = some (.ref (bd 10)) := rfl
theorem mw_a10 {cyI cyJ cyZ : ClassId} {bd : Nat → Nat} {S : St} : (mw cyI cyJ cyZ bd S)[11]? = some (bd 11, .inl (cyZ, 3, .inl (S.1 10))) := rfl
theorem mw_s10 {cyI cyJ cyZ : ClassId} {bd : Nat → Nat} {S : St} {i : Nat} {v : Int32} : (mw cyI cyJ cyZ bd S).set 11 (bd 11, .inl (cyZ, 3, .inl (upd (S.1 10) i v))) = mw cyI cyJ cyZ bd (wi S 10 i v) := rfl
theorem mw_f10 {bd : Nat → Nat} {S : St} : (mfs bd S)[10]? = some (.ref (bd 11)) := rfl
theorem mw_s11 {cyI cyJ cyZ : ClassId} {bd : Nat → Nat} {S : St} {v : Int32} : (mw cyI cyJ cyZ bd S).set 0 (bd 0, .inr (7, (mfs bd S).set 11 (.int v))) = mw cyI cyJ cyZ bd (wi S 11 0 v) := rfl
theorem mw_f11 {bd : Nat → Nat} {S : St} : (mfs bd S)[11]? = some (.int (S.1 11 0)) := rfl
theorem mw_s12 {cyI cyJ cyZ : ClassId} {bd : Nat → Nat} {S : St} {v : Int32} : (mw cyI cyJ cyZ bd S).set 0 (bd 0, .inr (7, (mfs bd S).set 12 (.int v))) = mw cyI cyJ cyZ bd (wi S 12 0 v) := rfl
theorem mw_f12 {bd : Nat → Nat} {S : St} : (mfs bd S)[12]? = some (.int (S.1 12 0)) := rfl
theorem mw_s13 {cyI cyJ cyZ : ClassId} {bd : Nat → Nat} {S : St} {v : Int32} : (mw cyI cyJ cyZ bd S).set 0 (bd 0, .inr (7, (mfs bd S).set 13 (.int v))) = mw cyI cyJ cyZ bd (wi S 13 0 v) := rfl
theorem mw_f13 {bd : Nat → Nat} {S : St} : (mfs bd S)[13]? = some (.int (S.1 13 0)) := rfl
theorem mw_s14 {cyI cyJ cyZ : ClassId} {bd : Nat → Nat} {S : St} {v : Int32} : (mw cyI cyJ cyZ bd S).set 0 (bd 0, .inr (7, (mfs bd S).set 14 (.int v))) = mw cyI cyJ cyZ bd (wi S 14 0 v) := rfl
theorem mw_f14 {bd : Nat → Nat} {S : St} : (mfs bd S)[14]? = some (.int (S.1 14 0)) := rfl
theorem mw_a15 {cyI cyJ cyZ : ClassId} {bd : Nat → Nat} {S : St} : (mw cyI cyJ cyZ bd S)[12]? = some (bd 12, .inl (cyZ, 32, .inl (S.1 15))) := rfl
theorem mw_s15 {cyI cyJ cyZ : ClassId} {bd : Nat → Nat} {S : St} {i : Nat} {v : Int32} : (mw cyI cyJ cyZ bd S).set 12 (bd 12, .inl (cyZ, 32, .inl (upd (S.1 15) i v))) = mw cyI cyJ cyZ bd (wi S 15 i v) := rfl
theorem mw_f15 {bd : Nat → Nat} {S : St} : (mfs bd S)[15]? = some (.ref (bd 12)) := rfl
theorem mw_a16 {cyI cyJ cyZ : ClassId} {bd : Nat → Nat} {S : St} : (mw cyI cyJ cyZ bd S)[13]? = some (bd 13, .inl (cyJ, 32, .inr (.inl (S.2 16)))) := rfl
theorem mw_s16 {cyI cyJ cyZ : ClassId} {bd : Nat → Nat} {S : St} {i : Nat} {v : Int64} : (mw cyI cyJ cyZ bd S).set 13 (bd 13, .inl (cyJ, 32, .inr (.inl (vp_updL (S.2 16) i v)))) = mw cyI cyJ cyZ bd (wj S 16 i v) := rfl
theorem mw_f16 {bd : Nat → Nat} {S : St} : (mfs bd S)[16]? = some (.ref (bd 13)) := rfl
theorem mw_a17 {cyI cyJ cyZ : ClassId} {bd : Nat → Nat} {S : St} : (mw cyI cyJ cyZ bd S)[14]? = some (bd 14, .inl (cyI, 32, .inl (S.1 17))) := rfl
theorem mw_s17 {cyI cyJ cyZ : ClassId} {bd : Nat → Nat} {S : St} {i : Nat} {v : Int32} : (mw cyI cyJ cyZ bd S).set 14 (bd 14, .inl (cyI, 32, .inl (upd (S.1 17) i v))) = mw cyI cyJ cyZ bd (wi S 17 i v) := rfl
theorem mw_f17 {bd : Nat → Nat} {S : St} : (mfs bd S)[17]? = some (.ref (bd 14)) := rfl
theorem mw_a18 {cyI cyJ cyZ : ClassId} {bd : Nat → Nat} {S : St} : (mw cyI cyJ cyZ bd S)[15]? = some (bd 15, .inl (cyI, 32, .inl (S.1 18))) := rfl
theorem mw_s18 {cyI cyJ cyZ : ClassId} {bd : Nat → Nat} {S : St} {i : Nat} {v : Int32} : (mw cyI cyJ cyZ bd S).set 15 (bd 15, .inl (cyI, 32, .inl (upd (S.1 18) i v))) = mw cyI cyJ cyZ bd (wi S 18 i v) := rfl
theorem mw_f18 {bd : Nat → Nat} {S : St} : (mfs bd S)[18]? = some (.ref (bd 15)) := rfl
theorem mw_a19 {cyI cyJ cyZ : ClassId} {bd : Nat → Nat} {S : St} : (mw cyI cyJ cyZ bd S)[16]? = some (bd 16, .inl (cyI, 160, .inl (S.1 19))) := rfl
theorem mw_s19 {cyI cyJ cyZ : ClassId} {bd : Nat → Nat} {S : St} {i : Nat} {v : Int32} : (mw cyI cyJ cyZ bd S).set 16 (bd 16, .inl (cyI, 160, .inl (upd (S.1 19) i v))) = mw cyI cyJ cyZ bd (wi S 19 i v) := rfl
theorem mw_f19 {bd : Nat → Nat} {S : St} : (mfs bd S)[19]? = some (.ref (bd 16)) := rfl
theorem mw_a20 {cyI cyJ cyZ : ClassId} {bd : Nat → Nat} {S : St} : (mw cyI cyJ cyZ bd S)[17]? = some (bd 17, .inl (cyI, 160, .inl (S.1 20))) := rfl
theorem mw_s20 {cyI cyJ cyZ : ClassId} {bd : Nat → Nat} {S : St} {i : Nat} {v : Int32} : (mw cyI cyJ cyZ bd S).set 17 (bd 17, .inl (cyI, 160, .inl (upd (S.1 20) i v))) = mw cyI cyJ cyZ bd (wi S 20 i v) := rfl
theorem mw_f20 {bd : Nat → Nat} {S : St} : (mfs bd S)[20]? = some (.ref (bd 17)) := rfl
theorem mw_a21 {cyI cyJ cyZ : ClassId} {bd : Nat → Nat} {S : St} : (mw cyI cyJ cyZ bd S)[18]? = some (bd 18, .inl (cyJ, 160, .inr (.inl (S.2 21)))) := rfl
theorem mw_s21 {cyI cyJ cyZ : ClassId} {bd : Nat → Nat} {S : St} {i : Nat} {v : Int64} : (mw cyI cyJ cyZ bd S).set 18 (bd 18, .inl (cyJ, 160, .inr (.inl (vp_updL (S.2 21) i v)))) = mw cyI cyJ cyZ bd (wj S 21 i v) := rfl
theorem mw_f21 {bd : Nat → Nat} {S : St} : (mfs bd S)[21]? = some (.ref (bd 18)) := rfl
theorem mw_a22 {cyI cyJ cyZ : ClassId} {bd : Nat → Nat} {S : St} : (mw cyI cyJ cyZ bd S)[19]? = some (bd 19, .inl (cyI, 32, .inl (S.1 22))) := rfl
theorem mw_s22 {cyI cyJ cyZ : ClassId} {bd : Nat → Nat} {S : St} {i : Nat} {v : Int32} : (mw cyI cyJ cyZ bd S).set 19 (bd 19, .inl (cyI, 32, .inl (upd (S.1 22) i v))) = mw cyI cyJ cyZ bd (wi S 22 i v) := rfl
theorem mw_f22 {bd : Nat → Nat} {S : St} : (mfs bd S)[22]? = some (.ref (bd 19)) := rfl
theorem mw_a23 {cyI cyJ cyZ : ClassId} {bd : Nat → Nat} {S : St} : (mw cyI cyJ cyZ bd S)[20]? = some (bd 20, .inl (cyI, 32, .inl (S.1 23))) := rfl
theorem mw_s23 {cyI cyJ cyZ : ClassId} {bd : Nat → Nat} {S : St} {i : Nat} {v : Int32} : (mw cyI cyJ cyZ bd S).set 20 (bd 20, .inl (cyI, 32, .inl (upd (S.1 23) i v))) = mw cyI cyJ cyZ bd (wi S 23 i v) := rfl
theorem mw_f23 {bd : Nat → Nat} {S : St} : (mfs bd S)[23]? = some (.ref (bd 20)) := rfl
theorem mw_a24 {cyI cyJ cyZ : ClassId} {bd : Nat → Nat} {S : St} : (mw cyI cyJ cyZ bd S)[21]? = some (bd 21, .inl (cyZ, 32, .inl (S.1 24))) := rfl
theorem mw_s24 {cyI cyJ cyZ : ClassId} {bd : Nat → Nat} {S : St} {i : Nat} {v : Int32} : (mw cyI cyJ cyZ bd S).set 21 (bd 21, .inl (cyZ, 32, .inl (upd (S.1 24) i v))) = mw cyI cyJ cyZ bd (wi S 24 i v) := rfl
theorem mw_f24 {bd : Nat → Nat} {S : St} : (mfs bd S)[24]? = some (.ref (bd 21)) := rfl
theorem mw_s25 {cyI cyJ cyZ : ClassId} {bd : Nat → Nat} {S : St} {v : Int32} : (mw cyI cyJ cyZ bd S).set 0 (bd 0, .inr (7, (mfs bd S).set 25 (.int v))) = mw cyI cyJ cyZ bd (wi S 25 0 v) := rfl
theorem mw_f25 {bd : Nat → Nat} {S : St} : (mfs bd S)[25]? = some (.int (S.1 25 0)) := rfl
theorem mw_a26 {cyI cyJ cyZ : ClassId} {bd : Nat → Nat} {S : St} : (mw cyI cyJ cyZ bd S)[22]? = some (bd 22, .inl (cyJ, 606, .inr (.inl (S.2 26)))) := rfl
theorem mw_s26 {cyI cyJ cyZ : ClassId} {bd : Nat → Nat} {S : St} {i : Nat} {v : Int64} : (mw cyI cyJ cyZ bd S).set 22 (bd 22, .inl (cyJ, 606, .inr (.inl (vp_updL (S.2 26) i v)))) = mw cyI cyJ cyZ bd (wj S 26 i v) := rfl
theorem mw_f26 {bd : Nat → Nat} {S : St} : (mfs bd S)[26]? = some (.ref (bd 22)) := rfl
theorem mw_a27 {cyI cyJ cyZ : ClassId} {bd : Nat → Nat} {S : St} : (mw cyI cyJ cyZ bd S)[23]? = some (bd 23, .inl (cyI, 101, .inl (S.1 27))) := rfl
theorem mw_s27 {cyI cyJ cyZ : ClassId} {bd : Nat → Nat} {S : St} {i : Nat} {v : Int32} : (mw cyI cyJ cyZ bd S).set 23 (bd 23, .inl (cyI, 101, .inl (upd (S.1 27) i v))) = mw cyI cyJ cyZ bd (wi S 27 i v) := rfl
theorem mw_f27 {bd : Nat → Nat} {S : St} : (mfs bd S)[27]? = some (.ref (bd 23)) := rfl
theorem mw_a28 {cyI cyJ cyZ : ClassId} {bd : Nat → Nat} {S : St} : (mw cyI cyJ cyZ bd S)[24]? = some (bd 24, .inl (cyI, 101, .inl (S.1 28))) := rfl
theorem mw_s28 {cyI cyJ cyZ : ClassId} {bd : Nat → Nat} {S : St} {i : Nat} {v : Int32} : (mw cyI cyJ cyZ bd S).set 24 (bd 24, .inl (cyI, 101, .inl (upd (S.1 28) i v))) = mw cyI cyJ cyZ bd (wi S 28 i v) := rfl
theorem mw_f28 {bd : Nat → Nat} {S : St} : (mfs bd S)[28]? = some (.ref (bd 24)) := rfl
theorem mw_a29 {cyI cyJ cyZ : ClassId} {bd : Nat → Nat} {S : St} : (mw cyI cyJ cyZ bd S)[25]? = some (bd 25, .inl (cyI, 32, .inl (S.1 29))) := rfl
theorem mw_s29 {cyI cyJ cyZ : ClassId} {bd : Nat → Nat} {S : St} {i : Nat} {v : Int32} : (mw cyI cyJ cyZ bd S).set 25 (bd 25, .inl (cyI, 32, .inl (upd (S.1 29) i v))) = mw cyI cyJ cyZ bd (wi S 29 i v) := rfl
theorem mw_f29 {bd : Nat → Nat} {S : St} : (mfs bd S)[29]? = some (.ref (bd 25)) := rfl
theorem mw_a30 {cyI cyJ cyZ : ClassId} {bd : Nat → Nat} {S : St} : (mw cyI cyJ cyZ bd S)[26]? = some (bd 26, .inl (cyI, 32, .inl (S.1 30))) := rfl
theorem mw_s30 {cyI cyJ cyZ : ClassId} {bd : Nat → Nat} {S : St} {i : Nat} {v : Int32} : (mw cyI cyJ cyZ bd S).set 26 (bd 26, .inl (cyI, 32, .inl (upd (S.1 30) i v))) = mw cyI cyJ cyZ bd (wi S 30 i v) := rfl
theorem mw_f30 {bd : Nat → Nat} {S : St} : (mfs bd S)[30]? = some (.ref (bd 26)) := rfl
theorem mw_a31 {cyI cyJ cyZ : ClassId} {bd : Nat → Nat} {S : St} : (mw cyI cyJ cyZ bd S)[27]? = some (bd 27, .inl (cyI, 32, .inl (S.1 31))) := rfl
theorem mw_s31 {cyI cyJ cyZ : ClassId} {bd : Nat → Nat} {S : St} {i : Nat} {v : Int32} : (mw cyI cyJ cyZ bd S).set 27 (bd 27, .inl (cyI, 32, .inl (upd (S.1 31) i v))) = mw cyI cyJ cyZ bd (wi S 31 i v) := rfl
theorem mw_f31 {bd : Nat → Nat} {S : St} : (mfs bd S)[31]? = some (.ref (bd 27)) := rfl
theorem mw_a32 {cyI cyJ cyZ : ClassId} {bd : Nat → Nat} {S : St} : (mw cyI cyJ cyZ bd S)[28]? = some (bd 28, .inl (cyI, 32, .inl (S.1 32))) := rfl
theorem mw_s32 {cyI cyJ cyZ : ClassId} {bd : Nat → Nat} {S : St} {i : Nat} {v : Int32} : (mw cyI cyJ cyZ bd S).set 28 (bd 28, .inl (cyI, 32, .inl (upd (S.1 32) i v))) = mw cyI cyJ cyZ bd (wi S 32 i v) := rfl
theorem mw_f32 {bd : Nat → Nat} {S : St} : (mfs bd S)[32]? = some (.ref (bd 28)) := rfl
theorem mw_a33 {cyI cyJ cyZ : ClassId} {bd : Nat → Nat} {S : St} : (mw cyI cyJ cyZ bd S)[29]? = some (bd 29, .inl (cyI, 4, .inl (S.1 33))) := rfl
theorem mw_s33 {cyI cyJ cyZ : ClassId} {bd : Nat → Nat} {S : St} {i : Nat} {v : Int32} : (mw cyI cyJ cyZ bd S).set 29 (bd 29, .inl (cyI, 4, .inl (upd (S.1 33) i v))) = mw cyI cyJ cyZ bd (wi S 33 i v) := rfl
theorem mw_f33 {bd : Nat → Nat} {S : St} : (mfs bd S)[33]? = some (.ref (bd 29)) := rfl
theorem mw_s34 {cyI cyJ cyZ : ClassId} {bd : Nat → Nat} {S : St} {v : Int32} : (mw cyI cyJ cyZ bd S).set 0 (bd 0, .inr (7, (mfs bd S).set 34 (.int v))) = mw cyI cyJ cyZ bd (wi S 34 0 v) := rfl
theorem mw_f34 {bd : Nat → Nat} {S : St} : (mfs bd S)[34]? = some (.int (S.1 34 0)) := rfl
theorem mw_a35 {cyI cyJ cyZ : ClassId} {bd : Nat → Nat} {S : St} : (mw cyI cyJ cyZ bd S)[30]? = some (bd 30, .inl (cyI, 40, .inl (S.1 35))) := rfl
theorem mw_s35 {cyI cyJ cyZ : ClassId} {bd : Nat → Nat} {S : St} {i : Nat} {v : Int32} : (mw cyI cyJ cyZ bd S).set 30 (bd 30, .inl (cyI, 40, .inl (upd (S.1 35) i v))) = mw cyI cyJ cyZ bd (wi S 35 i v) := rfl
theorem mw_f35 {bd : Nat → Nat} {S : St} : (mfs bd S)[35]? = some (.ref (bd 30)) := rfl
theorem mw_a36 {cyI cyJ cyZ : ClassId} {bd : Nat → Nat} {S : St} : (mw cyI cyJ cyZ bd S)[31]? = some (bd 31, .inl (cyZ, 32, .inl (S.1 36))) := rfl
theorem mw_s36 {cyI cyJ cyZ : ClassId} {bd : Nat → Nat} {S : St} {i : Nat} {v : Int32} : (mw cyI cyJ cyZ bd S).set 31 (bd 31, .inl (cyZ, 32, .inl (upd (S.1 36) i v))) = mw cyI cyJ cyZ bd (wi S 36 i v) := rfl
theorem mw_f36 {bd : Nat → Nat} {S : St} : (mfs bd S)[36]? = some (.ref (bd 31)) := rfl
theorem mw_a37 {cyI cyJ cyZ : ClassId} {bd : Nat → Nat} {S : St} : (mw cyI cyJ cyZ bd S)[32]? = some (bd 32, .inl (cyI, 32, .inl (S.1 37))) := rfl
theorem mw_s37 {cyI cyJ cyZ : ClassId} {bd : Nat → Nat} {S : St} {i : Nat} {v : Int32} : (mw cyI cyJ cyZ bd S).set 32 (bd 32, .inl (cyI, 32, .inl (upd (S.1 37) i v))) = mw cyI cyJ cyZ bd (wi S 37 i v) := rfl
theorem mw_f37 {bd : Nat → Nat} {S : St} : (mfs bd S)[37]? = some (.ref (bd 32)) := rfl
theorem mw_a38 {cyI cyJ cyZ : ClassId} {bd : Nat → Nat} {S : St} : (mw cyI cyJ cyZ bd S)[33]? = some (bd 33, .inl (cyI, 32, .inl (S.1 38))) := rfl
theorem mw_s38 {cyI cyJ cyZ : ClassId} {bd : Nat → Nat} {S : St} {i : Nat} {v : Int32} : (mw cyI cyJ cyZ bd S).set 33 (bd 33, .inl (cyI, 32, .inl (upd (S.1 38) i v))) = mw cyI cyJ cyZ bd (wi S 38 i v) := rfl
theorem mw_f38 {bd : Nat → Nat} {S : St} : (mfs bd S)[38]? = some (.ref (bd 33)) := rfl
theorem mw_a39 {cyI cyJ cyZ : ClassId} {bd : Nat → Nat} {S : St} : (mw cyI cyJ cyZ bd S)[34]? = some (bd 34, .inl (cyI, 160, .inl (S.1 39))) := rfl
theorem mw_s39 {cyI cyJ cyZ : ClassId} {bd : Nat → Nat} {S : St} {i : Nat} {v : Int32} : (mw cyI cyJ cyZ bd S).set 34 (bd 34, .inl (cyI, 160, .inl (upd (S.1 39) i v))) = mw cyI cyJ cyZ bd (wi S 39 i v) := rfl
theorem mw_f39 {bd : Nat → Nat} {S : St} : (mfs bd S)[39]? = some (.ref (bd 34)) := rfl
theorem mw_a40 {cyI cyJ cyZ : ClassId} {bd : Nat → Nat} {S : St} : (mw cyI cyJ cyZ bd S)[35]? = some (bd 35, .inl (cyI, 160, .inl (S.1 40))) := rfl
theorem mw_s40 {cyI cyJ cyZ : ClassId} {bd : Nat → Nat} {S : St} {i : Nat} {v : Int32} : (mw cyI cyJ cyZ bd S).set 35 (bd 35, .inl (cyI, 160, .inl (upd (S.1 40) i v))) = mw cyI cyJ cyZ bd (wi S 40 i v) := rfl
theorem mw_f40 {bd : Nat → Nat} {S : St} : (mfs bd S)[40]? = some (.ref (bd 35)) := rfl
theorem mw_a41 {cyI cyJ cyZ : ClassId} {bd : Nat → Nat} {S : St} : (mw cyI cyJ cyZ bd S)[36]? = some (bd 36, .inl (cyJ, 160, .inr (.inl (S.2 41)))) := rfl
theorem mw_s41 {cyI cyJ cyZ : ClassId} {bd : Nat → Nat} {S : St} {i : Nat} {v : Int64} : (mw cyI cyJ cyZ bd S).set 36 (bd 36, .inl (cyJ, 160, .inr (.inl (vp_updL (S.2 41) i v)))) = mw cyI cyJ cyZ bd (wj S 41 i v) := rfl
theorem mw_f41 {bd : Nat → Nat} {S : St} : (mfs bd S)[41]? = some (.ref (bd 36)) := rfl
theorem mw_a42 {cyI cyJ cyZ : ClassId} {bd : Nat → Nat} {S : St} : (mw cyI cyJ cyZ bd S)[37]? = some (bd 37, .inl (cyJ, 6, .inr (.inl (S.2 42)))) := rfl
theorem mw_s42 {cyI cyJ cyZ : ClassId} {bd : Nat → Nat} {S : St} {i : Nat} {v : Int64} : (mw cyI cyJ cyZ bd S).set 37 (bd 37, .inl (cyJ, 6, .inr (.inl (vp_updL (S.2 42) i v)))) = mw cyI cyJ cyZ bd (wj S 42 i v) := rfl
theorem mw_f42 {bd : Nat → Nat} {S : St} : (mfs bd S)[42]? = some (.ref (bd 37)) := rfl
theorem mw_s43 {cyI cyJ cyZ : ClassId} {bd : Nat → Nat} {S : St} {v : Int32} : (mw cyI cyJ cyZ bd S).set 0 (bd 0, .inr (7, (mfs bd S).set 43 (.int v))) = mw cyI cyJ cyZ bd (wi S 43 0 v) := rfl
theorem mw_f43 {bd : Nat → Nat} {S : St} : (mfs bd S)[43]? = some (.int (S.1 43 0)) := rfl
theorem mw_a44 {cyI cyJ cyZ : ClassId} {bd : Nat → Nat} {S : St} : (mw cyI cyJ cyZ bd S)[38]? = some (bd 38, .inl (cyI, 32, .inl (S.1 44))) := rfl
theorem mw_s44 {cyI cyJ cyZ : ClassId} {bd : Nat → Nat} {S : St} {i : Nat} {v : Int32} : (mw cyI cyJ cyZ bd S).set 38 (bd 38, .inl (cyI, 32, .inl (upd (S.1 44) i v))) = mw cyI cyJ cyZ bd (wi S 44 i v) := rfl
theorem mw_f44 {bd : Nat → Nat} {S : St} : (mfs bd S)[44]? = some (.ref (bd 38)) := rfl
theorem mw_a45 {cyI cyJ cyZ : ClassId} {bd : Nat → Nat} {S : St} : (mw cyI cyJ cyZ bd S)[39]? = some (bd 39, .inl (cyI, 32, .inl (S.1 45))) := rfl
theorem mw_s45 {cyI cyJ cyZ : ClassId} {bd : Nat → Nat} {S : St} {i : Nat} {v : Int32} : (mw cyI cyJ cyZ bd S).set 39 (bd 39, .inl (cyI, 32, .inl (upd (S.1 45) i v))) = mw cyI cyJ cyZ bd (wi S 45 i v) := rfl
theorem mw_f45 {bd : Nat → Nat} {S : St} : (mfs bd S)[45]? = some (.ref (bd 39)) := rfl
theorem mw_a46 {cyI cyJ cyZ : ClassId} {bd : Nat → Nat} {S : St} : (mw cyI cyJ cyZ bd S)[40]? = some (bd 40, .inl (cyI, 32, .inl (S.1 46))) := rfl
theorem mw_s46 {cyI cyJ cyZ : ClassId} {bd : Nat → Nat} {S : St} {i : Nat} {v : Int32} : (mw cyI cyJ cyZ bd S).set 40 (bd 40, .inl (cyI, 32, .inl (upd (S.1 46) i v))) = mw cyI cyJ cyZ bd (wi S 46 i v) := rfl
theorem mw_f46 {bd : Nat → Nat} {S : St} : (mfs bd S)[46]? = some (.ref (bd 40)) := rfl
theorem mw_s47 {cyI cyJ cyZ : ClassId} {bd : Nat → Nat} {S : St} {v : Int32} : (mw cyI cyJ cyZ bd S).set 0 (bd 0, .inr (7, (mfs bd S).set 47 (.int v))) = mw cyI cyJ cyZ bd (wi S 47 0 v) := rfl
theorem mw_f47 {bd : Nat → Nat} {S : St} : (mfs bd S)[47]? = some (.int (S.1 47 0)) := rfl
