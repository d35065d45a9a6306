/-! what rules, reads and rows are, in numbers -/
/-- kind, number, salt, time, inputs (what, which) -/
abbrev Rul : Type := Nat × Nat × Nat × Nat × List (Nat × Nat)
abbrev kd (r : Rul) : Nat := r.1
abbrev nb (r : Rul) : Nat := r.2.1
abbrev sl (r : Rul) : Nat := r.2.2.1
abbrev tm (r : Rul) : Nat := r.2.2.2.1
abbrev ip (r : Rul) : List (Nat × Nat) := r.2.2.2.2
/-- what was read: the place among the inputs (4: found), what, which, the values (of a folder five) -/
abbrev Rd : Type := Nat × Nat × Nat × List (Option Nat)
def eO : Option Nat → Int32
  | none => -1
  | some n => nI n
def lim (w : Nat) : Nat := if w = 0 then 20 else if w = 1 then 4 else 16
def InOK (q : Nat × Nat) : Prop := q.1 < 4 ∧ q.2 < lim q.1
def RulOK (r : Rul) : Prop := kd r < 5 ∧ nb r < 1000 ∧ sl r < 1000 ∧ 1 ≤ tm r ∧ tm r ≤ 20 ∧ (ip r).length ≤ 4 ∧ ∀ q ∈ ip r, InOK q
theorem lim_le (w : Nat) : lim w ≤ 20 := by
  unfold lim; split <;> (try split) <;> omega
theorem RulOK.get {r : Rul} (h : RulOK r) {i : Nat} {q : Nat × Nat} (hi : (ip r)[i]? = some q) : i < 4 ∧ q.1 < 4 ∧ q.2 < lim q.1 := by
  have h1 := (List.getElem?_eq_some_iff.mp hi).1
  have h2 := h.2.2.2.2.2.2 q (List.mem_of_getElem? hi)
  have h3 := h.2.2.2.2.2.1
  exact ⟨by omega, h2.1, h2.2⟩
/-- the cells of a rule: time, kind, number, salt, how many inputs, the inputs -/
def ruC (r : Rul) (p : Nat) : Int32 :=
  if p = 0 then nI (tm r) else if p = 1 then nI (kd r) else if p = 2 then nI (nb r) else if p = 3 then nI (sl r) else if p = 4 then nI (ip r).length else
  match (ip r)[(p - 5) / 2]? with
  | some q => if (p - 5) % 2 = 0 then nI q.1 else nI q.2
  | none => -1
theorem ruC_in {r : Rul} {i : Nat} : ruC r (5 + 2 * i) = (match (ip r)[i]? with | some q => nI q.1 | none => -1) ∧ ruC r (6 + 2 * i) = (match (ip r)[i]? with | some q => nI q.2 | none => -1) := by
  have h1 : (5 + 2 * i - 5) / 2 = i := by omega
  have h2 : (6 + 2 * i - 5) / 2 = i := by omega
  have h3 : (5 + 2 * i - 5) % 2 = 0 := by omega
  have h4 : ¬ (6 + 2 * i - 5) % 2 = 0 := by omega
  constructor
  · unfold ruC
    rw [if_neg (by omega), if_neg (by omega), if_neg (by omega), if_neg (by omega), if_neg (by omega), h1]
    cases (ip r)[i]? with
    | none => rfl
    | some q => simp only [h3, if_true]
  · unfold ruC
    rw [if_neg (by omega), if_neg (by omega), if_neg (by omega), if_neg (by omega), if_neg (by omega), h2]
    cases (ip r)[i]? with
    | none => rfl
    | some q => simp only [h4, if_false]
theorem ip_ext {a b : List (Nat × Nat)} (ha : ∀ q ∈ a, InOK q) (hb : ∀ q ∈ b, InOK q) (hl : a.length = b.length) (h : ∀ i, i < a.length → (match a[i]? with | some q => nI q.1 | none => -1) = (match b[i]? with | some q => nI q.1 | none => -1) ∧ (match a[i]? with | some q => nI q.2 | none => -1) = (match b[i]? with | some q => nI q.2 | none => -1)) : a = b := by
  apply List.ext_getElem hl
  intro i h1 h2
  obtain ⟨e1, e2⟩ := h i h1
  rw [List.getElem?_eq_getElem h1, List.getElem?_eq_getElem h2] at e1 e2
  have a1 := ha _ (List.getElem_mem h1)
  have b1 := hb _ (List.getElem_mem h2)
  have a2 := lim_le a[i].1
  have b2 := lim_le b[i].1
  unfold InOK at a1 b1
  exact Prod.ext (nI_inj (by omega) (by omega) e1) (nI_inj (by omega) (by omega) e2)
/-- equal cells behind the time: the same rule, but for its time -/
theorem ruC_inj {r s : Rul} (hr : RulOK r) (hs : RulOK s) (h : ∀ p, 1 ≤ p → p < 13 → ruC r p = ruC s p) : kd r = kd s ∧ nb r = nb s ∧ sl r = sl s ∧ ip r = ip s := by
  obtain ⟨r1, r2, r3, r4, r5, r6, r7⟩ := hr
  obtain ⟨s1, s2, s3, s4, s5, s6, s7⟩ := hs
  have h1 : nI (kd r) = nI (kd s) := h 1 (by omega) (by omega)
  have h2 : nI (nb r) = nI (nb s) := h 2 (by omega) (by omega)
  have h3 : nI (sl r) = nI (sl s) := h 3 (by omega) (by omega)
  have h4 : nI (ip r).length = nI (ip s).length := h 4 (by omega) (by omega)
  have hl : (ip r).length = (ip s).length := nI_inj (by omega) (by omega) h4
  refine ⟨nI_inj (by omega) (by omega) h1, nI_inj (by omega) (by omega) h2, nI_inj (by omega) (by omega) h3, ip_ext r7 s7 hl ?_⟩
  intro i hi
  have e1 := h (5 + 2 * i) (by omega) (by omega)
  have e2 := h (6 + 2 * i) (by omega) (by omega)
  rw [ruC_in.1, ruC_in.1] at e1
  rw [ruC_in.2, ruC_in.2] at e2
  exact ⟨e1, e2⟩
theorem ruC_eq {r s : Rul} (h : kd r = kd s ∧ nb r = nb s ∧ sl r = sl s ∧ ip r = ip s) {p : Nat} (hp : 1 ≤ p) : ruC r p = ruC s p := by
  obtain ⟨h1, h2, h3, h4⟩ := h
  have h0 : ¬ p = 0 := by omega
  unfold ruC
  rw [if_neg h0, if_neg h0, h1, h2, h3, h4]
theorem ruC_time {r s : Rul} (hr : RulOK r) (hs : RulOK s) (h : ruC r 0 = ruC s 0) : tm r = tm s := by
  obtain ⟨r1, r2, r3, r4, r5, r6, r7⟩ := hr
  obtain ⟨s1, s2, s3, s4, s5, s6, s7⟩ := hs
  have h0 : nI (tm r) = nI (tm s) := h
  exact nI_inj (by omega) (by omega) h0
theorem Rul_ext {r s : Rul} (h0 : tm r = tm s) (h : kd r = kd s ∧ nb r = nb s ∧ sl r = sl s ∧ ip r = ip s) : r = s := by
  obtain ⟨a, b, c, d, e⟩ := r
  obtain ⟨a', b', c', d', e'⟩ := s
  obtain ⟨h1, h2, h3, h4⟩ := h
  have h0 : d = d' := h0
  have h1 : a = a' := h1
  have h2 : b = b' := h2
  have h3 : c = c' := h3
  have h4 : e = e' := h4
  rw [h0, h1, h2, h3, h4]
/-- the cells of what was read, from the first one on -/
def rdC (rs : List Rd) (q : Nat) : Int32 :=
  match rs[q / 7]? with
  | some x => if q % 7 = 0 then nI x.2.1 else if q % 7 = 1 then nI x.2.2.1 else eO (x.2.2.2[q % 7 - 2]?).join
  | none => -1
def RdOK (x : Rd) : Prop := x.1 ≤ 4 ∧ x.2.1 ≤ 4 ∧ x.2.2.1 < 20 ∧ x.2.2.2.length = (if x.2.1 = 1 then 5 else 1) ∧ ∀ o ∈ x.2.2.2, ∀ n, o = some n → n < 1000
theorem rdC_at {rs : List Rd} {j i : Nat} (hi : i < 7) : rdC rs (7 * j + i) = (match rs[j]? with | some x => if i = 0 then nI x.2.1 else if i = 1 then nI x.2.2.1 else eO (x.2.2.2[i - 2]?).join | none => -1) := by
  unfold rdC
  rw [show (7 * j + i) / 7 = j by omega, show (7 * j + i) % 7 = i by omega]
theorem eO_inj {a b : Option Nat} (ha : ∀ n, a = some n → n < 2147483648) (hb : ∀ n, b = some n → n < 2147483648) (h : eO a = eO b) : a = b := by
  cases a with
  | none =>
    cases b with
    | none => rfl
    | some n => exact absurd h.symm (nI_n1 (hb n rfl))
  | some m =>
    cases b with
    | none => exact absurd h (nI_n1 (ha m rfl))
    | some n => exact congrArg some (nI_inj (ha m rfl) (hb n rfl) h)
theorem vals_ext {a b : List (Option Nat)} (hl : a.length = b.length) (ha : ∀ o ∈ a, ∀ n, o = some n → n < 1000) (hb : ∀ o ∈ b, ∀ n, o = some n → n < 1000) (h : ∀ i, i < a.length → eO (a[i]?).join = eO (b[i]?).join) : a = b := by
  apply List.ext_getElem hl
  intro i h1 h2
  have e := h i h1
  rw [List.getElem?_eq_getElem h1, List.getElem?_eq_getElem h2] at e
  exact eO_inj (fun n q => Nat.lt_trans (ha _ (List.getElem_mem h1) n q) (by omega)) (fun n q => Nat.lt_trans (hb _ (List.getElem_mem h2) n q) (by omega)) e
/-- equal cells: the same was read (but for its place among the inputs) -/
theorem rdC_inj {a b : List Rd} (ha : ∀ x ∈ a, RdOK x) (hb : ∀ x ∈ b, RdOK x) (hl : a.length = b.length) (h : ∀ q, q < 7 * a.length → rdC a q = rdC b q) : a.map (fun x => x.2) = b.map (fun x => x.2) := by
  apply List.ext_getElem (by simp [hl])
  intro j h1 h2
  simp only [List.length_map] at h1 h2
  simp only [List.getElem_map]
  have cell : ∀ i, i < 7 → (if i = 0 then nI a[j].2.1 else if i = 1 then nI a[j].2.2.1 else eO (a[j].2.2.2[i - 2]?).join) = (if i = 0 then nI b[j].2.1 else if i = 1 then nI b[j].2.2.1 else eO (b[j].2.2.2[i - 2]?).join) := by
    intro i hi
    have e := h (7 * j + i) (by omega)
    rw [rdC_at hi, rdC_at hi, List.getElem?_eq_getElem h1, List.getElem?_eq_getElem h2] at e
    exact e
  obtain ⟨a1, a2, a3, a4, a5⟩ := ha _ (List.getElem_mem h1)
  obtain ⟨b1, b2, b3, b4, b5⟩ := hb _ (List.getElem_mem h2)
  have e1 : a[j].2.1 = b[j].2.1 := nI_inj (by omega) (by omega) (cell 0 (by omega))
  have e2 : a[j].2.2.1 = b[j].2.2.1 := nI_inj (by omega) (by omega) (cell 1 (by omega))
  have e3 : a[j].2.2.2 = b[j].2.2.2 := by
    have hll : a[j].2.2.2.length = b[j].2.2.2.length := by rw [a4, b4, e1]
    refine vals_ext hll a5 b5 (fun i hi => ?_)
    have h5 : a[j].2.2.2.length ≤ 5 := by rw [a4]; split <;> omega
    have e := cell (i + 2) (by omega)
    rw [if_neg (by omega), if_neg (by omega), if_neg (by omega), if_neg (by omega), Nat.add_sub_cancel] at e
    exact e
  exact Prod.ext e1 (Prod.ext e2 e3)
/-- the cells of a row: rule, configuration, how many reads, reads, value, from, came -/
def rowC (r : Rul) (cf : Nat) (rs : List Rd) (v f c : Int32) (p : Nat) : Int32 :=
  if p < 13 then ruC r p else if p = 13 then nI cf else if p = 14 then nI rs.length else if p < 50 then rdC rs (p - 15) else if p = 50 then v else if p = 51 then f else c
theorem rowC_ru {r : Rul} {cf : Nat} {rs : List Rd} {v f c : Int32} {p : Nat} (h : p < 13) : rowC r cf rs v f c p = ruC r p := if_pos h
theorem rowC_rd {r : Rul} {cf : Nat} {rs : List Rd} {v f c : Int32} {p : Nat} (h1 : 15 ≤ p) (h2 : p < 50) : rowC r cf rs v f c p = rdC rs (p - 15) := by
  unfold rowC
  rw [if_neg (by omega), if_neg (by omega), if_neg (by omega), if_pos h2]
/-- what an entry is asked by -/
abbrev keyOf (r : Rul) (cf : Nat) (rs : List Rd) : (Nat × Nat × Nat × List (Nat × Nat)) × Nat × List (Nat × Nat × List (Option Nat)) := ((kd r, nb r, sl r, ip r), cf, rs.map (fun x => x.2))
theorem rowC_inj {r s : Rul} {c1 c2 : Nat} {a b : List Rd} {v f c v2 f2 c3 : Int32} (hr : RulOK r) (hs : RulOK s) (hc1 : c1 < 2) (hc2 : c2 < 2) (ha : ∀ x ∈ a, RdOK x) (hb : ∀ x ∈ b, RdOK x) (la : a.length ≤ 5) (lb : b.length ≤ 5)
    (h : ∀ p, 1 ≤ p → p < 50 → rowC r c1 a v f c p = rowC s c2 b v2 f2 c3 p) : keyOf r c1 a = keyOf s c2 b := by
  obtain ⟨h1, h2, h3, h4⟩ := ruC_inj hr hs (fun p p1 p2 => by
    have e := h p p1 (by omega)
    rw [rowC_ru p2, rowC_ru p2] at e
    exact e)
  have e13 : nI c1 = nI c2 := h 13 (by omega) (by omega)
  have e14 : nI a.length = nI b.length := h 14 (by omega) (by omega)
  have hl : a.length = b.length := nI_inj (by omega) (by omega) e14
  have h5 := rdC_inj ha hb hl (fun q hq => by
    have e := h (q + 15) (by omega) (by omega)
    rw [rowC_rd (by omega) (by omega), rowC_rd (by omega) (by omega), Nat.add_sub_cancel] at e
    exact e)
  have h6 : c1 = c2 := nI_inj (by omega) (by omega) e13
  simp only [keyOf, h1, h2, h3, h4, h5, h6]
theorem rdC_eq {a b : List Rd} (h : a.map (fun x => x.2) = b.map (fun x => x.2)) (q : Nat) : rdC a q = rdC b q := by
  have e : (a.map (fun x => x.2))[q / 7]? = (b.map (fun x => x.2))[q / 7]? := by rw [h]
  rw [List.getElem?_map, List.getElem?_map] at e
  unfold rdC
  cases h1 : a[q / 7]? with
  | none =>
    cases h2 : b[q / 7]? with
    | none => rfl
    | some y => rw [h1, h2] at e; cases e
  | some x =>
    cases h2 : b[q / 7]? with
    | none => rw [h1, h2] at e; cases e
    | some y =>
      rw [h1, h2] at e
      have e2 : x.2 = y.2 := Option.some.inj e
      simp only [e2]
theorem rowC_eq {r s : Rul} {c1 c2 : Nat} {a b : List Rd} {v f c v2 f2 c3 : Int32} (h : keyOf r c1 a = keyOf s c2 b) {p : Nat} (p1 : 1 ≤ p) (p2 : p < 50) : rowC r c1 a v f c p = rowC s c2 b v2 f2 c3 p := by
  simp only [keyOf, Prod.mk.injEq] at h
  obtain ⟨⟨h1, h2, h3, h4⟩, h5, h6⟩ := h
  have hl : a.length = b.length := by
    have := congrArg List.length h6
    simpa using this
  unfold rowC
  rw [ruC_eq ⟨h1, h2, h3, h4⟩ p1, h5, hl, rdC_eq h6, if_pos p2, if_pos p2]
/-! what a rule reads -/
def expIn (r : Rul) (cf : Nat) : List (Nat × Nat × Nat) :=
  if kd r = 2 then (match (ip r)[cf]? with | some q => [(cf, q.1, q.2)] | none => []) else (ip r).mapIdx (fun i q => (i, q.1, q.2))
abbrev pj (x : Rd) : Nat × Nat × Nat := (x.1, x.2.1, x.2.2.1)
def sumO : List (Option Nat) → Nat
  | [] => 0
  | o :: t => o.getD 0 + sumO t
def sumR : List Rd → Nat
  | [] => 0
  | x :: t => sumO x.2.2.2 % 1000 + sumR t
/-- all that was read, and nothing else, in order -/
def WFr (r : Rul) (cf : Nat) (rs : List Rd) : Prop :=
  if kd r = 3 then ∃ (rs0 : List Rd) (o : Option Nat), rs = rs0 ++ [(4, 4, sumR rs0 % 20, [o])] ∧ rs0.map pj = expIn r cf else rs.map pj = expIn r cf
theorem expIn_le {r : Rul} (h : RulOK r) (cf : Nat) : (expIn r cf).length ≤ 4 := by
  have h6 := h.2.2.2.2.2.1
  unfold expIn
  split
  · split <;> simp
  · simpa using h6
theorem WFr_le {r : Rul} (h : RulOK r) {cf : Nat} {rs : List Rd} (hw : WFr r cf rs) : rs.length ≤ 5 := by
  have h4 := expIn_le h cf
  unfold WFr at hw
  split at hw
  · obtain ⟨rs0, o, h1, h2⟩ := hw
    have := congrArg List.length h2
    simp only [List.length_map] at this
    rw [h1]; simp; omega
  · have := congrArg List.length hw
    simp only [List.length_map] at this
    omega
