/-! what was read, as the reference keeps it; keys -/
def encV (x : Rd) : Int64 := if x.2.1 = 1 then lN (encF 0 x.2.2.2) else eO64 (x.2.2.2[0]?).join
theorem join_of {l : List (Option Nat)} (h : ∀ o ∈ l, ∀ n, o = some n → n < 1000) {i : Nat} : ∀ n, (l[i]?).join = some n → n < 1000 := by
  intro n hn
  cases hl : l[i]? with
  | none => rw [hl] at hn; cases hn
  | some o => rw [hl] at hn; exact h o (List.mem_of_getElem? hl) n hn
theorem encV_inj {x y : Rd} (hx : RdOK x) (hy : RdOK y) (hw : x.2.1 = y.2.1) (h : encV x = encV y) : x.2.2.2 = y.2.2.2 := by
  obtain ⟨x1, x2, x3, x4, x5⟩ := hx
  obtain ⟨y1, y2, y3, y4, y5⟩ := hy
  unfold encV at h
  by_cases h1 : x.2.1 = 1
  · rw [if_pos h1, if_pos (hw ▸ h1)] at h
    rw [if_pos h1] at x4
    rw [if_pos (hw ▸ h1)] at y4
    exact (vals_fit x4 y4 x5 y5).mp h
  · rw [if_neg h1, if_neg (hw ▸ h1)] at h
    rw [if_neg h1] at x4
    rw [if_neg (hw ▸ h1)] at y4
    have e := eO64_inj (join_of x5) (join_of y5) h
    obtain ⟨a, ha⟩ := List.length_eq_one_iff.mp x4
    obtain ⟨b, hb⟩ := List.length_eq_one_iff.mp y4
    rw [ha, hb] at e ⊢
    simpa using e
theorem encV_n2 {x : Rd} (hx : RdOK x) : ¬ encV x = -2 := by
  obtain ⟨x1, x2, x3, x4, x5⟩ := hx
  unfold encV
  split
  · rename_i h1
    rw [if_pos h1] at x4
    have b1 := encF_le x.2.2.2 0 (fun o ho => o1_lt (x5 o ho))
    rw [x4] at b1
    exact lN_n2 (by omega)
  · exact eO64_n2 (join_of x5)
def keyJ (rs : List Rd) (j : Nat) : Int64 := match rs[j]? with
  | some x => encV x
  | none => -2
theorem keyJ_len {a b : List Rd} (ha : ∀ x ∈ a, RdOK x) (hb : ∀ x ∈ b, RdOK x) (la : a.length ≤ 5) (lb : b.length ≤ 5) (h : ∀ j, j < 5 → keyJ a j = keyJ b j) : a.length = b.length := by
  rcases Nat.lt_trichotomy a.length b.length with q | q | q
  · have e := h a.length (by omega)
    unfold keyJ at e
    rw [List.getElem?_eq_none (Nat.le_refl _), List.getElem?_eq_getElem q] at e
    exact absurd e.symm (encV_n2 (hb _ (List.getElem_mem q)))
  · exact q
  · have e := h b.length (by omega)
    unfold keyJ at e
    rw [List.getElem?_eq_none (l := b) (Nat.le_refl _), List.getElem?_eq_getElem q] at e
    exact absurd e (encV_n2 (ha _ (List.getElem_mem q)))
/-- the same places and the same numbers: the same reads -/
theorem reads_ext : ∀ (a b : List Rd), a.map pj = b.map pj → (∀ x ∈ a, RdOK x) → (∀ x ∈ b, RdOK x) → (∀ j, j < a.length → keyJ a j = keyJ b j) → a = b
  | [], [], _, _, _, _ => rfl
  | [], _ :: _, h, _, _, _ => by simp at h
  | _ :: _, [], h, _, _, _ => by simp at h
  | x :: a, y :: b, h, ha, hb, hk => by
    simp only [List.map_cons, List.cons.injEq] at h
    obtain ⟨h1, h2⟩ := h
    simp only [Prod.mk.injEq] at h1
    have k0 : encV x = encV y := hk 0 (by simp)
    have e := encV_inj (ha x List.mem_cons_self) (hb y List.mem_cons_self) h1.2.1 k0
    have t := reads_ext a b h2 (fun z hz => ha z (List.mem_cons_of_mem _ hz)) (fun z hz => hb z (List.mem_cons_of_mem _ hz)) (fun j hj => hk (j + 1) (by simpa using hj))
    rw [t, Prod.ext h1.1 (Prod.ext h1.2.1 (Prod.ext h1.2.2 e))]
theorem keyJ_app {a : List Rd} {x : Rd} {j : Nat} (hj : j < a.length) : keyJ (a ++ [x]) j = keyJ a j := by
  unfold keyJ
  rw [List.getElem?_append_left hj]
theorem keyJ_last {a : List Rd} {x : Rd} : keyJ (a ++ [x]) a.length = encV x := by
  unfold keyJ
  rw [List.getElem?_append_right (Nat.le_refl _)]
  simp
theorem WFr_ext {r : Rul} (hr : RulOK r) {cf : Nat} {a b : List Rd} (ha : ∀ x ∈ a, RdOK x) (hb : ∀ x ∈ b, RdOK x) (wa : WFr r cf a) (wb : WFr r cf b) (h : ∀ j, j < 5 → keyJ a j = keyJ b j) : a = b := by
  have la := WFr_le hr wa
  have lb := WFr_le hr wb
  unfold WFr at wa wb
  split at wa
  · rename_i h3
    rw [if_pos h3] at wb
    obtain ⟨a0, o, rfl, e1⟩ := wa
    obtain ⟨b0, o2, rfl, e2⟩ := wb
    have hl := keyJ_len ha hb la lb h
    simp only [List.length_append, List.length_cons, List.length_nil] at hl la lb
    have t := reads_ext a0 b0 (e1.trans e2.symm) (fun x hx => ha x (List.mem_append_left _ hx)) (fun x hx => hb x (List.mem_append_left _ hx)) (fun j hj => by
      have e := h j (by omega)
      rwa [keyJ_app hj, keyJ_app (by omega)] at e)
    subst t
    have e := h a0.length (by omega)
    rw [keyJ_last, keyJ_last] at e
    have e3 := encV_inj (ha _ (List.mem_append_right _ List.mem_cons_self)) (hb _ (List.mem_append_right _ List.mem_cons_self)) rfl e
    simp only [List.cons.injEq, and_true] at e3
    rw [e3]
  · rename_i h3
    rw [if_neg h3] at wb
    exact reads_ext a b (wa.trans wb.symm) ha hb (fun j hj => h j (by omega))
theorem expIn_congr {r s : Rul} (h1 : kd r = kd s) (h2 : ip r = ip s) (cf : Nat) : expIn r cf = expIn s cf := by
  unfold expIn
  rw [h1, h2]
theorem WFr_congr {r s : Rul} (h1 : kd r = kd s) (h2 : ip r = ip s) {cf : Nat} {a : List Rd} (h : WFr r cf a) : WFr s cf a := by
  unfold WFr at h ⊢
  rw [← h1, ← expIn_congr h1 h2]
  exact h
theorem keyJ_map {a b : List Rd} (h : a.map (fun x => x.2) = b.map (fun x => x.2)) (j : Nat) : keyJ a j = keyJ b j := by
  have e : (a.map (fun x => x.2))[j]? = (b.map (fun x => x.2))[j]? := by rw [h]
  rw [List.getElem?_map, List.getElem?_map] at e
  unfold keyJ
  cases h1 : a[j]? with
  | none =>
    cases h2 : b[j]? with
    | none => rfl
    | some y => rw [h1, h2] at e; cases e
  | some x =>
    cases h2 : b[j]? with
    | none => rw [h1, h2] at e; cases e
    | some y =>
      rw [h1, h2] at e
      have e2 : x.2 = y.2 := Option.some.inj e
      simp only [encV, e2]
/-- the class's key and the reference's say the same -/
theorem key_iff {r s : Rul} {c1 c2 : Nat} {a b : List Rd} (hr : RulOK r) (hs : RulOK s) (hc1 : c1 < 2) (hc2 : c2 < 2) (ha : ∀ x ∈ a, RdOK x) (hb : ∀ x ∈ b, RdOK x) (wa : WFr r c1 a) (wb : WFr s c2 b) :
    keyOf r c1 a = keyOf s c2 b ↔ lN (2 * encR r + c1) = lN (2 * encR s + c2) ∧ ∀ j, j < 5 → keyJ a j = keyJ b j := by
  have b1 := encR_le hr
  have b2 := encR_le hs
  constructor
  · intro h
    simp only [keyOf, Prod.mk.injEq] at h
    obtain ⟨⟨h1, h2, h3, h4⟩, h5, h6⟩ := h
    refine ⟨?_, fun j _ => keyJ_map h6 j⟩
    simp only [encR, encB, h1, h2, h3, h4, h5]
  · rintro ⟨h1, h2⟩
    have e := lN_inj (by omega) (by omega) h1
    obtain ⟨e1, e2, e3, e4⟩ := encR_inj hr hs (by omega)
    have e5 : c1 = c2 := by omega
    subst e5
    have e6 := WFr_ext hr ha hb wa (WFr_congr e1.symm e4.symm wb) h2
    simp only [keyOf, e1, e2, e3, e4, e6]
