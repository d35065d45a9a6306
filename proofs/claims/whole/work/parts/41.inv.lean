/-! what holds of the abstract state -/
/-- but of a folder or a found file, a value was read -/
def RdSv (x : Rd) : Prop := ¬ x.2.1 = 1 → ¬ x.2.1 = 4 → ∃ v, x.2.2.2 = [some v]
def RdGd (x : Rd) : Prop := RdOK x ∧ RdSv x
def KOK (n : Nat) (q : Kp) : Prop := RulOK q.1 ∧ (∀ x ∈ q.2.1, RdGd x) ∧ WFr q.1 (n % 2) q.2.1 ∧ q.2.2.1 < 1000 ∧ q.2.2.2 ≤ 3
def EOK (e : En) : Prop := RulOK e.1 ∧ e.2.1 < 2 ∧ (∀ x ∈ e.2.2.1, RdOK x) ∧ WFr e.1 e.2.1 e.2.2.1 ∧ e.2.2.2.1 < 1000 ∧ e.2.2.2.2 ≤ 3
def AOK (a : Ans) : Prop := match a with
  | .inl k => 2 ≤ k ∧ k ≤ 5
  | .inr v => v < 1000
def EvOK (E : Ev) : Prop := FOK (eφ E) ∧ ∀ t r, eρ E t = some r → RulOK r
abbrev keyE (e : En) : (Nat × Nat × Nat × List (Nat × Nat)) × Nat × List (Nat × Nat × List (Option Nat)) := keyOf e.1 e.2.1 e.2.2.1
def WG (g : Gs) : Prop :=
  (∀ n q, gK g n = some q → KOK n q) ∧ (∀ e ∈ gL g, EOK e) ∧ (gL g).length ≤ 100 ∧ (gL g).Pairwise (fun a b => ¬ keyE a = keyE b) ∧
  gTu g < 3 ∧ gVn g ≤ 20 ∧ (∀ t, gTf g t ≤ 20) ∧ (∀ n, AOK (gAn g n)) ∧ gAw g 3 = false ∧
  (∀ e ∈ gL g, gAw g e.2.2.2.2 = false) ∧ (∀ n q, gDn g n = 0 → gK g n = some q → gAw g q.2.2.2 = false)
/-- what a look leaves as it is -/
def AF (g g' : Gs) : Prop := (∀ m, gDn g' m = 5 ↔ gDn g m = 5) ∧ (∀ m, gDn g m = 5 → gK g' m = gK g m) ∧ (∀ m, ¬ gDn g m = 0 → ¬ gDn g' m = 0)
theorem AF_rf (g : Gs) : AF g g := ⟨fun _ => Iff.rfl, fun _ _ => rfl, fun _ h => h⟩
theorem AF_tr {a b c : Gs} (h1 : AF a b) (h2 : AF b c) : AF a c :=
  ⟨fun m => (h2.1 m).trans (h1.1 m), fun m h => (h2.2.1 m ((h1.1 m).mpr h)).trans (h1.2.1 m h), fun m h => h2.2.2 m (h1.2.2 m h)⟩
theorem AF_eq {g g' : Gs} (h1 : gDn g' = gDn g) (h2 : ∀ m, gDn g m = 5 → gK g' m = gK g m) : AF g g' := by
  refine ⟨fun m => by rw [h1], h2, fun m h => by rw [h1]; exact h⟩
theorem WG_same {g g' : Gs} (h : WG g) (e1 : gK g' = gK g) (e2 : gL g' = gL g) (e3 : gTu g' = gTu g) (e4 : gVn g' = gVn g) (e5 : gTf g' = gTf g) (e6 : gAn g' = gAn g) (e7 : gAw g' = gAw g) (e8 : ∀ n, gDn g' n = 0 → gDn g n = 0) : WG g' := by
  obtain ⟨k1, k2, k3, k4, k5, k6, k7, k8, k9, k10, k11⟩ := h
  unfold WG
  rw [e1, e2, e3, e4, e5, e6, e7]
  exact ⟨k1, k2, k3, k4, k5, k6, k7, k8, k9, k10, fun n q h1 => k11 n q (e8 n h1)⟩
theorem fu_s {α : Type} {f : Nat → α} {n : Nat} {v : α} : fu f n v n = v := if_pos rfl
theorem fu_n {α : Type} {f : Nat → α} {n : Nat} {v : α} {i : Nat} (h : ¬ i = n) : fu f n v i = f i := if_neg h
theorem WG_sDn5 {g : Gs} (h : WG g) (n : Nat) : WG (sDn g n 5) := WG_same h rfl rfl rfl rfl rfl rfl rfl (fun m hm => by
  have hm : fu (gDn g) n 5 m = 0 := hm
  by_cases h2 : m = n
  · subst h2; rw [fu_s] at hm; omega
  · rwa [fu_n h2] at hm)
theorem nextM_c {g : Gs} (h : WG g) : ∃ x m, nextM g = (m, sTu g x) ∧ x < 3 ∧ m ≤ 3 ∧ gAw g m = false := by
  obtain ⟨k1, k2, k3, k4, k5, k6, k7, k8, k9, k10, k11⟩ := h
  unfold nextM
  split
  · rename_i h1
    exact ⟨_, _, rfl, Nat.mod_lt _ (by omega), by omega, h1⟩
  · split
    · rename_i h1
      exact ⟨_, _, rfl, Nat.mod_lt _ (by omega), by omega, h1⟩
    · split
      · rename_i h1
        exact ⟨gTu g, _, rfl, k5, by omega, h1⟩
      · exact ⟨gTu g, _, rfl, k5, by omega, k9⟩
/-- a state with other turn, failures, runs -/
def rest3 (g : Gs) (a : Nat → Nat) (b c : Nat) : Gs := mkG (gK g) (gL g) (gAw g) a b (gVn g) (gLk g) (gDn g) (gAn g) (gWy g) c (gRd g)
theorem WG_rest3 {g : Gs} (h : WG g) {a : Nat → Nat} {b c : Nat} (ha : ∀ t, a t ≤ 20) (hb : b < 3) : WG (rest3 g a b c) := by
  obtain ⟨k1, k2, k3, k4, k5, k6, k7, k8, k9, k10, k11⟩ := h
  exact ⟨k1, k2, k3, k4, hb, k6, ha, k8, k9, k10, k11⟩
theorem arun_c {t : Nat} : ∀ (k : Nat) {g : Gs}, WG g → ∃ (o : Option Nat) (a : Nat → Nat) (b c : Nat), arun t k g = (o, rest3 g a b c) ∧ (∀ t, a t ≤ 20) ∧ b < 3 ∧ ∀ m, o = some m → m ≤ 3 ∧ gAw g m = false
  | 0, g, h => ⟨none, gTf g, gTu g, gRn g, rfl, h.2.2.2.2.2.2.1, h.2.2.2.2.1, fun m q => by cases q⟩
  | k + 1, g, h => by
    obtain ⟨x, m, e, hx, hm, ha⟩ := nextM_c (g := sRn g (gRn g + 1)) (WG_same h rfl rfl rfl rfl rfl rfl rfl (fun _ q => q))
    have k7 := h.2.2.2.2.2.2.1
    unfold arun
    rw [e]
    show ∃ o a b c, (if 0 < gTf g t then arun t k (rest3 g (fu (gTf g) t (gTf g t - 1)) x (gRn g + 1)) else (some m, rest3 g (gTf g) x (gRn g + 1))) = (o, rest3 g a b c) ∧ _
    by_cases h1 : 0 < gTf g t
    · rw [if_pos h1]
      obtain ⟨o, a, b, c, e2, h2, h3, h4⟩ := arun_c k (WG_rest3 (c := gRn g + 1) h (a := fu (gTf g) t (gTf g t - 1)) (b := x) (fun t2 => by
        unfold fu
        split
        · have := k7 t; omega
        · exact k7 t2) hx)
      exact ⟨o, a, b, c, e2, h2, h3, h4⟩
    · rw [if_neg h1]
      exact ⟨_, _, _, _, rfl, k7, hx, fun m2 q => by cases q; exact ⟨hm, ha⟩⟩
theorem WG_aput {g : Gs} (h : WG g) {m : Nat} (hm : m < 3) : WG (aput m g) := by
  obtain ⟨k1, k2, k3, k4, k5, k6, k7, k8, k9, k10, k11⟩ := h
  have hK : ∀ i q, gK (aput m g) i = some q → gK g i = some q ∧ ¬ (gDn g i = 0 ∧ q.2.2.2 = m) := by
    intro i q hq
    have hq : (match gK g i with
      | none => none
      | some q => if gDn g i = 0 ∧ q.2.2.2 = m then none else some q) = some q := hq
    cases hg : gK g i with
    | none => rw [hg] at hq; cases hq
    | some q2 =>
      rw [hg] at hq
      have hq : (if gDn g i = 0 ∧ q2.2.2.2 = m then none else some q2) = some q := hq
      by_cases h1 : gDn g i = 0 ∧ q2.2.2.2 = m
      · rw [if_pos h1] at hq; cases hq
      · rw [if_neg h1] at hq; cases hq; exact ⟨rfl, h1⟩
  have hL : ∀ e, e ∈ gL (aput m g) → e ∈ gL g ∧ ¬ e.2.2.2.2 = m := by
    intro e he
    have he : e ∈ (gL g).filter (fun e => decide (¬ e.2.2.2.2 = m)) := he
    rw [List.mem_filter] at he
    exact ⟨he.1, of_decide_eq_true he.2⟩
  refine ⟨fun n q hq => k1 n q (hK n q hq).1, fun e he => k2 e (hL e he).1, ?_, ?_, k5, k6, k7, k8, ?_, ?_, ?_⟩
  · exact Nat.le_trans (List.length_filter_le _ _) k3
  · exact k4.filter _
  · show fu (gAw g) m true 3 = false
    rw [fu_n (by omega)]; exact k9
  · intro e he
    show fu (gAw g) m true e.2.2.2.2 = false
    rw [fu_n (hL e he).2]; exact k10 e (hL e he).1
  · intro n q hd hq
    have hd : gDn g n = 0 := hd
    show fu (gAw g) m true q.2.2.2 = false
    rw [fu_n (fun h1 => (hK n q hq).2 ⟨hd, h1⟩)]
    exact k11 n q hd (hK n q hq).1
theorem AF_aput {g : Gs} {m : Nat} : AF g (aput m g) := by
  refine AF_eq rfl (fun i hi => ?_)
  show (match gK g i with
      | none => none
      | some q => if gDn g i = 0 ∧ q.2.2.2 = m then none else some q) = gK g i
  cases gK g i with
  | none => rfl
  | some q => exact if_neg (fun h => by omega)
/-- value, from: of a run at home or on a machine -/
theorem atell_c {E : Ev} {m res : Nat} {g : Gs} (h : WG g) (hm : m ≤ 3) (hr : res < 1000) (ha : gAw g m = false) :
    WG (atell E m res g).2 ∧ AF g (atell E m res g).2 ∧ (atell E m res g).1.1 < 1000 ∧ (atell E m res g).1.2 ≤ 3 ∧ gAw (atell E m res g).2 (atell E m res g).1.2 = false ∧ (∀ e ∈ gL (atell E m res g).2, e ∈ gL g) ∧ gVn (atell E m res g).2 = gVn g := by
  have h1 : WG (sRn g (gRn g + 1)) := WG_same h rfl rfl rfl rfl rfl rfl rfl (fun _ q => q)
  unfold atell
  split
  · rename_i hc
    split
    · refine ⟨WG_aput h1 (by omega), AF_aput (g := sRn g (gRn g + 1)), hr, Nat.le_refl 3, ?_, ?_, rfl⟩
      · show fu (gAw g) m true 3 = false
        rw [fu_n (by omega)]; exact h.2.2.2.2.2.2.2.2.1
      · intro e he
        have he : e ∈ (gL g).filter (fun e => decide (¬ e.2.2.2.2 = m)) := he
        exact (List.mem_filter.mp he).1
    · exact ⟨h1, AF_eq rfl (fun _ _ => rfl), hr, hm, ha, fun e he => he, rfl⟩
  · split
    · exact ⟨h, AF_rf g, Nat.mod_lt _ (by omega), hm, ha, fun e he => he, rfl⟩
    · exact ⟨h, AF_rf g, hr, hm, ha, fun e he => he, rfl⟩
theorem WG_sL {g : Gs} (h : WG g) {l : List En} (h2 : ∀ e ∈ l, EOK e) (h3 : l.length ≤ 100) (h4 : l.Pairwise (fun a b => ¬ keyE a = keyE b)) (h10 : ∀ e ∈ l, gAw g e.2.2.2.2 = false) : WG (sL g l) := by
  obtain ⟨k1, k2, k3, k4, k5, k6, k7, k8, k9, k10, k11⟩ := h
  exact ⟨k1, h2, h3, h4, k5, k6, k7, k8, k9, h10, k11⟩
theorem WG_aadd {g : Gs} {e : En} (h : WG g) (he : EOK e) (ha : gAw g e.2.2.2.2 = false) (hk : ∀ a ∈ gL g, ¬ keyE a = keyE e) : WG (aadd e g) := by
  have h' := h
  obtain ⟨k1, k2, k3, k4, k5, k6, k7, k8, k9, k10, k11⟩ := h
  have p2 : ∀ x ∈ gL g ++ [e], EOK x := fun x hx => by
    rcases List.mem_append.mp hx with h1 | h1
    · exact k2 x h1
    · rw [List.mem_singleton.mp h1]; exact he
  have p4 : (gL g ++ [e]).Pairwise (fun a b => ¬ keyE a = keyE b) := List.pairwise_append.mpr ⟨k4, List.pairwise_singleton _ _, fun a h1 b h2 => by rw [List.mem_singleton.mp h2]; exact hk a h1⟩
  have p10 : ∀ x ∈ gL g ++ [e], gAw g x.2.2.2.2 = false := fun x hx => by
    rcases List.mem_append.mp hx with h1 | h1
    · exact k10 x h1
    · rw [List.mem_singleton.mp h1]; exact ha
  have pl : (gL g ++ [e]).length = (gL g).length + 1 := by simp
  unfold aadd
  by_cases h1 : 100 < (gL g ++ [e]).length
  · rw [if_pos h1]
    refine WG_sL h' (fun x hx => p2 x (List.mem_of_mem_drop hx)) ?_ p4.drop (fun x hx => p10 x (List.mem_of_mem_drop hx))
    rw [List.length_drop]; omega
  · rw [if_neg h1]
    exact WG_sL h' p2 (by omega) p4 p10
theorem WG_akeep {g : Gs} {n how v f : Nat} {r : Rul} {rs : List Rd} (h : WG g) (hq : KOK n (r, rs, v, f)) (h0 : ¬ how = 0) : WG (akeep n how r rs v f g).2 := by
  obtain ⟨k1, k2, k3, k4, k5, k6, k7, k8, k9, k10, k11⟩ := h
  refine ⟨fun m q hm => ?_, k2, k3, k4, k5, k6, k7, fun m => ?_, k9, k10, fun m q hd hm => ?_⟩
  · have hm : fu (gK g) n (some (r, rs, v, f)) m = some q := hm
    by_cases h1 : m = n
    · subst h1; rw [fu_s] at hm; cases hm; exact hq
    · rw [fu_n h1] at hm; exact k1 m q hm
  · show AOK (fu (gAn g) n (.inr v) m)
    by_cases h1 : m = n
    · subst h1; rw [fu_s]; exact hq.2.2.2.1
    · rw [fu_n h1]; exact k8 m
  · have hm : fu (gK g) n (some (r, rs, v, f)) m = some q := hm
    have hd : fu (gDn g) n how m = 0 := hd
    by_cases h1 : m = n
    · subst h1; rw [fu_s] at hd; exact absurd hd h0
    · rw [fu_n h1] at hm hd; exact k11 m q hd hm
theorem WG_afail {g : Gs} {n k : Nat} (h : WG g) (hk : 2 ≤ k ∧ k ≤ 5) : WG (afail n k g).2 := by
  obtain ⟨k1, k2, k3, k4, k5, k6, k7, k8, k9, k10, k11⟩ := h
  refine ⟨fun m q hm => ?_, k2, k3, k4, k5, k6, k7, fun m => ?_, k9, k10, fun m q hd hm => ?_⟩
  · have hm : fu (gK g) n none m = some q := hm
    by_cases h1 : m = n
    · subst h1; rw [fu_s] at hm; cases hm
    · rw [fu_n h1] at hm; exact k1 m q hm
  · show AOK (fu (gAn g) n (.inl k) m)
    by_cases h1 : m = n
    · subst h1; rw [fu_s]; exact hk
    · rw [fu_n h1]; exact k8 m
  · have hm : fu (gK g) n none m = some q := hm
    have hd : fu (gDn g) n 4 m = 0 := hd
    by_cases h1 : m = n
    · subst h1; rw [fu_s] at hd; omega
    · rw [fu_n h1] at hm hd; exact k11 m q hd hm
theorem WG_sEnd {g : Gs} {n how : Nat} {a : Ans} (h : WG g) (ha : AOK a) (h0 : ¬ how = 0) : WG (sEnd g n how a) := by
  obtain ⟨k1, k2, k3, k4, k5, k6, k7, k8, k9, k10, k11⟩ := h
  refine ⟨k1, k2, k3, k4, k5, k6, k7, fun m => ?_, k9, k10, fun m q hd hm => ?_⟩
  · show AOK (fu (gAn g) n a m)
    by_cases h1 : m = n
    · subst h1; rw [fu_s]; exact ha
    · rw [fu_n h1]; exact k8 m
  · have hd : fu (gDn g) n how m = 0 := hd
    by_cases h1 : m = n
    · subst h1; rw [fu_s] at hd; exact absurd hd h0
    · rw [fu_n h1] at hd; exact k11 m q hd hm
/-- the end of a look -/
theorem AF_end {g g1 g2 : Gs} {n : Nat} (h : AF (sDn g n 5) g1) (h0 : gDn g n = 0) (h1 : ∀ m, ¬ m = n → gDn g2 m = gDn g1 m) (h2 : ∀ m, ¬ m = n → gK g2 m = gK g1 m) (h3 : ¬ gDn g2 n = 5) (h4 : ¬ gDn g2 n = 0) : AF g g2 := by
  obtain ⟨a1, a2, a3⟩ := h
  have e : ∀ m, ¬ m = n → gDn (sDn g n 5) m = gDn g m := fun m h => fu_n h
  refine ⟨fun m => ?_, fun m hm => ?_, fun m hm => ?_⟩
  · by_cases h5 : m = n
    · subst h5; exact ⟨fun q => absurd q h3, fun q => by omega⟩
    · rw [h1 m h5, a1 m, e m h5]
  · have h5 : ¬ m = n := fun q => by subst q; omega
    rw [h2 m h5, a2 m (by rw [e m h5]; exact hm)]; rfl
  · by_cases h5 : m = n
    · subst h5; exact h4
    · rw [h1 m h5]; exact a3 m (by rw [e m h5]; exact hm)
