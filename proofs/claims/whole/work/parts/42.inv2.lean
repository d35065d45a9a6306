theorem expIn_mem {r : Rul} (hr : RulOK r) {cf : Nat} {q : Nat × Nat × Nat} (h : q ∈ expIn r cf) : q.1 < 4 ∧ (ip r)[q.1]? = some (q.2.1, q.2.2) ∧ q.2.1 < 4 ∧ q.2.2 < lim q.2.1 := by
  unfold expIn at h
  split at h
  · split at h
    · rename_i q2 h2
      rw [List.mem_singleton] at h
      subst h
      obtain ⟨a, b, c⟩ := hr.get h2
      exact ⟨a, h2, b, c⟩
    · simp at h
  · rw [List.mem_mapIdx] at h
    obtain ⟨i, hi, rfl⟩ := h
    have h2 := List.getElem?_eq_getElem hi
    obtain ⟨a, b, c⟩ := hr.get h2
    exact ⟨a, h2, b, c⟩
theorem WFr_slot {r : Rul} {cf : Nat} {rs : List Rd} (hr : RulOK r) (hw : WFr r cf rs) : ∀ x ∈ rs, (x.1 < 4 ∧ (ip r)[x.1]? = some (x.2.1, x.2.2.1) ∧ x.2.1 < 4 ∧ x.2.2.1 < lim x.2.1) ∨ (x.1 = 4 ∧ x.2.1 = 4) := by
  unfold WFr at hw
  intro x hx
  split at hw
  · obtain ⟨rs0, o, rfl, e⟩ := hw
    rcases List.mem_append.mp hx with h | h
    · left
      exact expIn_mem hr (q := pj x) (by rw [← e]; exact List.mem_map_of_mem (f := pj) h)
    · right
      rw [List.mem_singleton.mp h]
      exact ⟨rfl, rfl⟩
  · left
    exact expIn_mem hr (q := pj x) (by rw [← hw]; exact List.mem_map_of_mem (f := pj) hx)
theorem nR_lt {n w y : Nat} (h : y < 16) : nR n w y < 32 := by
  unfold nR
  split <;> omega
theorem lim_16 {w : Nat} (h0 : ¬ w = 0) (h1 : ¬ w = 1) : lim w = 16 := by
  unfold lim
  rw [if_neg h0, if_neg h1]
def LOK (L : Nat → Gs → Ans × Gs) : Prop := ∀ m g, m < 32 → WG g → WG (L m g).2 ∧ AF g (L m g).2 ∧ AOK (L m g).1
/-- a read that may be looked at again -/
def cmpOK (x : Rd) : Prop := ¬ x.2.1 = 0 → ¬ x.2.1 = 1 → ¬ x.2.1 = 4 → x.2.2.1 < 16
theorem cmpOK_of {r : Rul} {cf : Nat} {rs : List Rd} (hr : RulOK r) (hw : WFr r cf rs) : ∀ x ∈ rs, cmpOK x := fun x hx h0 h1 h4 => by
  rcases WFr_slot hr hw x hx with h | h
  · have := h.2.2.2
    rwa [lim_16 h0 h1] at this
  · exact absurd h.2 h4
theorem acmp_c {E : Ev} {L : Nat → Gs → Ans × Gs} (hL : LOK L) {n : Nat} : ∀ (rs : List Rd) (j : Nat) (g : Gs), (∀ x ∈ rs, cmpOK x) → WG g → WG (acmp E L n rs j g).2 ∧ AF g (acmp E L n rs j g).2
  | [], j, g, _, h => ⟨h, AF_rf g⟩
  | x :: t, j, g, hx, h => by
    have ht : ∀ y ∈ t, cmpOK y := fun y hy => hx y (List.mem_cons_of_mem _ hy)
    have h0 := hx x List.mem_cons_self
    rw [acmp]
    by_cases h1 : x.2.1 = 1
    · rw [if_pos h1]
      by_cases h2 : fvals (eφ E) x.2.2.1 = x.2.2.2
      · rw [if_pos h2]; exact acmp_c hL t (j + 1) g ht h
      · rw [if_neg h2]; exact ⟨h, AF_rf g⟩
    · rw [if_neg h1]
      by_cases h3 : x.2.1 = 0 ∨ x.2.1 = 4
      · rw [if_pos h3]
        by_cases h2 : [eφ E x.2.2.1] = x.2.2.2
        · rw [if_pos h2]; exact acmp_c hL t (j + 1) g ht h
        · rw [if_neg h2]; exact ⟨h, AF_rf g⟩
      · rw [if_neg h3]
        obtain ⟨a1, a2, a3⟩ := hL (nR n x.2.1 x.2.2.1) g (nR_lt (h0 (fun q => h3 (Or.inl q)) h1 (fun q => h3 (Or.inr q)))) h
        split
        · obtain ⟨b1, b2⟩ := acmp_c hL (n := n) t (j + 1) (L (nR n x.2.1 x.2.2.1) g).2 ht a1
          exact ⟨b1, AF_tr a2 b2⟩
        · exact ⟨a1, a2⟩
def ROK (acc : List Rd) (l : List (Nat × Nat × Nat)) (g : Gs) (p : (Nat ⊕ List Rd) × Gs) : Prop :=
  WG p.2 ∧ AF g p.2 ∧ (∀ k, p.1 = .inl k → 2 ≤ k ∧ k ≤ 5) ∧ ∀ rs, p.1 = .inr rs → ∃ new, rs = acc ++ new ∧ new.map pj = l ∧ ∀ x ∈ new, RdGd x
theorem ROK_in {acc : List Rd} {x : Rd} {q : Nat × Nat × Nat} {l : List (Nat × Nat × Nat)} {g g2 : Gs} {p : (Nat ⊕ List Rd) × Gs} (h : ROK (acc ++ [x]) l g2 p) (hx : pj x = q) (hr : RdGd x) (ha : AF g g2) : ROK acc (q :: l) g p := by
  obtain ⟨h1, h2, h3, h4⟩ := h
  refine ⟨h1, AF_tr ha h2, h3, fun rs e => ?_⟩
  obtain ⟨new, e1, e2, e3⟩ := h4 rs e
  refine ⟨x :: new, by rw [e1, List.append_assoc]; rfl, by rw [List.map_cons, e2, hx], fun y hy => ?_⟩
  rcases List.mem_cons.mp hy with e4 | e4
  · rw [e4]; exact hr
  · exact e3 y e4
theorem RdOK_1 {a b c v : Nat} (ha : a ≤ 4) (hb : b ≤ 4) (hb1 : ¬ b = 1) (hc : c < 20) (hv : v < 1000) : RdGd (a, b, c, [some v]) := by
  refine ⟨⟨ha, hb, hc, ?_, fun o ho n hn => ?_⟩, fun _ _ => ⟨v, rfl⟩⟩
  · show 1 = if b = 1 then 5 else 1
    rw [if_neg hb1]
  · have ho : o ∈ [some v] := ho
    rw [List.mem_singleton.mp ho] at hn
    cases hn
    exact hv
theorem lim_20 {w y : Nat} (h : y < lim w) : y < 20 := Nat.lt_of_lt_of_le h (lim_le w)
theorem ardl_c {E : Ev} (hE : EvOK E) {L : Nat → Gs → Ans × Gs} (hL : LOK L) {n : Nat} : ∀ (l : List (Nat × Nat × Nat)) (acc : List Rd) (g : Gs), (∀ q ∈ l, q.1 < 4 ∧ q.2.1 < 4 ∧ q.2.2 < lim q.2.1) → WG g → ROK acc l g (ardl E L n l acc g)
  | [], acc, g, _, h => by
    refine ⟨h, AF_rf g, fun k e => ?_, fun rs e => ?_⟩
    · have e : (Sum.inr acc : Nat ⊕ List Rd) = Sum.inl k := e
      cases e
    · have e : (Sum.inr acc : Nat ⊕ List Rd) = Sum.inr rs := e
      cases e
      exact ⟨[], (List.append_nil _).symm, rfl, fun x hx => by simp at hx⟩
  | q :: t, acc, g, hq, h => by
    have ht : ∀ y ∈ t, y.1 < 4 ∧ y.2.1 < 4 ∧ y.2.2 < lim y.2.1 := fun y hy => hq y (List.mem_cons_of_mem _ hy)
    obtain ⟨q1, q2, q3⟩ := hq q List.mem_cons_self
    rw [ardl]
    by_cases h1 : q.2.1 = 1
    · rw [if_pos h1]
      refine ROK_in (ardl_c hE hL t _ g ht h) rfl ⟨⟨Nat.le_of_lt q1, Nat.le_of_lt q2, lim_20 q3, ?_, fvals_lt hE.1 _⟩, fun q _ => absurd h1 q⟩ (AF_rf g)
      show (fvals (eφ E) q.2.2).length = if q.2.1 = 1 then 5 else 1
      rw [if_pos h1, fvals_len]
    · rw [if_neg h1]
      by_cases h2 : q.2.1 = 0
      · rw [if_pos h2]
        cases hv : eφ E q.2.2 with
        | none => exact ⟨h, AF_rf g, fun k e => by
            have e : (Sum.inl 3 : Nat ⊕ List Rd) = Sum.inl k := e
            cases e
            omega, fun rs e => by cases e⟩
        | some v => exact ROK_in (ardl_c hE hL t _ g ht h) rfl (RdOK_1 (by omega) (by omega) h1 (lim_20 q3) (hE.1 _ _ hv)) (AF_rf g)
      · rw [if_neg h2]
        have q4 : q.2.2 < 16 := by rwa [lim_16 h2 h1] at q3
        obtain ⟨a1, a2, a3⟩ := hL (nR n q.2.1 q.2.2) g (nR_lt q4) h
        cases hv : (L (nR n q.2.1 q.2.2) g).1 with
        | inl k => exact ⟨a1, a2, fun k2 e => by
            have e : (Sum.inl k : Nat ⊕ List Rd) = Sum.inl k2 := e
            cases e
            rw [hv] at a3
            exact a3, fun rs e => by cases e⟩
        | inr v =>
          rw [hv] at a3
          exact ROK_in (ardl_c hE hL t _ _ ht a1) rfl (RdOK_1 (by omega) (by omega) h1 (lim_20 q3) a3) a2
theorem aread_c {E : Ev} (hE : EvOK E) {L : Nat → Gs → Ans × Gs} (hL : LOK L) {n : Nat} {r : Rul} (hr : RulOK r) {g : Gs} (h : WG g) : WG (aread E L n r g).2 ∧ AF g (aread E L n r g).2 ∧ (∀ k, (aread E L n r g).1 = .inl k → 2 ≤ k ∧ k ≤ 5) ∧ ∀ rs, (aread E L n r g).1 = .inr rs → WFr r (n % 2) rs ∧ ∀ x ∈ rs, RdGd x := by
  obtain ⟨h1, h2, h3, h4⟩ := ardl_c hE hL (n := n) (expIn r (n % 2)) [] g (fun q hq => by
    obtain ⟨a, b, c, d⟩ := expIn_mem hr hq
    exact ⟨a, c, d⟩) h
  unfold aread
  cases hp : ardl E L n (expIn r (n % 2)) [] g with
  | mk o g1 =>
    rw [hp] at h1 h2 h3 h4
    cases o with
    | inl k => exact ⟨h1, h2, fun k2 e => h3 k2 e, fun rs e => by cases e⟩
    | inr acc =>
      refine ⟨h1, h2, fun k2 e => (by cases e), fun rs e => ?_⟩
      have e : (Sum.inr (afnd E r acc) : Nat ⊕ List Rd) = Sum.inr rs := e
      cases e
      obtain ⟨new, e1, e2, e3⟩ := h4 acc rfl
      rw [List.nil_append] at e1
      subst e1
      unfold afnd WFr
      by_cases h5 : kd r = 3
      · rw [if_pos h5, if_pos h5]
        refine ⟨⟨acc, _, rfl, e2⟩, fun x hx => ?_⟩
        rcases List.mem_append.mp hx with e4 | e4
        · exact e3 x e4
        · rw [List.mem_singleton.mp e4]
          refine ⟨⟨Nat.le_refl 4, Nat.le_refl 4, Nat.mod_lt _ (by omega), rfl, fun o ho m hm => ?_⟩, fun _ q => absurd rfl q⟩
          have ho : o ∈ [eφ E (sumR acc % 20)] := ho
          rw [List.mem_singleton.mp ho] at hm
          exact hE.1 _ _ hm
      · rw [if_neg h5, if_neg h5]
        exact ⟨e2, e3⟩
def FIN (g0 : Gs) (n : Nat) (p : Ans × Gs) : Prop := WG p.2 ∧ AF g0 p.2 ∧ AOK p.1 ∧ ¬ gDn p.2 n = 0 ∧ ¬ gDn p.2 n = 5 ∧ gAn p.2 n = p.1
theorem FIN_keep {g0 g1 : Gs} {n how v f : Nat} {r : Rul} {rs : List Rd} (ha : AF (sDn g0 n 5) g1) (h0 : gDn g0 n = 0) (h : WG g1) (hq : KOK n (r, rs, v, f)) (h1 : ¬ how = 0) (h5 : ¬ how = 5) : FIN g0 n (akeep n how r rs v f g1) := by
  have d : gDn (akeep n how r rs v f g1).2 n = how := fu_s
  refine ⟨WG_akeep h hq h1, AF_end ha h0 (fun m hm => fu_n hm) (fun m hm => fu_n hm) (by rw [d]; exact h5) (by rw [d]; exact h1), hq.2.2.2.1, by rw [d]; exact h1, by rw [d]; exact h5, fu_s⟩
theorem FIN_fail {g0 g1 : Gs} {n k : Nat} (ha : AF (sDn g0 n 5) g1) (h0 : gDn g0 n = 0) (h : WG g1) (hk : 2 ≤ k ∧ k ≤ 5) : FIN g0 n (afail n k g1) := by
  have d : gDn (afail n k g1).2 n = 4 := fu_s
  refine ⟨WG_afail h hk, AF_end ha h0 (fun m hm => fu_n hm) (fun m hm => fu_n hm) (by rw [d]; omega) (by rw [d]; omega), hk, by rw [d]; omega, by rw [d]; omega, fu_s⟩
theorem FIN_end {g0 g1 : Gs} {n how : Nat} {a : Ans} (ha : AF (sDn g0 n 5) g1) (h0 : gDn g0 n = 0) (h : WG g1) (hk : AOK a) (h1 : ¬ how = 0) (h5 : ¬ how = 5) : FIN g0 n (a, sEnd g1 n how a) := by
  have d : gDn (sEnd g1 n how a) n = how := fu_s
  refine ⟨WG_sEnd h hk h1, AF_end ha h0 (fun m hm => fu_n hm) (fun m hm => rfl) (by rw [d]; exact h5) (by rw [d]; exact h1), hk, (by show ¬ gDn (sEnd g1 n how a) n = 0; rw [d]; exact h1), (by show ¬ gDn (sEnd g1 n how a) n = 5; rw [d]; exact h5), fu_s⟩
theorem ares_lt {E : Ev} {r : Rul} {rs : List Rd} : ares E r rs < 1000 := Nat.mod_lt _ (by omega)
theorem ago_c {E : Ev} {g0 g : Gs} {n : Nat} {r : Rul} {rs : List Rd} (ha : AF (sDn g0 n 5) g) (h0 : gDn g0 n = 0) (h : WG g) (hr : RulOK r) (hx : ∀ x ∈ rs, RdGd x) (hw : WFr r (n % 2) rs) (hk : ∀ a ∈ gL g, ¬ keyE a = keyOf r (n % 2) rs) : FIN g0 n (ago E n r rs g) := by
  obtain ⟨o, a, b, c, e, h1, h2, h3⟩ := arun_c (t := n / 2) 3 h
  have hg1 : WG (rest3 g a b c) := WG_rest3 h h1 h2
  have ha1 : AF (sDn g0 n 5) (rest3 g a b c) := AF_tr ha (AF_eq rfl (fun _ _ => rfl))
  unfold ago
  rw [e]
  cases o with
  | none => exact FIN_fail ha1 h0 hg1 ⟨by omega, by omega⟩
  | some m =>
    obtain ⟨h4, h5⟩ := h3 m rfl
    obtain ⟨t1, t2, t3, t4, t5, t6, t7⟩ := atell_c (E := E) (res := ares E r rs) hg1 h4 ares_lt h5
    refine FIN_keep (AF_tr (AF_tr ha1 t2) (AF_eq rfl (fun _ _ => rfl))) h0 (WG_aadd t1 ⟨hr, Nat.mod_lt _ (by omega), fun x h6 => (hx x h6).1, hw, t3, t4⟩ t5 (fun x hx2 => hk x (t6 x hx2))) ⟨hr, hx, hw, t3, t4⟩ (by omega) (by omega)
theorem afet_c {E : Ev} {g0 g : Gs} {n : Nat} {r : Rul} {rs : List Rd} (ha : AF (sDn g0 n 5) g) (h0 : gDn g0 n = 0) (h : WG g) (hr : RulOK r) (hx : ∀ x ∈ rs, RdGd x) (hw : WFr r (n % 2) rs) : FIN g0 n (afet E n r rs g) := by
  unfold afet
  cases hf : (gL g).find? (sameK r (n % 2) rs) with
  | none =>
    refine ago_c ha h0 h hr hx hw (fun a h1 => ?_)
    have h2 := List.find?_eq_none.mp hf a h1
    exact fun q => h2 (dcP_t.mpr q)
  | some e =>
    have he := List.mem_of_find?_eq_some hf
    obtain ⟨k1, k2, k3, k4, k5, k6, k7, k8, k9, k10, k11⟩ := h
    have e2 := k2 e he
    show FIN g0 n (if 0 < gVn g then _ else _)
    by_cases hv : 0 < gVn g
    · rw [if_pos hv]
      refine ago_c (AF_tr ha (AF_eq rfl (fun _ _ => rfl))) h0 ⟨k1, fun x h1 => k2 x (List.mem_filter.mp h1).1, Nat.le_trans (List.length_filter_le _ _) k3, k4.filter _, k5, ?_, k7, k8, k9, fun x h1 => k10 x (List.mem_filter.mp h1).1, k11⟩ hr hx hw (fun a h1 => ?_)
      · show gVn g - 1 ≤ 20
        omega
      · have h2 := (List.mem_filter.mp h1).2
        intro q
        have h3 : sameK r (n % 2) rs a = true := dcP_t.mpr q
        rw [h3] at h2
        cases h2
    · rw [if_neg hv]
      exact FIN_keep ha h0 ⟨k1, k2, k3, k4, k5, k6, k7, k8, k9, k10, k11⟩ ⟨hr, hx, hw, e2.2.2.2.2.1, e2.2.2.2.2.2⟩ (by omega) (by omega)
theorem aleak_c {g : Gs} {n : Nat} {r : Rul} (h : WG g) : WG (aleak n r g) ∧ AF g (aleak n r g) := by
  unfold aleak
  split
  · exact ⟨WG_same h rfl rfl rfl rfl rfl rfl rfl (fun _ q => q), AF_eq rfl (fun _ _ => rfl)⟩
  · exact ⟨h, AF_rf g⟩
theorem amake_c {E : Ev} (hE : EvOK E) {L : Nat → Gs → Ans × Gs} (hL : LOK L) {g0 g : Gs} {n : Nat} (ha : AF (sDn g0 n 5) g) (h0 : gDn g0 n = 0) (h : WG g) : FIN g0 n (amake E L n g) := by
  unfold amake
  cases hr : eρ E (n / 2) with
  | none => exact FIN_fail ha h0 h ⟨by omega, by omega⟩
  | some r =>
    have hr2 := hE.2 _ _ hr
    obtain ⟨a1, a2, a3, a4⟩ := aread_c hE hL (n := n) hr2 h
    show FIN g0 n (match aread E L n r g with
      | (.inl k, g1) => afail n k g1
      | (.inr rs, g1) => afet E n r rs (aleak n r (sRd g1 n rs)))
    cases hp : aread E L n r g with
    | mk o g1 =>
      rw [hp] at a1 a2 a3 a4
      cases o with
      | inl k => exact FIN_fail (AF_tr ha a2) h0 a1 (a3 k rfl)
      | inr rs =>
        obtain ⟨w1, w2⟩ := a4 rs rfl
        have b1 : WG (sRd g1 n rs) := WG_same a1 rfl rfl rfl rfl rfl rfl rfl (fun _ q => q)
        obtain ⟨c1, c2⟩ := aleak_c (n := n) (r := r) b1
        exact afet_c (AF_tr (AF_tr (AF_tr ha a2) (AF_eq rfl (fun _ _ => rfl))) c2) h0 c1 hr2 w2 w1
theorem awhy_c {E : Ev} {L : Nat → Gs → Ans × Gs} (hL : LOK L) {n : Nat} {g : Gs} (h : WG g) : WG (awhy E L n g).2 ∧ AF g (awhy E L n g).2 := by
  unfold awhy
  cases hk : gK g n with
  | none => exact ⟨h, AF_rf g⟩
  | some q =>
    have k := h.1 n q hk
    show WG (if _ then acmp E L n q.2.1 0 g else (2, g)).2 ∧ AF g (if _ then acmp E L n q.2.1 0 g else (2, g)).2
    split
    · exact acmp_c hL q.2.1 0 g (cmpOK_of k.1 k.2.2.1) h
    · exact ⟨h, AF_rf g⟩
theorem awhy_0 {E : Ev} {L : Nat → Gs → Ans × Gs} {n : Nat} {g : Gs} (h : (awhy E L n g).1 = 0) : ∃ q, gK g n = some q ∧ eρ E (n / 2) = some q.1 ∧ awhy E L n g = acmp E L n q.2.1 0 g := by
  unfold awhy at h ⊢
  cases hk : gK g n with
  | none =>
    rw [hk] at h
    have h : 1 = 0 := h
    omega
  | some q =>
    rw [hk] at h
    have h : (if dcP (eρ E (n / 2) = some q.1) = true then acmp E L n q.2.1 0 g else (2, g)).1 = 0 := h
    by_cases h1 : dcP (eρ E (n / 2) = some q.1) = true
    · exact ⟨q, rfl, dcP_t.mp h1, if_pos h1⟩
    · rw [if_neg h1] at h
      have h : 2 = 0 := h
      omega
theorem WG_sWy {g : Gs} (h : WG g) (n v : Nat) : WG (sWy g n v) := WG_same h rfl rfl rfl rfl rfl rfl rfl (fun _ q => q)
theorem abuild_c {E : Ev} (hE : EvOK E) {L : Nat → Gs → Ans × Gs} (hL : LOK L) {g : Gs} {n : Nat} (h0 : gDn g n = 0) (h : WG g) : FIN g n (abuild E L n (sDn g n 5)) := by
  have h1 := WG_sDn5 h n
  obtain ⟨a1, a2⟩ := awhy_c (E := E) hL (n := n) h1
  unfold abuild
  split
  · rename_i hw
    obtain ⟨q, hk, -, -⟩ := awhy_0 hw
    rw [hk]
    have k := h1.1 n q hk
    exact FIN_end (AF_tr a2 (AF_eq rfl (fun _ _ => rfl))) h0 (WG_sWy a1 _ _) k.2.2.2.1 (by omega) (by omega)
  · exact amake_c hE hL (AF_tr a2 (AF_eq rfl (fun _ _ => rfl))) h0 (WG_sWy a1 _ _)
theorem aplain_c {E : Ev} (hE : EvOK E) {L : Nat → Gs → Ans × Gs} (hL : LOK L) {g : Gs} {n : Nat} (h0 : gDn g n = 0) (h : WG g) : FIN g n (aplain E L n (sDn g n 5)) := by
  have h1 := WG_sDn5 h n
  unfold aplain
  cases hr : eρ E (n / 2) with
  | none => exact FIN_end (AF_rf _) h0 h1 ⟨by omega, by omega⟩ (by omega) (by omega)
  | some r =>
    have hr2 := hE.2 _ _ hr
    obtain ⟨a1, a2, a3, a4⟩ := aread_c hE hL (n := n) hr2 h1
    show FIN g n (match aread E L n r (sDn g n 5) with
      | (.inl k, g1) => (.inl k, sEnd g1 n 4 (.inl k))
      | (.inr rs, g1) => (.inr (ares E r rs), sEnd (sRd g1 n rs) n 3 (.inr (ares E r rs))))
    cases hp : aread E L n r (sDn g n 5) with
    | mk o g1 =>
      rw [hp] at a1 a2 a3 a4
      cases o with
      | inl k => exact FIN_end a2 h0 a1 (a3 k rfl) (by omega) (by omega)
      | inr rs => exact FIN_end (AF_tr a2 (AF_eq rfl (fun _ _ => rfl))) h0 (WG_same a1 rfl rfl rfl rfl rfl rfl rfl (fun _ q => q)) ares_lt (by omega) (by omega)
theorem alook_c {E : Ev} (hE : EvOK E) (pl : Bool) : ∀ f, LOK (alook pl E f)
  | 0 => fun m g _ h => ⟨h, AF_rf g, by omega, by omega⟩
  | f + 1 => fun m g _ h => by
    have hL := alook_c hE pl f
    rw [alook]
    split
    · exact ⟨h, AF_rf g, by omega, by omega⟩
    · split
      · exact ⟨h, AF_rf g, h.2.2.2.2.2.2.2.1 m⟩
      · rename_i h0
        have h0 : gDn g m = 0 := Classical.not_not.mp h0
        split
        · obtain ⟨x1, x2, x3, -⟩ := aplain_c hE hL h0 h
          exact ⟨x1, x2, x3⟩
        · obtain ⟨x1, x2, x3, -⟩ := abuild_c hE hL h0 h
          exact ⟨x1, x2, x3⟩
theorem alook_fin {E : Ev} (hE : EvOK E) (pl : Bool) {f n : Nat} {g : Gs} (h0 : gDn g n = 0) (h : WG g) : FIN g n (alook pl E (f + 1) n g) := by
  rw [alook, if_neg (by omega), if_neg (by omega)]
  split
  · exact aplain_c hE (alook_c hE pl f) h0 h
  · exact abuild_c hE (alook_c hE pl f) h0 h
/-! how many nodes are unseen, how many are being looked at -/
theorem cntB_mono {f h : Nat → Bool} : ∀ n, (∀ i, i < n → f i = true → h i = true) → cntB f n ≤ cntB h n
  | 0, _ => Nat.le_refl 0
  | n + 1, H => by
    have := cntB_mono n (fun i hi => H i (by omega))
    simp only [cntB]
    by_cases h1 : f n = true
    · rw [if_pos h1, if_pos (H n (by omega) h1)]; omega
    · rw [if_neg h1]; split <;> omega
theorem cntB_eq {f h : Nat → Bool} : ∀ n, (∀ i, i < n → f i = h i) → cntB f n = cntB h n
  | 0, _ => rfl
  | n + 1, H => by simp only [cntB, cntB_eq n (fun i hi => H i (by omega)), H n (by omega)]
theorem cntB_flip {f h : Nat → Bool} {j : Nat} (hf : f j = false) (hh : h j = true) (e : ∀ i, ¬ i = j → f i = h i) : ∀ n, j < n → cntB f n + 1 = cntB h n
  | 0, hj => by omega
  | n + 1, hj => by
    simp only [cntB]
    by_cases h1 : j = n
    · subst h1
      rw [cntB_eq j (fun i hi => e i (by omega)), hf, hh]
      simp
    · have := cntB_flip hf hh e n (by omega)
      rw [e n (fun q => h1 q.symm)]
      omega
def uG (g : Gs) : Nat := cntB (fun n => decide (gDn g n = 0)) 32
def bG (g : Gs) : Nat := cntB (fun n => decide (gDn g n = 5)) 32
theorem uG_AF {g g' : Gs} (h : AF g g') : uG g' ≤ uG g := cntB_mono 32 (fun i _ hi => by
  have hi := of_decide_eq_true hi
  exact decide_eq_true (Classical.byContradiction (fun q => h.2.2 i q hi)))
theorem bG_AF {g g' : Gs} (h : AF g g') : bG g' = bG g := cntB_eq 32 (fun i _ => by simp only [h.1 i])
theorem uG_5 {g : Gs} {n : Nat} (hn : n < 32) (h0 : gDn g n = 0) : uG (sDn g n 5) + 1 = uG g := by
  have e : ∀ i, gDn (sDn g n 5) i = fu (gDn g) n 5 i := fun i => rfl
  refine cntB_flip (j := n) ?_ ?_ (fun i hi => ?_) 32 hn
  · simp only [e, fu_s]; decide
  · simp only [h0]; decide
  · simp only [e, fu_n hi]
theorem bG_5 {g : Gs} {n : Nat} (hn : n < 32) (h0 : gDn g n = 0) : bG g + 1 = bG (sDn g n 5) := by
  have e : ∀ i, gDn (sDn g n 5) i = fu (gDn g) n 5 i := fun i => rfl
  refine cntB_flip (j := n) ?_ ?_ (fun i hi => ?_) 32 hn
  · simp only [h0]; decide
  · simp only [e, fu_s]; decide
  · simp only [e, fu_n hi]
theorem bG_le (g : Gs) : bG g ≤ 32 := cntB_le 32
