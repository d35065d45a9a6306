/-! all that was looked at is read from the root -/
def K3r (g g' : Gs) : Prop := ∀ m, gDn g m = 3 → gDn g' m = 3 ∧ gRd g' m = gRd g m
def RCH (g : Gs) : Nat → Nat → Nat → Prop
  | 0, a, x => a = x
  | k + 1, a, x => ∃ y, gDn g a = 3 ∧ EDG g a y ∧ RCH g k y x
theorem EDG_eq {g g' : Gs} {a : Nat} (e : gRd g' a = gRd g a) {y : Nat} (h : EDG g a y) : EDG g' a y := by
  obtain ⟨j, h1, h2⟩ := h
  refine ⟨j, h1, ?_⟩
  unfold er at h2 ⊢
  rw [e]; exact h2
theorem RCH_mono {g g' : Gs} (h : K3r g g') : ∀ k a x, RCH g k a x → RCH g' k a x
  | 0, _, _, q => q
  | k + 1, a, x, ⟨y, h1, h2, h3⟩ => ⟨y, (h a h1).1, EDG_eq (h a h1).2 h2, RCH_mono h k y x h3⟩
def OKR (L : Nat → Gs → Ans × Gs) : Prop := ∀ m g v, m < 32 → WG g → (L m g).1 = .inr v → K3r g (L m g).2 ∧ ∀ k, gDn (L m g).2 k = 3 → gDn g k = 3 ∨ ∃ j, RCH (L m g).2 j m k
theorem ardl_r {E : Ev} {L : Nat → Gs → Ans × Gs} (hL : LOK L) (hO : OKR L) {n : Nat} : ∀ (l : List (Nat × Nat × Nat)) (acc : List Rd) (g : Gs), (∀ q ∈ l, q.1 < 4 ∧ q.2.1 < 4 ∧ q.2.2 < lim q.2.1) → WG g → ∀ ws, (ardl E L n l acc g).1 = .inr ws →
    K3r g (ardl E L n l acc g).2 ∧ (∀ x ∈ acc, x ∈ ws) ∧ ∀ k, gDn (ardl E L n l acc g).2 k = 3 → gDn g k = 3 ∨ ∃ x, x ∈ ws ∧ nd x ∧ ∃ j, RCH (ardl E L n l acc g).2 j (nR n x.2.1 x.2.2.1) k
  | [], acc, g, _, _, ws, e => by
    have e : (Sum.inr acc : Nat ⊕ List Rd) = Sum.inr ws := e
    cases e
    exact ⟨fun _ h => ⟨h, rfl⟩, fun _ h => h, fun k h => Or.inl h⟩
  | q :: t, acc, g, hq, hg, ws, e => by
    have ht : ∀ y ∈ t, y.1 < 4 ∧ y.2.1 < 4 ∧ y.2.2 < lim y.2.1 := fun y hy => hq y (List.mem_cons_of_mem _ hy)
    obtain ⟨q1, q2, q3⟩ := hq q List.mem_cons_self
    rw [ardl] at e ⊢
    by_cases c1 : q.2.1 = 1
    · rw [if_pos c1] at e ⊢
      obtain ⟨a1, a2, a3⟩ := ardl_r hL hO t _ g ht hg ws e
      exact ⟨a1, fun x hx => a2 x (List.mem_append_left _ hx), a3⟩
    · rw [if_neg c1] at e ⊢
      by_cases c0 : q.2.1 = 0
      · rw [if_pos c0] at e ⊢
        cases hv : eφ E q.2.2 with
        | none => rw [hv] at e; cases e
        | some v =>
          rw [hv] at e
          obtain ⟨a1, a2, a3⟩ := ardl_r hL hO t _ g ht hg ws e
          exact ⟨a1, fun x hx => a2 x (List.mem_append_left _ hx), a3⟩
      · rw [if_neg c0] at e ⊢
        have q4 : q.2.2 < 16 := by rwa [lim_16 c0 c1] at q3
        obtain ⟨a1, a2, a3⟩ := hL (nR n q.2.1 q.2.2) g (nR_lt q4) hg
        cases hv : (L (nR n q.2.1 q.2.2) g).1 with
        | inl k => rw [hv] at e; cases e
        | inr v =>
          rw [hv] at e
          obtain ⟨b1, b2⟩ := hO _ g v (nR_lt q4) hg hv
          obtain ⟨d1, d2, d3⟩ := ardl_r hL hO t _ _ ht a1 ws e
          refine ⟨fun m hm => ?_, fun x hx => d2 x (List.mem_append_left _ hx), fun k hk => ?_⟩
          · obtain ⟨z1, z2⟩ := b1 m hm
            obtain ⟨z3, z4⟩ := d1 m z1
            exact ⟨z3, z4.trans z2⟩
          · rcases d3 k hk with z | z
            · rcases b2 k z with z | ⟨j, z⟩
              · exact Or.inl z
              · exact Or.inr ⟨(q.1, q.2.1, q.2.2, [some v]), d2 _ (List.mem_append_right _ List.mem_cons_self), (show q.2.1 = 2 ∨ q.2.1 = 3 by omega), j, RCH_mono d1 _ _ _ z⟩
            · exact Or.inr z
theorem aread_r {E : Ev} {L : Nat → Gs → Ans × Gs} (hL : LOK L) (hO : OKR L) {n : Nat} {r : Rul} (hr : RulOK r) {g : Gs} (hg : WG g) {ws : List Rd} (e : (aread E L n r g).1 = .inr ws) :
    K3r g (aread E L n r g).2 ∧ ∀ k, gDn (aread E L n r g).2 k = 3 → gDn g k = 3 ∨ ∃ x, x ∈ ws ∧ nd x ∧ ∃ j, RCH (aread E L n r g).2 j (nR n x.2.1 x.2.2.1) k := by
  have h := ardl_r (E := E) hL hO (n := n) (expIn r (n % 2)) [] g (fun q hq => by
    obtain ⟨a, b, c, d⟩ := expIn_mem hr hq
    exact ⟨a, c, d⟩) hg
  unfold aread at e ⊢
  cases hp : ardl E L n (expIn r (n % 2)) [] g with
  | mk o g1 =>
    rw [hp] at h e
    cases o with
    | inl k => cases e
    | inr acc =>
      have e : (Sum.inr (afnd E r acc) : Nat ⊕ List Rd) = Sum.inr ws := e
      cases e
      obtain ⟨d1, d2, d3⟩ := h acc rfl
      refine ⟨d1, fun k hk => ?_⟩
      rcases d3 k hk with z | ⟨x, z1, z2⟩
      · exact Or.inl z
      · refine Or.inr ⟨x, ?_, z2⟩
        unfold afnd
        by_cases h5 : kd r = 3
        · rw [if_pos h5]; exact List.mem_append_left _ z1
        · rw [if_neg h5]; exact z1
theorem aplain_r {E : Ev} (hE : EvOK E) {L : Nat → Gs → Ans × Gs} (hL : LOK L) (hO : OKR L) {n v : Nat} {g : Gs} (hn : n < 32) (h0 : gDn g n = 0) (hg : WG g) (e : (aplain E L n (sDn g n 5)).1 = .inr v) :
    K3r g (aplain E L n (sDn g n 5)).2 ∧ ∀ k, gDn (aplain E L n (sDn g n 5)).2 k = 3 → gDn g k = 3 ∨ ∃ j, RCH (aplain E L n (sDn g n 5)).2 j n k := by
  have hg5 := WG_sDn5 hg n
  have d5 : ∀ m, gDn (sDn g n 5) m = fu (gDn g) n 5 m := fun _ => rfl
  unfold aplain at e ⊢
  cases hr : eρ E (n / 2) with
  | none => rw [hr] at e; cases e
  | some r =>
    rw [hr] at e
    have hr2 := hE.2 _ _ hr
    obtain ⟨a1, a2, a3, a4⟩ := aread_c hE hL (n := n) hr2 hg5
    have a5 := fun ws e => aread_r (E := E) hL hO (n := n) hr2 hg5 (ws := ws) e
    show K3r g (match aread E L n r (sDn g n 5) with
      | (.inl k, g1) => ((.inl k : Ans), sEnd g1 n 4 (.inl k))
      | (.inr ws, g1) => ((.inr (ares E r ws) : Ans), sEnd (sRd g1 n ws) n 3 (.inr (ares E r ws)))).2 ∧ ∀ k, gDn (match aread E L n r (sDn g n 5) with
      | (.inl k, g1) => ((.inl k : Ans), sEnd g1 n 4 (.inl k))
      | (.inr ws, g1) => ((.inr (ares E r ws) : Ans), sEnd (sRd g1 n ws) n 3 (.inr (ares E r ws)))).2 k = 3 → gDn g k = 3 ∨ ∃ j, RCH (match aread E L n r (sDn g n 5) with
      | (.inl k, g1) => ((.inl k : Ans), sEnd g1 n 4 (.inl k))
      | (.inr ws, g1) => ((.inr (ares E r ws) : Ans), sEnd (sRd g1 n ws) n 3 (.inr (ares E r ws)))).2 j n k
    have e : (match aread E L n r (sDn g n 5) with
      | (.inl k, g1) => ((.inl k : Ans), sEnd g1 n 4 (.inl k))
      | (.inr ws, g1) => ((.inr (ares E r ws) : Ans), sEnd (sRd g1 n ws) n 3 (.inr (ares E r ws)))).1 = .inr v := e
    cases hp : aread E L n r (sDn g n 5) with
    | mk o g1 =>
      rw [hp] at a1 a2 a3 a4 a5 e
      cases o with
      | inl k => cases e
      | inr ws =>
        obtain ⟨b1, b2⟩ := a5 ws rfl
        obtain ⟨w1, w2⟩ := a4 ws rfl
        have b1 : K3r (sDn g n 5) g1 := b1
        have b2 : ∀ k, gDn g1 k = 3 → gDn (sDn g n 5) k = 3 ∨ ∃ x, x ∈ ws ∧ nd x ∧ ∃ j, RCH g1 j (nR n x.2.1 x.2.2.1) k := b2
        have g5 : gDn g1 n = 5 := (a2.1 n).mpr (by rw [d5]; exact fu_s)
        show K3r g (sEnd (sRd g1 n ws) n 3 (.inr (ares E r ws))) ∧ ∀ k, gDn (sEnd (sRd g1 n ws) n 3 (.inr (ares E r ws))) k = 3 → gDn g k = 3 ∨ ∃ j, RCH (sEnd (sRd g1 n ws) n 3 (.inr (ares E r ws))) j n k
        have dd : ∀ m, gDn (sEnd (sRd g1 n ws) n 3 (.inr (ares E r ws))) m = fu (gDn g1) n 3 m := fun _ => rfl
        have dr : ∀ m, gRd (sEnd (sRd g1 n ws) n 3 (.inr (ares E r ws))) m = fu (gRd g1) n ws m := fun _ => rfl
        have not5 : ∀ {m}, gDn g1 m = 3 → ¬ m = n := fun h q => by subst q; omega
        have kk : K3r g1 (sEnd (sRd g1 n ws) n 3 (.inr (ares E r ws))) := fun m hm => ⟨by rw [dd, fu_n (not5 hm)]; exact hm, by rw [dr, fu_n (not5 hm)]⟩
        refine ⟨fun m hm => ?_, fun k hk => ?_⟩
        · have hmn : ¬ m = n := fun q => by subst q; omega
          obtain ⟨z1, z2⟩ := b1 m (by rw [d5, fu_n hmn]; exact hm)
          obtain ⟨z3, z4⟩ := kk m z1
          exact ⟨z3, z4.trans z2⟩
        · by_cases hkn : k = n
          · exact Or.inr ⟨0, hkn.symm⟩
          · rw [dd, fu_n hkn] at hk
            rcases b2 k hk with z | ⟨x, z1, z2, j, z3⟩
            · rw [d5, fu_n hkn] at z
              exact Or.inl z
            · refine Or.inr ⟨j + 1, nR n x.2.1 x.2.2.1, by rw [dd]; exact fu_s, ?_, RCH_mono kk _ _ _ z3⟩
              obtain ⟨i, hi, hx⟩ := List.mem_iff_getElem.mp z1
              have h5 := WFr_le hr2 w1
              refine ⟨i, by omega, ?_⟩
              unfold er
              rw [dr, fu_s, List.getElem?_eq_getElem hi, hx]
              exact if_pos z2
theorem alook_r {E : Ev} (hE : EvOK E) : ∀ f, OKR (alook true E f)
  | 0 => fun m g v _ _ e => by cases e
  | f + 1 => fun m g v hm hg e => by
    rw [alook] at e ⊢
    by_cases h5 : gDn g m = 5
    · rw [if_pos h5] at e
      cases e
    · rw [if_neg h5] at e ⊢
      by_cases h0 : gDn g m = 0
      · rw [if_neg (fun q => q h0), if_pos rfl] at e ⊢
        exact aplain_r hE (alook_c hE true f) (alook_r hE f) hm h0 hg e
      · rw [if_pos h0] at e ⊢
        exact ⟨fun _ h => ⟨h, rfl⟩, fun k h => Or.inl h⟩
theorem aP_r {E : Ev} (hE : EvOK E) {n v : Nat} {g : Gs} (hn : n < 32) (hg : WGB g) (e : (aP E n g).1 = .inr v) {k : Nat} (hk : gDn (aP E n g).2 k = 3) : ∃ j, RCH (aP E n g).2 j n k := by
  obtain ⟨a1, a2⟩ := alook_r hE 32 n (gst g) v hn (WG_gst hg) e
  rcases a2 k hk with z | z
  · exact absurd z (by show ¬ (0 : Nat) = 3; omega)
  · exact z
theorem RCH_PA {E : Ev} {g : Gs} {rk : Nat → Nat} {n : Nat} (hT : TDO E g rk) (hn : n < 32) (hd : gDn g n = 3) : ∀ j a x L, PA E g n a L → RCH g j a x → ∃ L2, PA E g n x L2
  | 0, a, x, L, h, q => ⟨L, by have q : a = x := q; rw [← q]; exact h⟩
  | j + 1, a, x, L, h, ⟨y, q1, q2, q3⟩ => RCH_PA hT hn hd j y x _ (PA_st (PA_ok hT hn hd h).1 h q2) q3
theorem all_W {E : Ev} {g : Gs} {rk : Nat → Nat} {n : Nat} {W : Nat → Option Nat} (hT : TDO E g rk) (hn : n < 32) (hd : gDn g n = 3) (hC : CPW E g n W) {x : Nat} (hx : ∃ j, RCH g j n x) : ∃ v, W x = some v := by
  obtain ⟨j, hj⟩ := hx
  obtain ⟨L, hL⟩ := RCH_PA hT hn hd j n x _ ⟨0, rfl, rfl⟩ hj
  obtain ⟨v, v1, -⟩ := hC x L hL
  exact ⟨v, v1⟩
