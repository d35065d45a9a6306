/-! what a plain look leaves: who was looked at, who reads whom -/
def N4 (g : Gs) : Prop := ∀ m, gDn g m = 0 ∨ gDn g m = 3 ∨ gDn g m = 5
def nd (x : Rd) : Prop := x.2.1 = 2 ∨ x.2.1 = 3
def c3 (g : Gs) : Nat := cntB (fun m => decide (gDn g m = 3)) 32
def PI (E : Ev) (g : Gs) : Prop := ∃ rk : Nat → Nat, ∀ m, m < 32 → gDn g m = 3 → rk m < c3 g ∧ (∃ r, eρ E (m / 2) = some r ∧ WFr r (m % 2) (gRd g m)) ∧ ∀ x ∈ gRd g m, nd x → gDn g (nR m x.2.1 x.2.2.1) = 3 ∧ rk (nR m x.2.1 x.2.2.1) < rk m
def K3 (g g' : Gs) : Prop := ∀ m, gDn g m = 3 → gDn g' m = 3
def OKL (E : Ev) (L : Nat → Gs → Ans × Gs) : Prop := ∀ m g v, m < 32 → WG g → PI E g → N4 g → (L m g).1 = .inr v → PI E (L m g).2 ∧ N4 (L m g).2 ∧ K3 g (L m g).2 ∧ gDn (L m g).2 m = 3
theorem ardl_p {E : Ev} {L : Nat → Gs → Ans × Gs} (hL : LOK L) (hO : OKL E L) {n : Nat} : ∀ (l : List (Nat × Nat × Nat)) (acc : List Rd) (g : Gs), (∀ q ∈ l, q.1 < 4 ∧ q.2.1 < 4 ∧ q.2.2 < lim q.2.1) → WG g → PI E g → N4 g → (∀ x ∈ acc, nd x → gDn g (nR n x.2.1 x.2.2.1) = 3) → ∀ ws, (ardl E L n l acc g).1 = .inr ws →
    PI E (ardl E L n l acc g).2 ∧ N4 (ardl E L n l acc g).2 ∧ K3 g (ardl E L n l acc g).2 ∧ ∀ x ∈ ws, nd x → gDn (ardl E L n l acc g).2 (nR n x.2.1 x.2.2.1) = 3
  | [], acc, g, _, _, h1, h2, h3, ws, e => by
    have e : (Sum.inr acc : Nat ⊕ List Rd) = Sum.inr ws := e
    cases e
    exact ⟨h1, h2, fun _ q => q, h3⟩
  | q :: t, acc, g, hq, hg, h1, h2, h3, ws, e => by
    have ht : ∀ y ∈ t, y.1 < 4 ∧ y.2.1 < 4 ∧ y.2.2 < lim y.2.1 := fun y hy => hq y (List.mem_cons_of_mem _ hy)
    obtain ⟨q1, q2, q3⟩ := hq q List.mem_cons_self
    rw [ardl] at e ⊢
    by_cases c1 : q.2.1 = 1
    · rw [if_pos c1] at e ⊢
      refine ardl_p hL hO t _ g ht hg h1 h2 (fun x hx hn => ?_) ws e
      rcases List.mem_append.mp hx with z | z
      · exact h3 x z hn
      · rw [List.mem_singleton.mp z] at hn
        have hn : q.2.1 = 2 ∨ q.2.1 = 3 := hn
        omega
    · rw [if_neg c1] at e ⊢
      by_cases c0 : q.2.1 = 0
      · rw [if_pos c0] at e ⊢
        cases hv : eφ E q.2.2 with
        | none => rw [hv] at e; cases e
        | some v =>
          rw [hv] at e
          refine ardl_p hL hO t _ g ht hg h1 h2 (fun x hx hn => ?_) ws e
          rcases List.mem_append.mp hx with z | z
          · exact h3 x z hn
          · rw [List.mem_singleton.mp z] at hn
            have hn : q.2.1 = 2 ∨ q.2.1 = 3 := hn
            omega
      · rw [if_neg c0] at e ⊢
        have q4 : q.2.2 < 16 := by rwa [lim_16 c0 c1] at q3
        obtain ⟨a1, a2, a3⟩ := hL (nR n q.2.1 q.2.2) g (nR_lt q4) hg
        cases hv : (L (nR n q.2.1 q.2.2) g).1 with
        | inl k => rw [hv] at e; cases e
        | inr v =>
          rw [hv] at e
          obtain ⟨b1, b2, b3, b4⟩ := hO _ g v (nR_lt q4) hg h1 h2 hv
          obtain ⟨d1, d2, d3, d4⟩ := ardl_p hL hO t _ _ ht a1 b1 b2 (fun x hx hn => by
            rcases List.mem_append.mp hx with z | z
            · exact b3 _ (h3 x z hn)
            · rw [List.mem_singleton.mp z]
              exact b4) ws e
          exact ⟨d1, d2, fun m hm => d3 m (b3 m hm), d4⟩
theorem aread_p {E : Ev} {L : Nat → Gs → Ans × Gs} (hL : LOK L) (hO : OKL E L) {n : Nat} {r : Rul} (hr : RulOK r) {g : Gs} (hg : WG g) (h1 : PI E g) (h2 : N4 g) {ws : List Rd} (e : (aread E L n r g).1 = .inr ws) :
    PI E (aread E L n r g).2 ∧ N4 (aread E L n r g).2 ∧ K3 g (aread E L n r g).2 ∧ ∀ x ∈ ws, nd x → gDn (aread E L n r g).2 (nR n x.2.1 x.2.2.1) = 3 := by
  have h := ardl_p hL hO (n := n) (expIn r (n % 2)) [] g (fun q hq => by
    obtain ⟨a, b, c, d⟩ := expIn_mem hr hq
    exact ⟨a, c, d⟩) hg h1 h2 (fun x hx => by cases hx)
  unfold aread at e ⊢
  cases hp : ardl E L n (expIn r (n % 2)) [] g with
  | mk o g1 =>
    rw [hp] at h e
    cases o with
    | inl k => cases e
    | inr acc =>
      have e : (Sum.inr (afnd E r acc) : Nat ⊕ List Rd) = Sum.inr ws := e
      cases e
      obtain ⟨d1, d2, d3, d4⟩ := h acc rfl
      refine ⟨d1, d2, d3, fun x hx hn => ?_⟩
      unfold afnd at hx
      by_cases h5 : kd r = 3
      · rw [if_pos h5] at hx
        rcases List.mem_append.mp hx with z | z
        · exact d4 x z hn
        · rw [List.mem_singleton.mp z] at hn
          have hn : (4 : Nat) = 2 ∨ (4 : Nat) = 3 := hn
          omega
      · rw [if_neg h5] at hx
        exact d4 x hx hn
theorem aplain_p {E : Ev} (hE : EvOK E) {L : Nat → Gs → Ans × Gs} (hL : LOK L) (hO : OKL E L) {n v : Nat} {g : Gs} (hn : n < 32) (h0 : gDn g n = 0) (hg : WG g) (h1 : PI E g) (h2 : N4 g) (e : (aplain E L n (sDn g n 5)).1 = .inr v) :
    PI E (aplain E L n (sDn g n 5)).2 ∧ N4 (aplain E L n (sDn g n 5)).2 ∧ K3 g (aplain E L n (sDn g n 5)).2 ∧ gDn (aplain E L n (sDn g n 5)).2 n = 3 := by
  have hg5 := WG_sDn5 hg n
  have d5 : ∀ m, gDn (sDn g n 5) m = fu (gDn g) n 5 m := fun _ => rfl
  have c5 : c3 (sDn g n 5) = c3 g := by
    unfold c3
    congr 1
    funext m
    rw [d5]
    by_cases hm : m = n
    · subst hm; rw [fu_s, h0]; rfl
    · rw [fu_n hm]
  have p5 : PI E (sDn g n 5) := by
    obtain ⟨rk, h⟩ := h1
    refine ⟨rk, fun m hm hd => ?_⟩
    rw [d5] at hd
    have hmn : ¬ m = n := fun q => by subst q; rw [fu_s] at hd; omega
    rw [fu_n hmn] at hd
    obtain ⟨q1, q2, q3⟩ := h m hm hd
    refine ⟨by rw [c5]; exact q1, q2, fun x hx hx2 => ?_⟩
    obtain ⟨z1, z2⟩ := q3 x hx hx2
    refine ⟨?_, z2⟩
    rw [d5, fu_n (fun q => by rw [q] at z1; omega)]
    exact z1
  have n5 : N4 (sDn g n 5) := fun m => by
    rw [d5]
    by_cases hm : m = n
    · subst hm; rw [fu_s]; exact Or.inr (Or.inr rfl)
    · rw [fu_n hm]; exact h2 m
  have k5 : K3 g (sDn g n 5) := fun m hm => by
    rw [d5, fu_n (fun q => by subst q; omega)]; exact hm
  unfold aplain at e ⊢
  cases hr : eρ E (n / 2) with
  | none => rw [hr] at e; cases e
  | some r =>
    rw [hr] at e
    have hr2 := hE.2 _ _ hr
    obtain ⟨a1, a2, a3, a4⟩ := aread_c hE hL (n := n) hr2 hg5
    have a5 := fun ws e => aread_p hL hO (n := n) hr2 hg5 p5 n5 (ws := ws) e
    show PI E (match aread E L n r (sDn g n 5) with
      | (.inl k, g1) => ((.inl k : Ans), sEnd g1 n 4 (.inl k))
      | (.inr ws, g1) => ((.inr (ares E r ws) : Ans), sEnd (sRd g1 n ws) n 3 (.inr (ares E r ws)))).2 ∧ N4 (match aread E L n r (sDn g n 5) with
      | (.inl k, g1) => ((.inl k : Ans), sEnd g1 n 4 (.inl k))
      | (.inr ws, g1) => ((.inr (ares E r ws) : Ans), sEnd (sRd g1 n ws) n 3 (.inr (ares E r ws)))).2 ∧ K3 g (match aread E L n r (sDn g n 5) with
      | (.inl k, g1) => ((.inl k : Ans), sEnd g1 n 4 (.inl k))
      | (.inr ws, g1) => ((.inr (ares E r ws) : Ans), sEnd (sRd g1 n ws) n 3 (.inr (ares E r ws)))).2 ∧ gDn (match aread E L n r (sDn g n 5) with
      | (.inl k, g1) => ((.inl k : Ans), sEnd g1 n 4 (.inl k))
      | (.inr ws, g1) => ((.inr (ares E r ws) : Ans), sEnd (sRd g1 n ws) n 3 (.inr (ares E r ws)))).2 n = 3
    have e : (match aread E L n r (sDn g n 5) with
      | (.inl k, g1) => ((.inl k : Ans), sEnd g1 n 4 (.inl k))
      | (.inr ws, g1) => ((.inr (ares E r ws) : Ans), sEnd (sRd g1 n ws) n 3 (.inr (ares E r ws)))).1 = .inr v := e
    cases hp : aread E L n r (sDn g n 5) with
    | mk o g1 =>
      rw [hp] at a1 a2 a3 a4 a5 e
      cases o with
      | inl k => cases e
      | inr ws =>
        obtain ⟨b1, b2, b3, b4⟩ := a5 ws rfl
        obtain ⟨w1, w2⟩ := a4 ws rfl
        have g5 : gDn g1 n = 5 := (a2.1 n).mpr (by rw [d5]; exact fu_s)
        have dd : ∀ m, gDn (sEnd (sRd g1 n ws) n 3 (.inr (ares E r ws))) m = fu (gDn g1) n 3 m := fun _ => rfl
        have dr : ∀ m, gRd (sEnd (sRd g1 n ws) n 3 (.inr (ares E r ws))) m = fu (gRd g1) n ws m := fun _ => rfl
        show PI E (sEnd (sRd g1 n ws) n 3 (.inr (ares E r ws))) ∧ N4 (sEnd (sRd g1 n ws) n 3 (.inr (ares E r ws))) ∧ K3 g (sEnd (sRd g1 n ws) n 3 (.inr (ares E r ws))) ∧ gDn (sEnd (sRd g1 n ws) n 3 (.inr (ares E r ws))) n = 3
        have hcc : c3 g1 + 1 = c3 (sEnd (sRd g1 n ws) n 3 (.inr (ares E r ws))) := by
          unfold c3
          refine cntB_flip (j := n) ?_ ?_ (fun i hi => ?_) 32 hn
          · show decide (gDn g1 n = 3) = false
            rw [g5]; rfl
          · show decide (gDn (sEnd (sRd g1 n ws) n 3 (.inr (ares E r ws))) n = 3) = true
            rw [dd, fu_s]; rfl
          · show decide (gDn g1 i = 3) = decide (gDn (sEnd (sRd g1 n ws) n 3 (.inr (ares E r ws))) i = 3)
            rw [dd, fu_n hi]
        have not5 : ∀ {m}, gDn g1 m = 3 → ¬ m = n := fun h q => by subst q; omega
        refine ⟨?_, fun m => ?_, fun m hm => ?_, by rw [dd]; exact fu_s⟩
        · obtain ⟨rk, h⟩ := b1
          refine ⟨fu rk n (c3 g1), fun m hm hd => ?_⟩
          rw [dr]
          by_cases hmn : m = n
          · subst hmn
            rw [fu_s, fu_s]
            refine ⟨by omega, ⟨r, hr, w1⟩, fun x hx hx2 => ?_⟩
            have z := b4 x hx hx2
            have hne := not5 z
            rw [dd, fu_n hne, fu_n hne]
            obtain ⟨y, hy⟩ : ∃ y, x.2.2.1 = y := ⟨_, rfl⟩
            have hlt : nR m x.2.1 x.2.2.1 < 32 := by
              rcases WFr_slot hr2 w1 x hx with q | q
              · have := q.2.2.2
                rw [lim_16 (by rcases hx2 with h | h <;> omega) (by rcases hx2 with h | h <;> omega)] at this
                exact nR_lt this
              · rcases hx2 with h | h <;> omega
            exact ⟨z, (h _ hlt z).1⟩
          · rw [dd, fu_n hmn] at hd
            obtain ⟨q1, q2, q3⟩ := h m hm hd
            have q1 : rk m < c3 g1 := q1
            rw [fu_n hmn, fu_n hmn]
            refine ⟨by omega, q2, fun x hx hx2 => ?_⟩
            obtain ⟨z1, z2⟩ := q3 x hx hx2
            rw [dd, fu_n (not5 z1), fu_n (not5 z1)]
            exact ⟨z1, z2⟩
        · rw [dd]
          by_cases hm : m = n
          · subst hm; rw [fu_s]; exact Or.inr (Or.inl rfl)
          · rw [fu_n hm]; exact b2 m
        · have z := b3 m (k5 m hm)
          rw [dd, fu_n (not5 z)]; exact z
theorem alook_p {E : Ev} (hE : EvOK E) : ∀ f, OKL E (alook true E f)
  | 0 => fun m g v _ _ _ _ e => by cases e
  | f + 1 => fun m g v hm hg h1 h2 e => by
    rw [alook] at e ⊢
    by_cases h5 : gDn g m = 5
    · rw [if_pos h5] at e
      cases e
    · rw [if_neg h5] at e ⊢
      by_cases h0 : gDn g m = 0
      · rw [if_neg (fun q => q h0), if_pos rfl] at e ⊢
        exact aplain_p hE (alook_c hE true f) (alook_p hE f) hm h0 hg h1 h2 e
      · rw [if_pos h0] at e ⊢
        refine ⟨h1, h2, fun _ q => q, ?_⟩
        rcases h2 m with q | q | q
        · exact absurd q h0
        · exact q
        · exact absurd q h5
theorem aP_p {E : Ev} (hE : EvOK E) {n v : Nat} {g : Gs} (hn : n < 32) (hg : WGB g) (e : (aP E n g).1 = .inr v) : PI E (aP E n g).2 ∧ N4 (aP E n g).2 ∧ gDn (aP E n g).2 n = 3 := by
  obtain ⟨a1, a2, a3, a4⟩ := alook_p hE 32 n (gst g) v hn (WG_gst hg) ⟨fun _ => 0, fun m hm hd => absurd hd (by show ¬ (0 : Nat) = 3; omega)⟩ (fun m => Or.inl rfl) e
  exact ⟨a1, a2, a4⟩
