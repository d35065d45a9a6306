/-! a node comes onto the pile -/
def PU (S : St) (n h c w : Nat) : St := wi (wi (wi (wi (wi (wi (wi (wi S 35 h (nI n)) 34 0 (nI (h + 1))) 29 n (nI 1)) 33 3 (S.1 33 3 + nI 1)) 38 n (nI 0)) 37 n (nI 0)) 36 n (nI c)) 32 n (nI w)
theorem PU_ne {S : St} {n h c w : Nat} {k i : Nat} (h1 : ¬ (k = 35 ∧ i = h)) (h2 : ¬ (k = 34 ∧ i = 0)) (h3 : ¬ (k = 29 ∧ i = n)) (h4 : ¬ (k = 33 ∧ i = 3)) (h5 : ¬ (k = 38 ∧ i = n)) (h6 : ¬ (k = 37 ∧ i = n)) (h7 : ¬ (k = 36 ∧ i = n)) (h8 : ¬ (k = 32 ∧ i = n)) : (PU S n h c w).1 k i = S.1 k i := by
  unfold PU
  rw [wi_ne h8, wi_ne h7, wi_ne h6, wi_ne h5, wi_ne h4, wi_ne h3, wi_ne h2, wi_ne h1]
def ALK (ρ : Nat → Option Rul) (n : Nat) (S : St) : Prop := ¬ S.1 15 n = 0 ∧ ∃ r, ρ (n / 2) = some r ∧ S.2 16 n = lN (encR r) ∧ S.1 17 n = nI (tm r)
theorem push_v {ρ : Nat → Option Rul} {S : St} {n h : Nat} (hρ : ∀ t r, ρ t = some r → RulOK r) (hn : n < 32) (hh : h < 40) (hT : RrT ρ S) (h34 : S.1 34 0 = nI h) :
    ∃ c w, m_X7_pushes S (nI n) = some (PU S n h c w) ∧ (ALK ρ n S → w = 0 ∧ c = if S.1 43 0 = 0 then 1 else 0) ∧ (¬ ALK ρ n S → c = 0 ∧ w = if S.1 15 n = 0 then 1 else 2) := by
  unfold m_X7_pushes
  rw [show rs S 34 = nI h from h34, zg_in hh (by omega), tn (by omega), zb_e]
  have e1 : rs (wi S 35 h (nI n)) 34 = nI h := by
    show (wi S 35 h (nI n)).1 34 0 = _
    rw [wi_ne (by omega)]; exact h34
  rw [e1, nI_add, zb_e]
  simp only [zg_in hn (show 32 ≤ 2147483648 by omega), tn (show n < 2147483648 by omega), tn (show 3 < 2147483648 by omega), zg_in (show 3 < 4 by omega) (show 4 ≤ 2147483648 by omega), zb_e, ri_n (show n < 2147483648 by omega), ri_n (show 3 < 2147483648 by omega), rj_n (show n < 2147483648 by omega), div_nI (show n < 2147483648 by omega) (show 0 < 2 by omega) (show 2 < 2147483648 by omega), zg_in (show n / 2 < 16 by omega) (show 16 ≤ 2147483648 by omega), ri_n (show n / 2 < 2147483648 by omega)]
  have e3 : (wi (wi (wi S 35 h (nI n)) 34 0 (nI (h + 1))) 29 n (nI 1)).1 33 3 = S.1 33 3 := by
    rw [wi_ne (by omega), wi_ne (by omega), wi_ne (by omega)]
  rw [e3]
  have hPU : ∀ c w, PU S n h c w = wi (wi (wi (wi (wi (wi (wi (wi S 35 h (nI n)) 34 0 (nI (h + 1))) 29 n (nI 1)) 33 3 (S.1 33 3 + nI 1)) 38 n (nI 0)) 37 n (nI 0)) 36 n (nI c)) 32 n (nI w) := fun c w => rfl
  simp only [hPU]
  have n6 : ∀ k i, k < 29 ∨ k = 43 → (wi (wi (wi (wi (wi (wi S 35 h (nI n)) 34 0 (nI (h + 1))) 29 n (nI 1)) 33 3 (S.1 33 3 + nI 1)) 38 n (nI 0)) 37 n (nI 0)).1 k i = S.1 k i := fun k i hk => by
    rw [wi_ne (by omega), wi_ne (by omega), wi_ne (by omega), wi_ne (by omega), wi_ne (by omega), wi_ne (by omega)]
  have n7 : (wi (wi (wi (wi (wi (wi S 35 h (nI n)) 34 0 (nI (h + 1))) 29 n (nI 1)) 33 3 (S.1 33 3 + nI 1)) 38 n (nI 0)) 37 n (nI 0)).2 = S.2 := rfl
  generalize wi (wi (wi (wi (wi (wi S 35 h (nI n)) 34 0 (nI (h + 1))) 29 n (nI 1)) 33 3 (S.1 33 3 + nI 1)) 38 n (nI 0)) 37 n (nI 0) = S6 at n6 n7 ⊢
  have j108 : m_X7_pushes_J108 (nI n) S6 = some (wi (wi S6 36 n (nI 0)) 32 n (nI (if S.1 15 n = 0 then 1 else 2))) := by
    unfold m_X7_pushes_J108
    simp only [zg_in hn (show 32 ≤ 2147483648 by omega), tn (show n < 2147483648 by omega), zb_e, ri_n (show n < 2147483648 by omega)]
    rw [wi_ne (by omega), n6 15 n (by omega)]
    by_cases h1 : S.1 15 n = 0
    · rw [if_pos h1, if_pos h1]
    · rw [if_neg h1, if_neg h1]
  rw [n6 15 n (by omega), n6 1 _ (by omega), n6 17 n (by omega), n6 4 _ (by omega), n7, j108, show rs S6 43 = S.1 43 0 from n6 43 0 (by omega)]
  by_cases a1 : S.1 15 n = 0
  · rw [if_pos a1]
    exact ⟨0, _, rfl, fun q => absurd a1 q.1, fun _ => ⟨rfl, rfl⟩⟩
  · rw [if_neg a1]
    cases hr : ρ (n / 2) with
    | none =>
      rw [(hT (n / 2) (by omega)).1 hr, if_pos rfl]
      refine ⟨0, _, rfl, fun q => ?_, fun _ => ⟨rfl, rfl⟩⟩
      obtain ⟨-, r, q2, -⟩ := q
      rw [hr] at q2
      cases q2
    | some r =>
      have hm := (hT (n / 2) (by omega)).2 r hr
      have hr2 := hρ _ _ hr
      rw [hm.1, if_neg (nI_n1 (by have := hr2.1; omega)), ruleOf_v (by omega) hr2 (RrM_eq hm (fun k i hk => n6 k i (by omega))), zo_e]
      have hnA : (¬ (S.2 16 n = lN (encR r) ∧ S.1 17 n = nI (tm r))) → ¬ ALK ρ n S := fun q1 q => by
        obtain ⟨-, r2, q2, q3, q4⟩ := q
        rw [hr] at q2
        cases q2
        exact q1 ⟨q3, q4⟩
      by_cases a2 : S.2 16 n = lN (encR r)
      · rw [if_pos ((lg_cmp_eq _ _).mpr a2), hm.2.2.2.1]
        by_cases a3 : S.1 17 n = nI (tm r)
        · rw [if_pos a3]
          have hA : ALK ρ n S := ⟨a1, r, hr, a2, a3⟩
          by_cases a4 : S.1 43 0 = 0
          · rw [if_pos a4]
            exact ⟨1, 0, rfl, fun _ => ⟨rfl, (if_pos a4).symm⟩, fun q => absurd hA q⟩
          · rw [if_neg a4]
            exact ⟨0, 0, rfl, fun _ => ⟨rfl, (if_neg a4).symm⟩, fun q => absurd hA q⟩
        · rw [if_neg a3]
          exact ⟨0, _, rfl, fun q => absurd q (hnA (fun z => a3 z.2)), fun _ => ⟨rfl, rfl⟩⟩
      · rw [if_neg (fun z => a2 ((lg_cmp_eq _ _).mp z))]
        exact ⟨0, _, rfl, fun q => absurd q (hnA (fun z => a2 z.1)), fun _ => ⟨rfl, rfl⟩⟩
theorem bG_up {g : Gs} {n : Nat} (hn : n < 32) (h0 : gDn g n = 0) : bG (sDn g n 5) = bG g + 1 := (bG_5 hn h0).symm
theorem RR0_push {E : Ev} {g : Gs} {S : St} {n c w : Nat} (hn : n < 32) (h0 : gDn g n = 0) (h : RR0 E g S) : RR0 E (sDn g n 5) (PU S n (bG g) c w) := by
  obtain ⟨a1, a2, a3, a4⟩ := h
  refine ⟨FilT_eq a1 (fun k i hk => PU_ne (by omega) (by omega) (by omega) (by omega) (by omega) (by omega) (by omega) (by omega)), RrT_eq a2 (fun k i hk => PU_ne (by omega) (by omega) (by omega) (by omega) (by omega) (by omega) (by omega) (by omega)), fun m hm => ?_, ?_⟩
  · show fu (gDn g) n 5 m ≤ 5 ∧ (fu (gDn g) n 5 m = 0 → _) ∧ (fu (gDn g) n 5 m = 5 → _) ∧ (¬ fu (gDn g) n 5 m = 0 → ¬ fu (gDn g) n 5 m = 5 → _ ∧ _)
    by_cases h1 : m = n
    · subst h1
      rw [fu_s]
      refine ⟨by omega, fun q => by omega, fun _ => ?_, fun _ q => absurd rfl q⟩
      unfold PU
      rw [wi_ne (by omega), wi_ne (by omega), wi_ne (by omega), wi_ne (by omega), wi_ne (by omega), wi_at]
    · rw [fu_n h1, PU_ne (by omega) (by omega) (by omega) (by omega) (by omega) (by omega) (by omega) (by omega), PU_ne (by omega) (by omega) (by omega) (by omega) (by omega) (by omega) (by omega) (by omega)]
      exact a3 m hm
  · rw [bG_up hn h0]
    unfold PU
    rw [wi_ne (by omega), wi_ne (by omega), wi_ne (by omega), wi_ne (by omega), wi_ne (by omega), wi_ne (by omega), wi_at]
theorem PU_at {S : St} {n h c w : Nat} : (PU S n h c w).1 35 h = nI n ∧ (PU S n h c w).1 36 n = nI c ∧ (PU S n h c w).1 32 n = nI w ∧ (PU S n h c w).1 37 n = nI 0 ∧ (PU S n h c w).1 38 n = nI 0 ∧ (PU S n h c w).1 33 3 = S.1 33 3 + nI 1 := by
  unfold PU
  refine ⟨?_, ?_, wi_at, ?_, ?_, ?_⟩
  · rw [wi_ne (by omega), wi_ne (by omega), wi_ne (by omega), wi_ne (by omega), wi_ne (by omega), wi_ne (by omega), wi_ne (by omega), wi_at]
  · rw [wi_ne (by omega), wi_at]
  · rw [wi_ne (by omega), wi_ne (by omega), wi_at]
  · rw [wi_ne (by omega), wi_ne (by omega), wi_ne (by omega), wi_at]
  · rw [wi_ne (by omega), wi_ne (by omega), wi_ne (by omega), wi_ne (by omega), wi_at]
theorem cG_5 {g : Gs} {n x : Nat} (h0 : gDn g n = 0) (hx : ¬ x = 0 ∧ ¬ x = 5) : cG (sDn g n 5) x = cG g x := cntB_eq 32 (fun i _ => by
  show decide (fu (gDn g) n 5 i = x) = decide (gDn g i = x)
  by_cases h : i = n
  · subst h; rw [fu_s, h0, decide_eq_false (fun q => hx.2 q.symm), decide_eq_false (fun q => hx.1 q.symm)]
  · rw [fu_n h])
/-- onto the pile in a build: the whys that stand then -/
theorem RB_push {E : Ev} {g g' : Gs} {S : St} {n c w : Nat} (hn : n < 32) (h0 : gDn g n = 0) (h : RB E g S) (hg : g' = sDn g n 5 ∧ w = 0 ∨ g' = sWy (sDn g n 5) n w) : RB E g' (PU S n (bG g) c w) := by
  obtain ⟨a1, a2, a3, a4, a5, a6, a7⟩ := h
  have e : ∀ k i, k < 29 ∨ k = 30 ∨ k = 31 ∨ k = 43 → (PU S n (bG g) c w).1 k i = S.1 k i := fun k i hk => PU_ne (by omega) (by omega) (by omega) (by omega) (by omega) (by omega) (by omega) (by omega)
  obtain ⟨p1, p2, p3, p4, p5, p6⟩ := PU_at (S := S) (n := n) (h := bG g) (c := c) (w := w)
  have hu := uG_5 hn h0
  have hu2 : uG g ≤ 32 := cntB_le 32
  have main : ∀ g' : Gs, gDn g' = gDn (sDn g n 5) → gAn g' = gAn g → gAw g' = gAw g → gTf g' = gTf g → gTu g' = gTu g → gVn g' = gVn g → gLk g' = gLk g → gK g' = gK g → gL g' = gL g → gRn g' = gRn g → (∀ m, ¬ m = n → gWy g' m = gWy g m) → gWy g' n = w → RB E g' (PU S n (bG g) c w) := by
    intro g' q1 q2 q3 q4 q5 q6 q7 q8 q9 q10 q11 q12
    refine ⟨RR0_eq (RR0_push hn h0 a1) q1 q2 (fun k i _ => rfl), by rw [e _ _ (by omega)]; exact a2, MaR_eq a3 q3 q4 q5 q6 q7 (fun k i b1 b2 => e k i (by omega)), ?_, ?_, fun m hm => ?_, ?_⟩
    · rw [q8, q3]; exact KeR_eq a4 (fun k i _ => e k i (by omega)) (fun k i _ => rfl)
    · rw [q9]; exact CaR_eq a5 (fun k i _ => e k i (by omega)) (fun i => rfl)
    · rw [q1]
      show (¬ fu (gDn g) n 5 m = 5 → _ = nI (fu (gDn g) n 5 m)) ∧ _ ∧ (fu (gDn g) n 5 m = 0 → _)
      obtain ⟨d1, d2, d3⟩ := a6 m hm
      by_cases h1 : m = n
      · subst h1
        rw [fu_s, q12]
        exact ⟨fun q => absurd rfl q, p3, fun q => by omega⟩
      · rw [fu_n h1, e 31 _ (by omega), PU_ne (by omega) (by omega) (by omega) (by omega) (by omega) (by omega) (by omega) (by omega), q11 m h1]
        exact ⟨d1, d2, d3⟩
    · obtain ⟨c1, c2, c3, c4⟩ := a7
      refine ⟨?_, ?_, ?_, ?_⟩
      · rw [PU_ne (by omega) (by omega) (by omega) (by omega) (by omega) (by omega) (by omega) (by omega), q10]; exact c1
      · rw [PU_ne (by omega) (by omega) (by omega) (by omega) (by omega) (by omega) (by omega) (by omega), cG_eq q1, cG_5 h0 (by omega)]; exact c2
      · rw [PU_ne (by omega) (by omega) (by omega) (by omega) (by omega) (by omega) (by omega) (by omega), cG_eq q1, cG_5 h0 (by omega)]; exact c3
      · rw [p6, c4, nI_add, uG_eq q1, show 32 - uG (sDn g n 5) = 32 - uG g + 1 by omega]
  rcases hg with ⟨rfl, hw⟩ | rfl
  · exact main _ rfl rfl rfl rfl rfl rfl rfl rfl rfl rfl (fun _ _ => rfl) ((a6 n hn).2.2 h0 |>.trans hw.symm)
  · exact main _ rfl rfl rfl rfl rfl rfl rfl rfl rfl rfl (fun m hm => fu_n hm) fu_s
theorem RPl_push {E : Ev} {S0 : St} {g : Gs} {S : St} {n c w : Nat} (hn : n < 32) (h0 : gDn g n = 0) (h : RPl E S0 g S) : RPl E S0 (sDn g n 5) (PU S n (bG g) c w) := by
  obtain ⟨a1, a2, a3, a4, a5, a6⟩ := h
  refine ⟨RR0_push hn h0 a1, ?_, fun k i hk => ?_, fun i hi => ?_, a5, fun m hm hd => ?_⟩
  · rw [PU_ne (by omega) (by omega) (by omega) (by omega) (by omega) (by omega) (by omega) (by omega)]; exact a2
  · rw [PU_ne (by omega) (by omega) (by omega) (by omega) (by omega) (by omega) (by omega) (by omega)]; exact a3 k i hk
  · rw [PU_ne (by omega) (by omega) (by omega) (by omega) (by omega) (by omega) (by omega) (by omega)]; exact a4 i hi
  · have hd : fu (gDn g) n 5 m = 3 := hd
    by_cases h1 : m = n
    · subst h1; rw [fu_s] at hd; omega
    · rw [fu_n h1] at hd
      obtain ⟨b0, b1, b2⟩ := a6 m hm hd
      refine ⟨b0, ?_, fun j x hx => ?_⟩
      · rw [PU_ne (by omega) (by omega) (by omega) (by omega) (by omega) (by omega) (by omega) (by omega)]; exact b1
      · rw [PU_ne (by omega) (by omega) (by omega) (by omega) (by omega) (by omega) (by omega) (by omega)]; exact b2 j x hx
theorem KP_push {g0 : Gs} {S : St} {n h c w : Nat} : KP h n g0 S (PU S n h c w) := by
  refine ⟨fun m hm hne _ => ⟨?_, ?_, ?_, ?_, fun j hj => ⟨?_, ?_, rfl⟩⟩, fun i hi => ?_, ?_⟩
  all_goals exact PU_ne (by omega) (by omega) (by omega) (by omega) (by omega) (by omega) (by omega) (by omega)
