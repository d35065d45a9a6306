/-! builds of the reference -/
def KeI1 (n : Nat) (q : Kp) (S : St) : Prop := S.1 15 n = nI 1 ∧ S.2 16 n = lN (encR q.1) ∧ S.1 17 n = nI (tm q.1) ∧ S.1 18 n = nI q.2.1.length ∧
  (∀ j x, q.2.1[j]? = some x → S.1 19 (5 * n + j) = nI x.1 ∧ (x.1 = 4 → S.1 20 (5 * n + j) = nI x.2.2.1) ∧ S.2 21 (5 * n + j) = encV x) ∧ S.1 22 n = nI q.2.2.1 ∧ S.1 23 n = nI q.2.2.2
def KeI (K : Nat → Option Kp) (S : St) : Prop := ∀ n, n < 32 → (K n = none → S.1 15 n = nI 0) ∧ ∀ q, K n = some q → KeI1 n q S
def DoI (g : Gs) (S : St) : Prop := ∀ n, n < 32 → S.1 31 n = nI (gDn g n) ∧ S.1 32 n = nI (gWy g n)
/-- between calls -/
def RI (E : Ev) (g : Gs) (S : St) : Prop := FilT (eφ E) (S.1 0) ∧ RrT (eρ E) S ∧ S.1 43 0 = 0 ∧ MaR E g S ∧ KeI (gK g) S ∧ CaR (gL g) S ∧ DoI g S ∧ CoR g S
theorem KeI1_eq {n : Nat} {q : Kp} {S S' : St} (h : KeI1 n q S) (e : ∀ k i, 15 ≤ k → k < 24 → S'.1 k i = S.1 k i) (e2 : ∀ k i, 15 ≤ k → k < 24 → S'.2 k i = S.2 k i) : KeI1 n q S' := by
  obtain ⟨a1, a2, a3, a4, a5, a6, a7⟩ := h
  unfold KeI1
  rw [e _ _ (by omega) (by omega), e2 _ _ (by omega) (by omega), e _ _ (by omega) (by omega), e _ _ (by omega) (by omega), e _ _ (by omega) (by omega), e _ _ (by omega) (by omega)]
  refine ⟨a1, a2, a3, a4, fun j x hx => ?_, a6, a7⟩
  rw [e _ _ (by omega) (by omega), e _ _ (by omega) (by omega), e2 _ _ (by omega) (by omega)]
  exact a5 j x hx
theorem KeI_eq {K : Nat → Option Kp} {S S' : St} (h : KeI K S) (e : ∀ k i, 15 ≤ k → k < 24 → S'.1 k i = S.1 k i) (e2 : ∀ k i, 15 ≤ k → k < 24 → S'.2 k i = S.2 k i) : KeI K S' := fun n hn => by
  refine ⟨fun hk => ?_, fun q hq => KeI1_eq ((h n hn).2 q hq) e e2⟩
  rw [e _ _ (by omega) (by omega)]
  exact (h n hn).1 hk
theorem DoI_eq {g g' : Gs} {S S' : St} (h : DoI g S) (e1 : gDn g' = gDn g) (e2 : gWy g' = gWy g) (e : ∀ k i, k = 31 ∨ k = 32 → S'.1 k i = S.1 k i) : DoI g' S' := fun n hn => by
  rw [e1, e2, e _ _ (Or.inl rfl), e _ _ (Or.inr rfl)]
  exact h n hn
/-- from the answers' state to between calls: tables that calls show -/
theorem RI_eq {E : Ev} {g g' : Gs} {S S' : St} (h : RI E g S) (q1 : gK g' = gK g) (q2 : gL g' = gL g) (q3 : gDn g' = gDn g) (q4 : gWy g' = gWy g) (q5 : gRn g' = gRn g) (e : ∀ k i, k < 29 ∨ k = 31 ∨ k = 32 ∨ k = 33 ∨ k = 43 → ¬ (8 ≤ k ∧ k < 15) → S'.1 k i = S.1 k i) (e2 : ∀ k i, k < 29 → S'.2 k i = S.2 k i) (hM : MaR E g' S') : RI E g' S' := by
  obtain ⟨a1, a2, a3, a4, a5, a6, a7, a8⟩ := h
  refine ⟨FilT_eq a1 (fun k i hk => e k i (by omega) (by omega)), RrT_eq a2 (fun k i hk => e k i (by omega) (by omega)), by rw [e _ _ (by omega) (by omega)]; exact a3, hM, ?_, ?_, DoI_eq a7 q3 q4 (fun k i hk => e k i (by omega) (by omega)), CoR_eq a8 q3 q5 (fun i => e _ i (by omega) (by omega))⟩
  · rw [q1]; exact KeI_eq a5 (fun k i _ _ => e k i (by omega) (by omega)) (fun k i _ _ => e2 k i (by omega))
  · rw [q2]; exact CaR_eq a6 (fun k i _ => e k i (by omega) (by omega)) (fun i => e2 26 i (by omega))
theorem lk_l {x : Int32} : ∀ (k d i : Nat) (S : St), i + d = 32 → d < k → (∀ j, j < i → S.1 29 j = nI 0) →
    ∃ S3, zl2 (m_X7_looks_B2 x) k S (nI i) = (zo (m_X7_pushes S3 x) fun S4 => zl1 (m_X7_looks_B31 x) FU S4) ∧ S3.1 34 0 = nI 0 ∧ (∀ j, j < 32 → S3.1 29 j = nI 0) ∧ (∀ k j, ¬ k = 29 → ¬ k = 34 → S3.1 k j = S.1 k j) ∧ S3.2 = S.2 := by
  intro k
  induction k with
  | zero => intro d i S _ h; omega
  | succ k ih =>
    intro d i S h1 h2 h3
    show ∃ S3, m_X7_looks_B2 x (zl2 (m_X7_looks_B2 x) k) S (nI i) = _ ∧ _
    generalize zl2 (m_X7_looks_B2 x) k = G at ih ⊢
    unfold m_X7_looks_B2
    simp only [nI_add, zb_e]
    match d, h1, h2 with
    | 0, h1, h2 =>
      rw [if_pos (by rw [le_nI (by omega) (by omega)]; omega)]
      exact ⟨_, rfl, wi_at, fun j hj => by rw [wi_ne (by omega)]; exact h3 j (by omega), fun k2 j q1 q2 => wi_ne (by omega), rfl⟩
    | d + 1, h1, h2 =>
      rw [if_neg (by rw [le_nI (by omega) (by omega)]; omega), zg_in (show i < 32 by omega) (by omega), tn (by omega)]
      obtain ⟨S3, a1, a2, a3, a4, a5⟩ := ih d (i + 1) (wi S 29 i (nI 0)) (by omega) (by omega) (fun j hj => by
        by_cases hji : j = i
        · subst hji; rw [wi_at]
        · rw [wi_ne (by omega)]; exact h3 j (by omega))
      exact ⟨S3, a1, a2, a3, fun k2 j q1 q2 => (a4 k2 j q1 q2).trans (wi_ne (by omega)), a5⟩
theorem bG_gst {g : Gs} : bG (gst g) = 0 := by
  show cntB (fun _ => decide (0 = 5)) 32 = 0
  decide
theorem uG_gst {g : Gs} : uG (gst g) = 32 := by
  show cntB (fun _ => decide (0 = 0)) 32 = 32
  decide
/-- the loop to its end -/
theorem lk_end {S1 S' : St} {n k : Nat} {a : Int32} (hn : n < 32) (hk : k ≤ 960) (hs : Steps k S1 S') (h34 : S'.1 34 0 = nI 0) (h30 : S'.1 30 n = a) : zl1 (m_X7_looks_B31 (nI n)) FU S1 = some (a, S') := by
  have e : FU = (8191 - k + 1) + k := by
    have : FU = 8192 := rfl
    omega
  rw [e, hs]
  show m_X7_looks_B31 (nI n) _ S' = _
  unfold m_X7_looks_B31
  rw [show rs S' 34 = nI 0 from h34, if_pos (by decide), zg_in hn (by omega), ri_n (by omega), h30]
theorem looksB {E : Ev} {g : Gs} {S : St} {n : Nat} (hE : EvOK E) (hn : n < 32) (hg : WGB g) (h1 : FilT (eφ E) (S.1 0)) (h2 : RrT (eρ E) S) (h43 : S.1 43 0 = 0) (hM : MaR E g S) (hK : KeI (gK g) S) (hC : CaR (gL g) S) (e24 : ∀ j, j < 32 → S.1 24 j = nI 0) (e31 : ∀ j, j < 32 → S.1 31 j = nI 0) (e32 : ∀ j, j < 32 → S.1 32 j = nI 0) (e33 : ∀ j, j < 4 → S.1 33 j = nI 0) :
    ∃ S', m_X7_looks S (nI n) = some (enA (alook false E 32 n (gst g)).1, S') ∧ RB E (alook false E 32 n (gst g)).2 S' ∧ S'.1 47 0 = S.1 47 0 := by
  have hgs := WG_gst hg
  obtain ⟨S3, a1, a2, a3, a4, a5⟩ := lk_l (x := nI n) FU 32 0 S (by omega) (FU_gt (by omega)) (fun j hj => by omega)
  have hR : RB E (gst g) S3 := by
    refine ⟨⟨FilT_eq h1 (fun k i hk => a4 k i (by omega) (by omega)), RrT_eq h2 (fun k i hk => a4 k i (by omega) (by omega)), fun m hm => ⟨Nat.zero_le _, fun _ => a3 m hm, fun q => ?_, fun q => absurd rfl q⟩, by rw [bG_gst]; exact a2⟩, by rw [a4 _ _ (by omega) (by omega)]; exact h43, MaR_eq hM rfl rfl rfl rfl rfl (fun k i _ _ => a4 k i (by omega) (by omega)), fun m hm => ?_, CaR_eq hC (fun k i _ => a4 k i (by omega) (by omega)) (fun i => by rw [a5]), fun m hm => ⟨fun _ => ?_, ?_, fun _ => rfl⟩, ?_⟩
    · have q : 0 = 5 := q
      omega
    · obtain ⟨b1, b2⟩ := hK m hm
      refine ⟨fun z => ?_, fun q hq => ?_⟩
      · rw [a4 _ _ (by omega) (by omega)]; exact b1 z
      · obtain ⟨d1, d2, d3, d4, d5, d6, d7⟩ := KeI1_eq (b2 q hq) (fun k i _ _ => a4 k i (by omega) (by omega)) (fun k i _ _ => by rw [a5])
        refine ⟨d1, d2, d3, d4, d5, d6, d7, ?_⟩
        rw [a4 _ _ (by omega) (by omega), e24 m hm]
        show nI 0 = bI (gAw g q.2.2.2)
        rw [hg.2 m q hq]
        rfl
    · rw [a4 _ _ (by omega) (by omega)]; exact e31 m hm
    · rw [a4 _ _ (by omega) (by omega)]; exact e32 m hm
    · refine ⟨?_, ?_, ?_, ?_⟩
      · rw [a4 _ _ (by omega) (by omega)]; exact e33 0 (by omega)
      · rw [a4 _ _ (by omega) (by omega), e33 1 (by omega)]
        show nI 0 = nI (cntB (fun _ => decide (0 = 2)) 32)
        decide
      · rw [a4 _ _ (by omega) (by omega), e33 2 (by omega)]
        show nI 0 = nI (cntB (fun _ => decide (0 = 1)) 32)
        decide
      · rw [a4 _ _ (by omega) (by omega), e33 3 (by omega), uG_gst]
  have h0 : gDn (gst g) n = 0 := rfl
  obtain ⟨⟨z1, z2, z3⟩, S1, k, S', p1, p2, p3, p4, p5⟩ := (rlkB hE 32).2.2 n (gst g) S3 hn hgs hR h0 (by rw [bG_gst]; omega)
  obtain ⟨w1, w2, w3⟩ := alook_c hE false 32 n (gst g) hn hgs
  rw [uG_gst] at p4
  have l4 := (p3.1.2.2.1 n hn).2.2.2 z1 z2
  refine ⟨S', ?_, p3, p5.2.2.trans (a4 47 0 (by omega) (by omega))⟩
  unfold m_X7_looks
  rw [a1, p1, zo_e]
  exact lk_end hn (by omega) p2 (by rw [p3.1.2.2.2, bG_AF w2, bG_gst]) (by rw [l4.2, z3])
theorem looksP {E : Ev} {g : Gs} {S : St} {n : Nat} (hE : EvOK E) (hn : n < 32) (hg : WGB g) (h1 : FilT (eφ E) (S.1 0)) (h2 : RrT (eρ E) S) (h43 : S.1 43 0 = nI 1) :
    ∃ S', m_X7_looks S (nI n) = some (enA (alook true E 32 n (gst g)).1, S') ∧ RPl E S (alook true E 32 n (gst g)).2 S' := by
  have hgs := WG_gst hg
  obtain ⟨S3, a1, a2, a3, a4, a5⟩ := lk_l (x := nI n) FU 32 0 S (by omega) (FU_gt (by omega)) (fun j hj => by omega)
  have hR : RPl E S (gst g) S3 := by
    refine ⟨⟨FilT_eq h1 (fun k i hk => a4 k i (by omega) (by omega)), RrT_eq h2 (fun k i hk => a4 k i (by omega) (by omega)), fun m hm => ⟨Nat.zero_le _, fun _ => a3 m hm, fun q => ?_, fun q => absurd rfl q⟩, by rw [bG_gst]; exact a2⟩, by rw [a4 _ _ (by omega) (by omega)]; exact h43, fun k i hk => a4 k i (by omega) (by omega), fun i _ => a4 33 i (by omega) (by omega), fun k i _ _ => by rw [a5], fun m hm hd => ?_⟩
    · have q : 0 = 5 := q
      omega
    · have hd : 0 = 3 := hd
      omega
  have h0 : gDn (gst g) n = 0 := rfl
  obtain ⟨⟨z1, z2, z3⟩, S1, k, S', p1, p2, p3, p4, -⟩ := (rlkP hE 32).2.2 n (gst g) S3 hn hgs hR h0 (by rw [bG_gst]; omega)
  obtain ⟨w1, w2, w3⟩ := alook_c hE true 32 n (gst g) hn hgs
  rw [uG_gst] at p4
  have l4 := (p3.1.2.2.1 n hn).2.2.2 z1 z2
  refine ⟨S', ?_, p3⟩
  unfold m_X7_looks
  rw [a1, p1, zo_e]
  exact lk_end hn (by omega) p2 (by rw [p3.1.2.2.2, bG_AF w2, bG_gst]) (by rw [l4.2, z3])
/-! build -/
theorem b24_l {p1 p2 : Int32} {S0 : St} : ∀ (k d i : Nat) (S : St), i + d = 4 → d < k → (∀ j, j < i → S.1 33 j = nI 0) → (∀ k j, ¬ k = 33 → S.1 k j = S0.1 k j) → S.2 = S0.2 →
    ∃ S', zl2 (m_X7_build_B24 p1 p2) k S (nI i) = zl2 (m_X7_build_B44 p1 p2) FU S' (nI 0) ∧ (∀ j, j < 4 → S'.1 33 j = nI 0) ∧ (∀ k j, ¬ k = 33 → S'.1 k j = S0.1 k j) ∧ S'.2 = S0.2 := by
  intro k
  induction k with
  | zero => intro d i S _ h; omega
  | succ k ih =>
    intro d i S h1 h2 h3 h4 h5
    show ∃ S', m_X7_build_B24 p1 p2 (zl2 (m_X7_build_B24 p1 p2) k) S (nI i) = _ ∧ _
    generalize zl2 (m_X7_build_B24 p1 p2) k = G at ih ⊢
    unfold m_X7_build_B24
    simp only [nI_add, zb_e]
    match d, h1, h2 with
    | 0, h1, h2 =>
      rw [if_pos (by rw [le_nI (by omega) (by omega)]; omega)]
      exact ⟨S, rfl, fun j hj => h3 j (by omega), h4, h5⟩
    | d + 1, h1, h2 =>
      rw [if_neg (by rw [le_nI (by omega) (by omega)]; omega), zg_in (show i < 4 by omega) (by omega), tn (by omega)]
      refine ih d (i + 1) (wi S 33 i (nI 0)) (by omega) (by omega) (fun j hj => ?_) (fun k2 j q => by rw [wi_ne (by omega)]; exact h4 k2 j q) h5
      by_cases hji : j = i
      · subst hji; rw [wi_at]
      · rw [wi_ne (by omega)]; exact h3 j (by omega)
theorem b44_l {p1 p2 : Int32} {S0 : St} : ∀ (k d i : Nat) (S : St), i + d = 32 → d < k → (∀ j, j < i → S.1 31 j = nI 0 ∧ S.1 32 j = nI 0 ∧ S.1 24 j = nI 0) → (∀ k j, ¬ k = 31 → ¬ k = 32 → ¬ k = 24 → S.1 k j = S0.1 k j) → S.2 = S0.2 →
    ∃ S', zl2 (m_X7_build_B44 p1 p2) k S (nI i) = (zo2 (m_X7_looks (wi S' 43 0 (nI 0)) ((nI 2 * p1) + p2)) fun x10 S11 => zl2 (m_X7_build_B95 x10) FU S11 (nI 0)) ∧ (∀ j, j < 32 → S'.1 31 j = nI 0 ∧ S'.1 32 j = nI 0 ∧ S'.1 24 j = nI 0) ∧ (∀ k j, ¬ k = 31 → ¬ k = 32 → ¬ k = 24 → S'.1 k j = S0.1 k j) ∧ S'.2 = S0.2 := by
  intro k
  induction k with
  | zero => intro d i S _ h; omega
  | succ k ih =>
    intro d i S h1 h2 h3 h4 h5
    show ∃ S', m_X7_build_B44 p1 p2 (zl2 (m_X7_build_B44 p1 p2) k) S (nI i) = _ ∧ _
    generalize zl2 (m_X7_build_B44 p1 p2) k = G at ih ⊢
    unfold m_X7_build_B44
    match d, h1, h2 with
    | 0, h1, h2 =>
      rw [if_pos (by rw [le_nI (by omega) (by omega)]; omega)]
      exact ⟨S, rfl, fun j hj => h3 j (by omega), h4, h5⟩
    | d + 1, h1, h2 =>
      rw [if_neg (by rw [le_nI (by omega) (by omega)]; omega)]
      simp only [zg_in (show i < 32 by omega) (show 32 ≤ 2147483648 by omega), tn (show i < 2147483648 by omega), nI_add, zb_e]
      refine ih d (i + 1) _ (by omega) (by omega) (fun j hj => ?_) (fun k2 j q1 q2 q3 => by rw [wi_ne (by omega), wi_ne (by omega), wi_ne (by omega)]; exact h4 k2 j q1 q2 q3) h5
      by_cases hji : j = i
      · subst hji
        rw [wi_at, wi_ne (by omega), wi_ne (by omega), wi_at, wi_ne (by omega), wi_at]
        exact ⟨rfl, rfl, rfl⟩
      · rw [wi_ne (by omega), wi_ne (by omega), wi_ne (by omega), wi_ne (by omega), wi_ne (by omega), wi_ne (by omega), wi_ne (by omega), wi_ne (by omega), wi_ne (by omega)]
        exact h3 j (by omega)
theorem b95_l {g : Gs} {x : Int32} {S0 : St} (hK0 : KeR (gK g) (gAw g) S0) : ∀ (k d i : Nat) (S : St), i + d = 32 → d < k → (∀ j, j < 32 → S.1 15 j = if j < i then bI (finK g j).isSome else S0.1 15 j) → (∀ k j, ¬ k = 15 → S.1 k j = S0.1 k j) → S.2 = S0.2 →
    ∃ S', zl2 (m_X7_build_B95 x) k S (nI i) = some (x, S') ∧ (∀ j, j < 32 → S'.1 15 j = bI (finK g j).isSome) ∧ (∀ k j, ¬ k = 15 → S'.1 k j = S0.1 k j) ∧ S'.2 = S0.2 := by
  intro k
  induction k with
  | zero => intro d i S _ h; omega
  | succ k ih =>
    intro d i S h1 h2 h3 h4 h5
    show ∃ S', m_X7_build_B95 x (zl2 (m_X7_build_B95 x) k) S (nI i) = _ ∧ _
    generalize zl2 (m_X7_build_B95 x) k = G at ih ⊢
    unfold m_X7_build_B95
    match d, h1, h2 with
    | 0, h1, h2 =>
      rw [if_pos (by rw [le_nI (by omega) (by omega)]; omega)]
      refine ⟨S, rfl, fun j hj => ?_, h4, h5⟩
      rw [h3 j hj, if_pos (by omega)]
    | d + 1, h1, h2 =>
      have hi : i < 32 := by omega
      rw [if_neg (by rw [le_nI (by omega) (by omega)]; omega)]
      simp only [zg_in hi (show 32 ≤ 2147483648 by omega), tn (show i < 2147483648 by omega), ri_n (show i < 2147483648 by omega), nI_add, zb_e]
      have e15 : S.1 15 i = S0.1 15 i := by rw [h3 i hi, if_neg (by omega)]
      have e24 : S.1 24 i = S0.1 24 i := h4 24 i (by omega)
      have nx : ∀ v, v = bI (finK g i).isSome → ∃ S', G (wi S 15 i v) (nI (i + 1)) = some (x, S') ∧ (∀ j, j < 32 → S'.1 15 j = bI (finK g j).isSome) ∧ (∀ k j, ¬ k = 15 → S'.1 k j = S0.1 k j) ∧ S'.2 = S0.2 := fun v hv => by
        refine ih d (i + 1) _ (by omega) (by omega) (fun j hj => ?_) (fun k2 j q => by rw [wi_ne (by omega)]; exact h4 k2 j q) h5
        by_cases hji : j = i
        · subst hji; rw [wi_at, if_pos (by omega), hv]
        · rw [wi_ne (by omega), h3 j hj]
          by_cases hlt : j < i
          · rw [if_pos hlt, if_pos (by omega)]
          · rw [if_neg hlt, if_neg (by omega)]
      rw [e15, e24]
      obtain ⟨b1, b2⟩ := hK0 i hi
      cases hk : gK g i with
      | none =>
        rw [b1 hk, if_pos (by decide)]
        exact nx _ (by unfold finK; rw [hk]; rfl)
      | some q =>
        obtain ⟨d1, d2, d3, d4, d5, d6, d7, d8⟩ := b2 q hk
        rw [d1, d8, if_neg (by decide)]
        cases ha : gAw g q.2.2.2 with
        | false =>
          rw [if_pos (by decide)]
          have hf : finK g i = some q := by
            unfold finK
            rw [hk]
            exact if_neg (by rw [ha]; decide)
          exact nx _ (by rw [hf]; rfl)
        | true =>
          rw [if_neg (by decide)]
          have hf : finK g i = none := by
            unfold finK
            rw [hk]
            exact if_pos ha
          exact nx _ (by rw [hf]; rfl)
theorem no5 {g g' : Gs} (h : AF (gst g) g') (n : Nat) : ¬ gDn g' n = 5 := fun q => by
  have h1 : gDn (gst g) n = 5 := (h.1 n).mp q
  have h1 : 0 = 5 := h1
  omega
theorem isNode_v {S : St} {t c : Nat} (ht : t < 16) (hc : c < 2) : m_X7_isNode S (nI t) (nI c) = some (nI 1) := by
  unfold m_X7_isNode m_X7_isTarget m_X7_isIn
  rw [if_neg (by rw [lt_nI (by omega) (by omega)]; omega), if_neg (by rw [lt_nI (by omega) (by omega)]; omega), zo_e, show bz (nI 1) = true from by decide, zg_tr, zo_e, if_neg (by decide), if_neg (by rw [lt_nI (by omega) (by omega)]; omega), if_neg (by rw [lt_nI (by omega) (by omega)]; omega), zo_e, if_neg (by decide)]
theorem rbuild_v {E : Ev} {g : Gs} {S : St} {t c : Nat} (hE : EvOK E) (ht : t < 16) (hc : c < 2) (hg : WGB g) (h : RI E g S) : ∃ S', m_X7_build S (nI t) (nI c) = some (enA (aB E (2 * t + c) g).1, S') ∧ RI E (aB E (2 * t + c) g).2 S' ∧ S'.1 47 0 = 0 := by
  have hn : 2 * t + c < 32 := by omega
  obtain ⟨a1, a2, a3, a4, a5, a6, a7, a8⟩ := h
  unfold m_X7_build m_X7_build_J14 m_X7_goes
  rw [isNode_v ht hc, zo_e, if_neg (by decide), zb_e, if_pos (by decide), zo2_e, if_neg (by decide)]
  obtain ⟨S1, b1, b2, b3, b4⟩ := b24_l (p1 := nI t) (p2 := nI c) (S0 := wi S 47 0 (nI 0)) FU 4 0 _ (by omega) (FU_gt (by omega)) (fun j hj => by omega) (fun _ _ _ => rfl) rfl
  obtain ⟨S2, c1, c2, c3, c4⟩ := b44_l (p1 := nI t) (p2 := nI c) (S0 := S1) FU 32 0 S1 (by omega) (FU_gt (by omega)) (fun j hj => by omega) (fun _ _ _ _ _ => rfl) rfl
  have e1 : ∀ k j, ¬ k = 31 → ¬ k = 32 → ¬ k = 24 → ¬ k = 33 → ¬ k = 47 → ¬ k = 43 → (wi S2 43 0 (nI 0)).1 k j = S.1 k j := fun k j q1 q2 q3 q4 q5 q6 => by
    rw [wi_ne (by omega), c3 k j q1 q2 q3, b3 k j q4, wi_ne (by omega)]
  have e2 : (wi S2 43 0 (nI 0)).2 = S.2 := by rw [wi_2, c4, b4]; rfl
  rw [b1, c1, pk_mul, nI_add]
  obtain ⟨S3, d1, d2, d47⟩ := looksB (S := wi S2 43 0 (nI 0)) hE hn hg (FilT_eq a1 (fun k i hk => e1 k i (by omega) (by omega) (by omega) (by omega) (by omega) (by omega))) (RrT_eq a2 (fun k i hk => e1 k i (by omega) (by omega) (by omega) (by omega) (by omega) (by omega))) (by rw [wi_at]; rfl) (MaR_eq a4 rfl rfl rfl rfl rfl (fun k i _ _ => e1 k i (by omega) (by omega) (by omega) (by omega) (by omega) (by omega))) (KeI_eq a5 (fun k i _ _ => e1 k i (by omega) (by omega) (by omega) (by omega) (by omega) (by omega)) (fun k i _ _ => by rw [e2])) (CaR_eq a6 (fun k i _ => e1 k i (by omega) (by omega) (by omega) (by omega) (by omega) (by omega)) (fun i => by rw [e2])) (fun j hj => by rw [wi_ne (by omega)]; exact (c2 j hj).2.2) (fun j hj => by rw [wi_ne (by omega)]; exact (c2 j hj).1) (fun j hj => by rw [wi_ne (by omega)]; exact (c2 j hj).2.1) (fun j hj => by rw [wi_ne (by omega), c3 33 j (by omega) (by omega) (by omega)]; exact b2 j hj)
  rw [d1, zo2_e]
  obtain ⟨w1, w2, w3⟩ := alook_c hE false 32 (2 * t + c) (gst g) hn (WG_gst hg)
  unfold aB
  clear d1
  generalize alook false E 32 (2 * t + c) (gst g) = P at d2 w1 w2 w3 ⊢
  obtain ⟨ans, g'⟩ := P
  obtain ⟨f1, f2, f3, f4, f5, f6, f7⟩ := d2
  obtain ⟨S4, x1, x2, x3, x4⟩ := b95_l (x := enA ans) f4 FU 32 0 S3 (by omega) (FU_gt (by omega)) (fun j hj => by rw [if_neg (by omega)]) (fun _ _ _ => rfl) rfl
  refine ⟨S4, x1, ⟨FilT_eq f1.1 (fun k i hk => x3 k i (by omega)), RrT_eq f1.2.1 (fun k i hk => x3 k i (by omega)), by rw [x3 _ _ (by omega)]; exact f2, MaR_eq f3 rfl rfl rfl rfl rfl (fun k i _ _ => x3 k i (by omega)), fun m hm => ?_, CaR_eq f5 (fun k i _ => x3 k i (by omega)) (fun i => by rw [x4]), fun m hm => ?_, CoR_eq f7 rfl rfl (fun i => x3 33 i (by omega))⟩, ?_⟩
  · show (finK g' m = none → _) ∧ ∀ q, finK g' m = some q → _
    refine ⟨fun z => by rw [x2 m hm, z]; rfl, fun q hq => ?_⟩
    have hs := finK_s hq
    obtain ⟨y1, y2, y3, y4, y5, y6, y7, y8⟩ := (f4 m hm).2 q hs.1
    refine ⟨by rw [x2 m hm, hq]; rfl, by rw [x4]; exact y2, by rw [x3 _ _ (by omega)]; exact y3, by rw [x3 _ _ (by omega)]; exact y4, fun j x hx => ?_, by rw [x3 _ _ (by omega)]; exact y6, by rw [x3 _ _ (by omega)]; exact y7⟩
    rw [x3 _ _ (by omega), x3 _ _ (by omega), x4]
    exact y5 j x hx
  · obtain ⟨y1, y2, -⟩ := f6 m hm
    rw [x3 31 m (by omega), x3 32 m (by omega)]
    exact ⟨y1 (no5 w2 m), y2⟩
  · rw [x3 47 0 (by omega), d47, wi_ne (by omega), c3 47 0 (by omega) (by omega) (by omega), b3 47 0 (by omega), wi_at]
    rfl
