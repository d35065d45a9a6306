/-! what came is kept, and comes into the cache -/
theorem kp_l {S0 : St} {n : Nat} {p2 p3 : Int32} (hn : n < 32) : ∀ (k d a : Nat) (S : St), a + d = 5 → d < k → (∀ b, b < a → S.1 19 (5 * n + b) = S0.1 39 (5 * n + b) ∧ S.1 20 (5 * n + b) = S0.1 40 (5 * n + b) ∧ S.2 21 (5 * n + b) = S0.2 41 (5 * n + b)) →
    (∀ k i, ¬ ((k = 19 ∨ k = 20) ∧ 5 * n ≤ i ∧ i < 5 * n + 5) → S.1 k i = S0.1 k i) → (∀ k i, ¬ (k = 21 ∧ 5 * n ≤ i ∧ i < 5 * n + 5) → S.2 k i = S0.2 k i) →
    ∃ S', zl2 (m_X7_keeps_B61 (nI n) p2 p3) k S (nI (5 * n + a)) = some (wi (wi S' 22 n p2) 23 n p3) ∧ (∀ b, b < 5 → S'.1 19 (5 * n + b) = S0.1 39 (5 * n + b) ∧ S'.1 20 (5 * n + b) = S0.1 40 (5 * n + b) ∧ S'.2 21 (5 * n + b) = S0.2 41 (5 * n + b)) ∧
    (∀ k i, ¬ ((k = 19 ∨ k = 20) ∧ 5 * n ≤ i ∧ i < 5 * n + 5) → S'.1 k i = S0.1 k i) ∧ ∀ k i, ¬ (k = 21 ∧ 5 * n ≤ i ∧ i < 5 * n + 5) → S'.2 k i = S0.2 k i := by
  intro k
  induction k with
  | zero => intro d a S _ h; omega
  | succ k ih =>
    intro d a S h1 h2 h3 h4 h5
    show ∃ S', m_X7_keeps_B61 (nI n) p2 p3 (zl2 (m_X7_keeps_B61 (nI n) p2 p3) k) S (nI (5 * n + a)) = _ ∧ _
    generalize zl2 (m_X7_keeps_B61 (nI n) p2 p3) k = G at ih ⊢
    unfold m_X7_keeps_B61
    simp only [pk_mul, nI_add, zb_e]
    match d, h1, h2 with
    | 0, h1, h2 =>
      rw [if_pos (by rw [le_nI (by omega) (by omega)]; omega), zg_in hn (by omega), zg_in hn (by omega), tn (by omega)]
      exact ⟨S, rfl, fun b hb => h3 b (by omega), h4, h5⟩
    | d + 1, h1, h2 =>
      rw [if_neg (by rw [le_nI (by omega) (by omega)]; omega)]
      simp only [zg_in (show 5 * n + a < 160 by omega) (show 160 ≤ 2147483648 by omega), tn (show 5 * n + a < 2147483648 by omega), ri_n (show 5 * n + a < 2147483648 by omega), rj_n (show 5 * n + a < 2147483648 by omega)]
      rw [show 5 * n + a + 1 = 5 * n + (a + 1) by omega]
      have e40 : (wi S 19 (5 * n + a) (S.1 39 (5 * n + a))).1 40 (5 * n + a) = S0.1 40 (5 * n + a) := by rw [wi_ne (by omega)]; exact h4 _ _ (by omega)
      have e39 : S.1 39 (5 * n + a) = S0.1 39 (5 * n + a) := h4 _ _ (by omega)
      have e41 : (wi (wi S 19 (5 * n + a) (S.1 39 (5 * n + a))) 20 (5 * n + a) ((wi S 19 (5 * n + a) (S.1 39 (5 * n + a))).1 40 (5 * n + a))).2 41 (5 * n + a) = S0.2 41 (5 * n + a) := h5 _ _ (by omega)
      rw [e41, e40, e39]
      refine ih d (a + 1) _ (by omega) (by omega) (fun b hb => ?_) (fun k2 i q => ?_) (fun k2 i q => ?_)
      · by_cases hba : b = a
        · subst hba
          rw [wj_1, wi_ne (by omega), wi_at, wi_at, wj_at]
          exact ⟨rfl, rfl, rfl⟩
        · rw [wj_1, wi_ne (by omega), wi_ne (by omega), wi_ne (by omega), wi_ne (by omega), wj_ne (by omega)]
          exact h3 b (by omega)
      · rw [wj_1, wi_ne (by omega), wi_ne (by omega)]; exact h4 k2 i q
      · rw [wj_ne (by omega)]; exact h5 k2 i q
/-- all but the counts -/
def RBn (E : Ev) (g : Gs) (S : St) : Prop := RR0 E g S ∧ S.1 43 0 = 0 ∧ MaR E g S ∧ KeR (gK g) (gAw g) S ∧ CaR (gL g) S ∧ DoR g S
theorem RB_n {E : Ev} {g : Gs} {S : St} (h : RB E g S) : RBn E g S := ⟨h.1, h.2.1, h.2.2.1, h.2.2.2.1, h.2.2.2.2.1, h.2.2.2.2.2.1⟩
theorem RBn_C {E : Ev} {g : Gs} {S : St} (h : RBn E g S) (hC : CoR g S) : RB E g S := ⟨h.1, h.2.1, h.2.2.1, h.2.2.2.1, h.2.2.2.2.1, h.2.2.2.2.2, hC⟩
theorem rkeep_v {E : Ev} {g : Gs} {S : St} {n i v f : Nat} {r : Rul} {ws : List Rd} (hn : n < 32) (hr : RulOK r) (hg : WG g) (hρ : eρ E (n / 2) = some r) (hl : ws.length ≤ 5) (hI : IP n i ws S) (hf : gAw g f = false) (h : RBn E g S) :
    ∃ S', m_X7_keeps S (nI n) (nI v) (nI f) = some S' ∧ RBn E (sK g (fu (gK g) n (some (r, ws, v, f)))) S' ∧ OUS S S' ∧ S'.1 27 = S.1 27 ∧ S'.1 33 = S.1 33 := by
  obtain ⟨a1, a2, a3, a4, a5, a6⟩ := h
  have hM := (a1.2.1 (n / 2) (by omega)).2 r hρ
  unfold m_X7_keeps
  rw [div_nI (by omega) (by omega) (by omega), zb_e]
  simp only [zg_in hn (show 32 ≤ 2147483648 by omega), tn (show n < 2147483648 by omega), zb_e, ri_n (show n < 2147483648 by omega), zg_in (show n / 2 < 16 by omega) (show 16 ≤ 2147483648 by omega), ri_n (show n / 2 < 2147483648 by omega), pk_mul]
  have hM3 : RrM (wi (wi S 15 n (nI 1)) 24 n (nI 0)) (n / 2) r := RrM_eq hM (fun k j hk => by rw [wi_ne (by omega), wi_ne (by omega)])
  rw [ruleOf_v (by omega) hr hM3, zo_e]
  have e4 : (wj (wi (wi S 15 n (nI 1)) 24 n (nI 0)) 16 n (lN (encR r))).1 4 (n / 2) = nI (tm r) := by
    rw [wj_1, wi_ne (by omega), wi_ne (by omega)]; exact hM.2.2.2.1
  rw [e4]
  have e38 : (wi (wj (wi (wi S 15 n (nI 1)) 24 n (nI 0)) 16 n (lN (encR r))) 17 n (nI (tm r))).1 38 n = nI ws.length := by
    rw [wi_ne (by omega), wj_1, wi_ne (by omega), wi_ne (by omega)]; exact hI.2.2.1
  rw [e38]
  generalize hS7 : wi (wi (wj (wi (wi S 15 n (nI 1)) 24 n (nI 0)) 16 n (lN (encR r))) 17 n (nI (tm r))) 18 n (nI ws.length) = S7
  have f1 : ∀ k j, ¬ (k = 15 ∧ j = n) → ¬ (k = 24 ∧ j = n) → ¬ (k = 17 ∧ j = n) → ¬ (k = 18 ∧ j = n) → S7.1 k j = S.1 k j := fun k j q1 q2 q3 q4 => by
    rw [← hS7, wi_ne q4, wi_ne q3, wj_1, wi_ne q2, wi_ne q1]
  have f2 : ∀ k j, ¬ (k = 16 ∧ j = n) → S7.2 k j = S.2 k j := fun k j q => by
    rw [← hS7, wi_2, wi_2, wj_ne q, wi_2, wi_2]
  have v15 : S7.1 15 n = nI 1 := by rw [← hS7, wi_ne (by omega), wi_ne (by omega), wj_1, wi_ne (by omega), wi_at]
  have v24 : S7.1 24 n = nI 0 := by rw [← hS7, wi_ne (by omega), wi_ne (by omega), wj_1, wi_at]
  have v17 : S7.1 17 n = nI (tm r) := by rw [← hS7, wi_ne (by omega), wi_at]
  have v18 : S7.1 18 n = nI ws.length := by rw [← hS7, wi_at]
  have v16 : S7.2 16 n = lN (encR r) := by rw [← hS7, wi_2, wi_2, wj_at]
  obtain ⟨S8, c1, c2, c3, c4⟩ := kp_l (S0 := S7) (p2 := nI v) (p3 := nI f) hn FU 5 0 S7 (by omega) (FU_gt (by omega)) (fun b hb => by omega) (fun _ _ _ => rfl) (fun _ _ _ => rfl)
  rw [Nat.add_zero] at c1
  have g1 : ∀ k j, ¬ (k = 15 ∧ j = n) → ¬ (k = 24 ∧ j = n) → ¬ (k = 17 ∧ j = n) → ¬ (k = 18 ∧ j = n) → ¬ ((k = 19 ∨ k = 20) ∧ 5 * n ≤ j ∧ j < 5 * n + 5) → ¬ (k = 22 ∧ j = n) → ¬ (k = 23 ∧ j = n) → (wi (wi S8 22 n (nI v)) 23 n (nI f)).1 k j = S.1 k j := fun k j q1 q2 q3 q4 q5 q6 q7 => by
    rw [wi_ne q7, wi_ne q6, c3 k j q5, f1 k j q1 q2 q3 q4]
  have g2 : ∀ k j, ¬ (k = 16 ∧ j = n) → ¬ (k = 21 ∧ 5 * n ≤ j ∧ j < 5 * n + 5) → (wi (wi S8 22 n (nI v)) 23 n (nI f)).2 k j = S.2 k j := fun k j q1 q2 => (c4 k j q2).trans (f2 k j q1)
  refine ⟨_, c1, ⟨RR0_eq a1 rfl rfl (fun k j z => g1 k j (by omega) (by omega) (by omega) (by omega) (by omega) (by omega) (by omega)), by rw [g1 _ _ (by omega) (by omega) (by omega) (by omega) (by omega) (by omega) (by omega)]; exact a2, MaR_eq a3 rfl rfl rfl rfl rfl (fun k j _ _ => g1 k j (by omega) (by omega) (by omega) (by omega) (by omega) (by omega) (by omega)), fun m hm => ?_, CaR_eq a5 (fun k j _ => g1 k j (by omega) (by omega) (by omega) (by omega) (by omega) (by omega) (by omega)) (fun j => g2 _ j (by omega) (by omega)), DoR_eq a6 rfl rfl (fun k j _ => g1 k j (by omega) (by omega) (by omega) (by omega) (by omega) (by omega) (by omega))⟩, OUS_lo (fun k j _ _ => g1 k j (by omega) (by omega) (by omega) (by omega) (by omega) (by omega) (by omega)) (fun k j _ => g2 k j (by omega) (by omega)), funext (fun j => g1 27 j (by omega) (by omega) (by omega) (by omega) (by omega) (by omega) (by omega)), funext (fun j => g1 33 j (by omega) (by omega) (by omega) (by omega) (by omega) (by omega) (by omega))⟩
  show (fu (gK g) n (some (r, ws, v, f)) m = none → _) ∧ ∀ q, fu (gK g) n (some (r, ws, v, f)) m = some q → KeR1 m q (gAw g) _
  by_cases h1 : m = n
  · subst h1
    rw [fu_s]
    refine ⟨fun z => (by cases z), fun q hq => ?_⟩
    cases hq
    refine ⟨?_, (c4 16 m (by omega)).trans v16, ?_, ?_, fun j x hx => ?_, ?_, wi_at, ?_⟩
    · rw [wi_ne (by omega), wi_ne (by omega), c3 15 m (by omega)]; exact v15
    · rw [wi_ne (by omega), wi_ne (by omega), c3 17 m (by omega)]; exact v17
    · rw [wi_ne (by omega), wi_ne (by omega), c3 18 m (by omega)]; exact v18
    · have hj := (List.getElem?_eq_some_iff.mp hx).1
      have hj : j < ws.length := hj
      obtain ⟨d1, d2, d3⟩ := c2 j (by omega)
      obtain ⟨i1, i2, i3, i4⟩ := hI
      obtain ⟨e1, e2, e3⟩ := i4 j x hx
      refine ⟨?_, fun q4 => ?_, ?_⟩
      · rw [wi_ne (by omega), wi_ne (by omega), d1, f1 39 _ (by omega) (by omega) (by omega) (by omega)]; exact e1
      · rw [wi_ne (by omega), wi_ne (by omega), d2, f1 40 _ (by omega) (by omega) (by omega) (by omega), e2, if_pos q4]
      · rw [wi_2, wi_2, d3, f2 41 _ (by omega)]; exact e3
    · rw [wi_ne (by omega), wi_at]
    · rw [wi_ne (by omega), wi_ne (by omega), c3 24 m (by omega), v24]
      show nI 0 = bI (gAw g f)
      rw [hf]
      rfl
  · rw [fu_n h1]
    obtain ⟨b1, b2⟩ := a4 m hm
    refine ⟨fun z => ?_, fun q hq => ?_⟩
    · rw [g1 15 m (by omega) (by omega) (by omega) (by omega) (by omega) (by omega) (by omega)]; exact b1 z
    · have kq := hg.1 m q hq
      have hlq := WFr_le kq.1 kq.2.2.1
      obtain ⟨d1, d2, d3, d4, d5, d6, d7, d8⟩ := b2 q hq
      unfold KeR1
      rw [g1 15 m (by omega) (by omega) (by omega) (by omega) (by omega) (by omega) (by omega), g2 16 m (by omega) (by omega), g1 17 m (by omega) (by omega) (by omega) (by omega) (by omega) (by omega) (by omega), g1 18 m (by omega) (by omega) (by omega) (by omega) (by omega) (by omega) (by omega), g1 22 m (by omega) (by omega) (by omega) (by omega) (by omega) (by omega) (by omega), g1 23 m (by omega) (by omega) (by omega) (by omega) (by omega) (by omega) (by omega), g1 24 m (by omega) (by omega) (by omega) (by omega) (by omega) (by omega) (by omega)]
      refine ⟨d1, d2, d3, d4, fun j x hx => ?_, d6, d7, d8⟩
      have hj := (List.getElem?_eq_some_iff.mp hx).1
      rw [g1 19 _ (by omega) (by omega) (by omega) (by omega) (by omega) (by omega) (by omega), g1 20 _ (by omega) (by omega) (by omega) (by omega) (by omega) (by omega) (by omega), g2 21 _ (by omega) (by omega)]
      exact d5 j x hx
theorem ad_l {S0 : St} {len : Nat} {p1 x7 x8 : Int32} (hl : len ≤ 100) : ∀ (k d a : Nat) (S : St), a + d = 6 → d < k → (∀ b, b < a → S.2 26 (6 * len + b) = S0.2 42 b) → S.1 = S0.1 → (∀ k i, ¬ (k = 26 ∧ 6 * len ≤ i) → S.2 k i = S0.2 k i) →
    ∃ S', zl2 (m_X7_runs_B184 (nI len) x8 x7 p1) k S (nI a) = (if rs (wi (wi S' 27 len x8) 28 len x7) 25 ≤ nI 100 then
      (zo (m_X7_keeps (wi (wi S' 27 len x8) 28 len x7) p1 x8 x7) fun S16 => zo (m_X7_finishes S16 p1 x8 (nI 3)) fun S17 => some S17)
      else zo (m_X7_drops (wi (wi S' 27 len x8) 28 len x7) (nI 0)) fun S18 => zo (m_X7_keeps S18 p1 x8 x7) fun S19 => zo (m_X7_finishes S19 p1 x8 (nI 3)) fun S20 => some S20) ∧ (∀ b, b < 6 → S'.2 26 (6 * len + b) = S0.2 42 b) ∧ S'.1 = S0.1 ∧ ∀ k i, ¬ (k = 26 ∧ 6 * len ≤ i) → S'.2 k i = S0.2 k i := by
  intro k
  induction k with
  | zero => intro d a S _ h; omega
  | succ k ih =>
    intro d a S h1 h2 h3 h4 h5
    show ∃ S', m_X7_runs_B184 (nI len) x8 x7 p1 (zl2 (m_X7_runs_B184 (nI len) x8 x7 p1) k) S (nI a) = _ ∧ _
    generalize zl2 (m_X7_runs_B184 (nI len) x8 x7 p1) k = G at ih ⊢
    unfold m_X7_runs_B184
    simp only [pk_mul, nI_add, zb_e]
    match d, h1, h2 with
    | 0, h1, h2 =>
      rw [if_pos (by rw [le_nI (by omega) (by omega)]; omega), zg_in (show len < 101 by omega) (by omega), zg_in (show len < 101 by omega) (by omega), tn (by omega)]
      exact ⟨S, rfl, fun b hb => h3 b (by omega), h4, h5⟩
    | d + 1, h1, h2 =>
      rw [if_neg (by rw [le_nI (by omega) (by omega)]; omega), zg_in (show a < 6 by omega) (by omega), zg_in (show 6 * len + a < 606 by omega) (by omega), tn (by omega), rj_n (by omega)]
      refine ih d (a + 1) _ (by omega) (by omega) (fun b hb => ?_) h4 (fun k2 i q => ?_)
      · by_cases hba : b = a
        · subst hba
          rw [wj_at, h5 42 b (by omega)]
        · rw [wj_ne (by omega)]; exact h3 b (by omega)
      · rw [wj_ne (by omega)]; exact h5 k2 i q
theorem radd_v {E : Ev} {g : Gs} {S : St} {n v f : Nat} {r : Rul} {ws : List Rd} (hg : WG g) (hK : KEY r (n % 2) ws S) (h : RB E g S) : ∃ S', m_X7_runs_J165 (nI n) S (nI f) (nI v) = (zo (m_X7_keeps S' (nI n) (nI v) (nI f)) fun S16 => zo (m_X7_finishes S16 (nI n) (nI v) (nI 3)) fun S17 => some S17) ∧ RB E (aadd (r, n % 2, ws, v, f) g) S' ∧ OUS S S' := by
  have k3 := hg.2.2.1
  obtain ⟨a1, a2, a3, a4, a5, a6, a7⟩ := h
  have e25 : rs S 25 = nI (gL g).length := a5.1
  unfold m_X7_runs_J165
  rw [e25, zb_e, nI_add, zb_e]
  obtain ⟨S2, c1, c2, c3, c4⟩ := ad_l (S0 := wi S 25 0 (nI ((gL g).length + 1))) (len := (gL g).length) (p1 := nI n) (x7 := nI f) (x8 := nI v) k3 FU 6 0 (wi S 25 0 (nI ((gL g).length + 1))) (by omega) (FU_gt (by omega)) (fun b hb => by omega) rfl (fun _ _ _ => rfl)
  rw [c1]
  generalize hS3 : wi (wi S2 27 (gL g).length (nI v)) 28 (gL g).length (nI f) = S3
  have g1 : ∀ k j, ¬ k = 25 → ¬ (k = 27 ∧ j = (gL g).length) → ¬ (k = 28 ∧ j = (gL g).length) → S3.1 k j = S.1 k j := fun k j q1 q2 q3 => by
    rw [← hS3, wi_ne q3, wi_ne q2, c3, wi_ne (by omega)]
  have g2 : ∀ k j, ¬ (k = 26 ∧ 6 * (gL g).length ≤ j) → S3.2 k j = S.2 k j := fun k j q => by
    rw [← hS3, wi_2, wi_2, c4 k j q, wi_2]
  have hC3 : CaR (gL g ++ [(r, n % 2, ws, v, f)]) S3 := by
    refine ⟨?_, fun i e he => ?_⟩
    · rw [List.length_append, ← hS3, wi_ne (by omega), wi_ne (by omega), c3, wi_at]
      rfl
    · have hi := (List.getElem?_eq_some_iff.mp he).1
      rw [List.length_append, List.length_singleton] at hi
      by_cases h1 : i < (gL g).length
      · rw [List.getElem?_append_left h1] at he
        obtain ⟨d1, d2, d3, d4⟩ := a5.2 i e he
        refine ⟨by rw [g2 _ _ (by omega)]; exact d1, fun j hj => by rw [g2 _ _ (by omega)]; exact d2 j hj, by rw [g1 _ _ (by omega) (by omega) (by omega)]; exact d3, by rw [g1 _ _ (by omega) (by omega) (by omega)]; exact d4⟩
      · have h2 : i = (gL g).length := by omega
        subst h2
        rw [List.getElem?_append_right (Nat.le_refl _), Nat.sub_self] at he
        cases he
        refine ⟨?_, fun j hj => ?_, ?_, ?_⟩
        · have := c2 0 (by omega)
          rw [Nat.add_zero] at this
          rw [← hS3, wi_2, wi_2, this]
          exact hK.1
        · have := c2 (1 + j) (by omega)
          rw [show 6 * (gL g).length + (1 + j) = 6 * (gL g).length + 1 + j by omega] at this
          rw [← hS3, wi_2, wi_2, this]
          exact hK.2 j hj
        · rw [← hS3, wi_ne (by omega), wi_at]
        · rw [← hS3, wi_at]
  have fin : ∀ (g' : Gs) (S' : St), g' = aadd (r, n % 2, ws, v, f) g → CaR (gL g') S' → (∀ k j, ¬ k = 25 → ¬ k = 27 → ¬ k = 28 → S'.1 k j = S.1 k j) → (∀ k j, ¬ k = 26 → S'.2 k j = S.2 k j) → RB E (aadd (r, n % 2, ws, v, f) g) S' ∧ OUS S S' := by
    rintro g' S' rfl hC e1 e2
    refine ⟨⟨RR0_eq a1 rfl rfl (fun k i z => e1 k i (by omega) (by omega) (by omega)), by rw [e1 _ _ (by omega) (by omega) (by omega)]; exact a2, MaR_eq a3 rfl rfl rfl rfl rfl (fun k i _ _ => e1 k i (by omega) (by omega) (by omega)), KeR_eq a4 (fun k i _ => e1 k i (by omega) (by omega) (by omega)) (fun k i _ => e2 k i (by omega)), hC, DoR_eq a6 rfl rfl (fun k i _ => e1 k i (by omega) (by omega) (by omega)), CoR_eq a7 rfl rfl (fun i => e1 _ i (by omega) (by omega) (by omega))⟩, OUS_lo (fun k i _ _ => e1 k i (by omega) (by omega) (by omega)) (fun k i _ => e2 k i (by omega))⟩
  have hlen : (gL g ++ [(r, n % 2, ws, v, f)]).length = (gL g).length + 1 := by rw [List.length_append]; rfl
  have e25b : rs S3 25 = nI ((gL g).length + 1) := by rw [← hlen]; exact hC3.1
  rw [e25b]
  by_cases hf : (gL g).length + 1 ≤ 100
  · rw [if_pos (by rw [le_nI (by omega) (by omega)]; exact hf)]
    have hgl : gL (aadd (r, n % 2, ws, v, f) g) = gL g ++ [(r, n % 2, ws, v, f)] := if_neg (by omega)
    obtain ⟨x1, x2⟩ := fin _ S3 rfl (by rw [hgl]; exact hC3) (fun k j q1 q2 q3 => g1 k j q1 (by omega) (by omega)) (fun k j q => g2 k j (by omega))
    exact ⟨S3, rfl, x1, x2⟩
  · rw [if_neg (by rw [le_nI (by omega) (by omega)]; exact hf)]
    have hgl : gL (aadd (r, n % 2, ws, v, f) g) = (gL g ++ [(r, n % 2, ws, v, f)]).drop 1 := if_pos (by omega)
    obtain ⟨S4, d1, d2, d3, d4⟩ := drops_v hC3 (by omega) (i := 0) (by omega)
    rw [d1, zo_e]
    have he : (gL g ++ [(r, n % 2, ws, v, f)]).eraseIdx 0 = (gL g ++ [(r, n % 2, ws, v, f)]).drop 1 := by
      cases gL g ++ [(r, n % 2, ws, v, f)] <;> rfl
    rw [he] at d2
    obtain ⟨x1, x2⟩ := fin _ S4 rfl (by rw [hgl]; exact d2) (fun k j q1 q2 q3 => (d3 k j q1 q2 q3).trans (g1 k j q1 (by omega) (by omega))) (fun k j q => (d4 k j q).trans (g2 k j (by omega)))
    exact ⟨S4, rfl, x1, x2⟩
