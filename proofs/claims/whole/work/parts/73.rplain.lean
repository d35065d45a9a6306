/-! the reference's plain build -/
theorem lp15_l {p1 x1 x2 : Int32} {S0 : St} : ∀ (k d i : Nat) (S : St), i + d = 32 → d < k → (∀ j, j < i → S.1 45 j = S0.1 31 j ∧ S.1 46 j = S0.1 32 j) → (∀ k j, ¬ k = 45 → ¬ k = 46 → S.1 k j = S0.1 k j) → S.2 = S0.2 →
    ∃ S', zl2 (m_X7_looksPlain_B15 p1 x1 x2) k S (nI i) = (zo2 (m_X7_looks (wi S' 43 0 (nI 1)) p1) fun x6 S7 => zl2 (m_X7_looksPlain_B88 x6) FU (wi (wi (wi S7 43 0 (nI 0)) 33 3 x1) 14 0 x2) (nI 0)) ∧ (∀ j, j < 32 → S'.1 45 j = S0.1 31 j ∧ S'.1 46 j = S0.1 32 j) ∧ (∀ k j, ¬ k = 45 → ¬ k = 46 → S'.1 k j = S0.1 k j) ∧ S'.2 = S0.2 := by
  intro k
  induction k with
  | zero => intro d i S _ h; omega
  | succ k ih =>
    intro d i S h1 h2 h3 h4 h5
    show ∃ S', m_X7_looksPlain_B15 p1 x1 x2 (zl2 (m_X7_looksPlain_B15 p1 x1 x2) k) S (nI i) = _ ∧ _
    generalize zl2 (m_X7_looksPlain_B15 p1 x1 x2) k = G at ih ⊢
    unfold m_X7_looksPlain_B15
    match d, h1, h2 with
    | 0, h1, h2 =>
      rw [if_pos (by rw [le_nI (by omega) (by omega)]; omega)]
      simp only [zg_in (show 3 < 4 by omega) (show 4 ≤ 2147483648 by omega), tn (show 3 < 2147483648 by omega), zb_e]
      exact ⟨S, rfl, fun j hj => h3 j (by omega), h4, h5⟩
    | d + 1, h1, h2 =>
      rw [if_neg (by rw [le_nI (by omega) (by omega)]; omega)]
      simp only [zg_in (show i < 32 by omega) (show 32 ≤ 2147483648 by omega), tn (show i < 2147483648 by omega), ri_n (show i < 2147483648 by omega), nI_add, zb_e]
      rw [show (wi S 45 i (S.1 31 i)).1 32 i = S.1 32 i from wi_ne (by omega), h4 31 i (by omega) (by omega), h4 32 i (by omega) (by omega)]
      refine ih d (i + 1) _ (by omega) (by omega) (fun j hj => ?_) (fun k2 j q1 q2 => by rw [wi_ne (by omega), wi_ne (by omega)]; exact h4 k2 j q1 q2) h5
      by_cases hji : j = i
      · subst hji
        rw [wi_ne (by omega), wi_at, wi_at]
        exact ⟨rfl, rfl⟩
      · rw [wi_ne (by omega), wi_ne (by omega), wi_ne (by omega), wi_ne (by omega)]
        exact h3 j (by omega)
theorem lp88_l {x : Int32} {S0 : St} : ∀ (k d i : Nat) (S : St), i + d = 32 → d < k → (∀ j, j < i → S.1 31 j = S0.1 45 j ∧ S.1 32 j = S0.1 46 j) → (∀ k j, ¬ k = 31 → ¬ k = 32 → S.1 k j = S0.1 k j) → S.2 = S0.2 →
    ∃ S', zl2 (m_X7_looksPlain_B88 x) k S (nI i) = some (x, S') ∧ (∀ j, j < 32 → S'.1 31 j = S0.1 45 j ∧ S'.1 32 j = S0.1 46 j) ∧ (∀ k j, ¬ k = 31 → ¬ k = 32 → S'.1 k j = S0.1 k j) ∧ S'.2 = S0.2 := by
  intro k
  induction k with
  | zero => intro d i S _ h; omega
  | succ k ih =>
    intro d i S h1 h2 h3 h4 h5
    show ∃ S', m_X7_looksPlain_B88 x (zl2 (m_X7_looksPlain_B88 x) k) S (nI i) = _ ∧ _
    generalize zl2 (m_X7_looksPlain_B88 x) k = G at ih ⊢
    unfold m_X7_looksPlain_B88
    match d, h1, h2 with
    | 0, h1, h2 =>
      rw [if_pos (by rw [le_nI (by omega) (by omega)]; omega)]
      exact ⟨S, rfl, fun j hj => h3 j (by omega), h4, h5⟩
    | d + 1, h1, h2 =>
      rw [if_neg (by rw [le_nI (by omega) (by omega)]; omega)]
      simp only [zg_in (show i < 32 by omega) (show 32 ≤ 2147483648 by omega), tn (show i < 2147483648 by omega), ri_n (show i < 2147483648 by omega), nI_add, zb_e]
      rw [show (wi S 31 i (S.1 45 i)).1 46 i = S.1 46 i from wi_ne (by omega), h4 45 i (by omega) (by omega), h4 46 i (by omega) (by omega)]
      refine ih d (i + 1) _ (by omega) (by omega) (fun j hj => ?_) (fun k2 j q1 q2 => by rw [wi_ne (by omega), wi_ne (by omega)]; exact h4 k2 j q1 q2) h5
      by_cases hji : j = i
      · subst hji
        rw [wi_ne (by omega), wi_at, wi_at]
        exact ⟨rfl, rfl⟩
      · rw [wi_ne (by omega), wi_ne (by omega), wi_ne (by omega), wi_ne (by omega)]
        exact h3 j (by omega)
theorem rplain_v {E : Ev} {g : Gs} {S : St} {n : Nat} (hE : EvOK E) (hn : n < 32) (hg : WGB g) (h : RI E g S) : ∃ S', m_X7_looksPlain S (nI n) = some (enA (aP E n g).1, S') ∧ RI E g S' ∧ LoR (aP E n g).2 S' ∧ ReR (aP E n g).2 S' ∧ S'.1 47 0 = S.1 47 0 := by
  obtain ⟨a1, a2, a3, a4, a5, a6, a7, a8⟩ := h
  unfold m_X7_looksPlain
  rw [zg_in (by omega) (by omega), ri_n (by omega), zb_e, zb_e]
  obtain ⟨S1, b1, b2, b3, b4⟩ := lp15_l (p1 := nI n) (x1 := S.1 33 3) (x2 := rs S 14) (S0 := S) FU 32 0 S (by omega) (FU_gt (by omega)) (fun j hj => by omega) (fun _ _ _ _ => rfl) rfl
  have e1 : ∀ k j, ¬ k = 45 → ¬ k = 46 → ¬ k = 43 → (wi S1 43 0 (nI 1)).1 k j = S.1 k j := fun k j q1 q2 q3 => by
    rw [wi_ne (by omega)]; exact b3 k j q1 q2
  have e2 : (wi S1 43 0 (nI 1)).2 = S.2 := b4
  obtain ⟨S2, c1, c2⟩ := looksP (S := wi S1 43 0 (nI 1)) hE hn hg (FilT_eq a1 (fun k i hk => e1 k i (by omega) (by omega) (by omega))) (RrT_eq a2 (fun k i hk => e1 k i (by omega) (by omega) (by omega))) wi_at
  rw [b1, c1, zo2_e]
  obtain ⟨f1, f2, f3, f4, f5, f6⟩ := c2
  obtain ⟨S3, x1, x2, x3, x4⟩ := lp88_l (x := enA (alook true E 32 n (gst g)).1) (S0 := wi (wi (wi S2 43 0 (nI 0)) 33 3 (S.1 33 3)) 14 0 (rs S 14)) FU 32 0 _ (by omega) (FU_gt (by omega)) (fun j hj => by omega) (fun _ _ _ _ => rfl) rfl
  have g1 : ∀ k j, k < 29 → S3.1 k j = S.1 k j := fun k j hk => by
    rw [x3 k j (by omega) (by omega)]
    by_cases h14 : k = 14 ∧ j = 0
    · obtain ⟨rfl, rfl⟩ := h14
      rw [wi_at]; rfl
    · rw [wi_ne h14, wi_ne (by omega), wi_ne (by omega), f3 k j (by omega)]
      exact e1 k j (by omega) (by omega) (by omega)
  have g2 : ∀ k j, ¬ k = 41 → ¬ k = 42 → S3.2 k j = S.2 k j := fun k j q1 q2 => by
    rw [x4, wi_2, wi_2, wi_2, f5 k j q1 q2, e2]
  refine ⟨S3, x1, ⟨FilT_eq a1 (fun k i hk => g1 k i (by omega)), RrT_eq a2 (fun k i hk => g1 k i (by omega)), ?_, MaR_eq a4 rfl rfl rfl rfl rfl (fun k i _ _ => g1 k i (by omega)), KeI_eq a5 (fun k i _ _ => g1 k i (by omega)) (fun k i _ _ => g2 k i (by omega) (by omega)), CaR_eq a6 (fun k i _ => g1 k i (by omega)) (fun i => g2 26 i (by omega) (by omega)), fun m hm => ?_, CoR_eq a8 rfl rfl (fun i => ?_)⟩, LoR_eq f1.2.2.1 rfl rfl (fun k i hk => ?_), fun m hm hd => ?_, ?_⟩
  · rw [x3 43 0 (by omega) (by omega), wi_ne (by omega), wi_ne (by omega), wi_at]; rfl
  · obtain ⟨y1, y2⟩ := x2 m hm
    obtain ⟨z1, z2⟩ := b2 m hm
    rw [y1, y2, wi_ne (by omega), wi_ne (by omega), wi_ne (by omega), f3 45 m (by omega), wi_ne (by omega), wi_ne (by omega), wi_ne (by omega), wi_ne (by omega), f3 46 m (by omega), wi_ne (by omega), z1, z2]
    exact a7 m hm
  · rw [x3 33 i (by omega) (by omega), wi_ne (by omega)]
    by_cases hi : i = 3
    · subst hi; rw [wi_at]
    · rw [wi_ne (by omega), wi_ne (by omega), f4 i hi]
      exact e1 33 i (by omega) (by omega) (by omega)
  · rw [x3 k i (by omega) (by omega), wi_ne (by omega), wi_ne (by omega), wi_ne (by omega)]
  · obtain ⟨y0, y1, y2⟩ := f6 m hm hd
    refine ⟨y0, ?_, fun j x hx => ?_⟩
    · rw [x3 38 m (by omega) (by omega), wi_ne (by omega), wi_ne (by omega), wi_ne (by omega)]; exact y1
    · rw [x3 39 _ (by omega) (by omega), wi_ne (by omega), wi_ne (by omega), wi_ne (by omega)]; exact y2 j x hx
  · rw [x3 47 0 (by omega) (by omega), wi_ne (by omega), wi_ne (by omega), wi_ne (by omega), f3 47 0 (by omega)]
    exact e1 47 0 (by omega) (by omega) (by omega)
/-! the invariant -/
def INV (k : Nat) (Sc Sr : St) : Prop := ∃ (E : Ev) (g : Gs), EvOK E ∧ WGB g ∧ RC E 0 (32 * (k + 1)) g Sc ∧ RI E g Sr
theorem INV_mono (k : Nat) (Sc Sr : St) (h : INV k Sc Sr) : INV (k + 1) Sc Sr := by
  obtain ⟨E, g, h1, h2, h3, h4⟩ := h
  exact ⟨E, g, h1, h2, RC_T h3 (by omega), h4⟩
theorem RI_47 {E : Ev} {g : Gs} {S : St} {v : Int32} (h : RI E g S) : RI E g (wi S 47 0 v) :=
  RI_eq h rfl rfl rfl rfl rfl (fun k i _ _ => wi_ne (by omega)) (fun _ _ _ => rfl) (MaR_eq h.2.2.2.1 rfl rfl rfl rfl rfl (fun k i _ _ => wi_ne (by omega)))
theorem INV_47 {k : Nat} {Sc Sr : St} {v : Int32} (h : INV k Sc Sr) : INV (k + 1) Sc (wi Sr 47 0 v) := by
  obtain ⟨E, g, h1, h2, h3, h4⟩ := INV_mono k Sc Sr h
  exact ⟨E, g, h1, h2, h3, RI_47 h4⟩
theorem INV_0 : INV 0 S0c S0m := by
  refine ⟨(fun _ => none, fun _ => none, fun _ => false, false), mkG (fun _ => none) [] (fun _ => false) (fun _ => 0) 0 0 0 (fun _ => 0) (fun _ => .inr 0) (fun _ => 0) 0 (fun _ => []), ⟨fun i n h => (by cases h), fun t r h => (by cases h)⟩, ⟨⟨fun n q h => (by cases h), fun e h => (by cases h), Nat.zero_le _, List.Pairwise.nil, by show 0 < 3; omega, Nat.zero_le _, fun t => Nat.zero_le _, fun n => (by show 0 < 1000; omega), rfl, fun e h => (by cases h), fun n q _ h => (by cases h)⟩, fun n q h => (by cases h)⟩, ?_, ?_⟩
  · have t : ∀ k j, k < 12 → S0c.1 k j = blk k := fun k j hk => if_pos hk
    have z : ∀ k j, ¬ k < 12 → S0c.1 k j = 0 := fun k j hk => if_neg hk
    refine ⟨fun i hi => t 0 i (by omega), fun a ha p hp => t 1 _ (by omega), fun n hn p hp => t 2 _ (by omega), ⟨0, ⟨[], rfl, fun m hm => (by cases hm), List.Pairwise.nil, fun m hm => (by cases hm), fun i hi _ p hp => t 3 _ (by omega)⟩, z 13 0 (by omega), ?_⟩, fun m hm => ⟨t 4 _ (by omega), t 4 _ (by omega)⟩, fun a ha => t 5 _ (by omega), z 12 0 (by omega), z 14 0 (by omega), z 15 0 (by omega), z _ 0 (by omega), z _ 0 (by omega), fun n hn => ⟨Nat.zero_le _, t 8 _ (by omega), fun q => absurd rfl q, t 8 _ (by omega)⟩⟩
    have hu : ∀ g : Gs, uG g ≤ 32 := fun g => cntB_le 32
    have := hu (mkG (fun _ => none) [] (fun _ => false) (fun _ => 0) 0 0 0 (fun _ => 0) (fun _ => .inr 0) (fun _ => 0) 0 (fun _ => []))
    omega
  · have t : ∀ k j, k < 2 → S0m.1 k j = -1 := fun k j hk => if_pos hk
    have z : ∀ k j, ¬ k < 2 → S0m.1 k j = 0 := fun k j hk => if_neg hk
    refine ⟨fun i hi => t 0 i (by omega), fun a ha => ⟨fun _ => t 1 a (by omega), fun r hr => (by cases hr)⟩, z 43 0 (by omega), ⟨fun m hm => ⟨z 9 m (by omega), z 10 m (by omega)⟩, fun a ha => z 8 a (by omega), z 11 0 (by omega), z 12 0 (by omega), z 13 0 (by omega), z 14 0 (by omega)⟩, fun n hn => ⟨fun _ => z 15 n (by omega), fun q hq => (by cases hq)⟩, ⟨z 25 0 (by omega), fun i e he => by simp [gL, mkG] at he⟩, fun n hn => ⟨z 31 n (by omega), z 32 n (by omega)⟩, ?_⟩
    refine ⟨z 33 0 (by omega), (z 33 1 (by omega)).trans ?_, (z 33 2 (by omega)).trans ?_, (z 33 3 (by omega)).trans ?_⟩
    · show (0 : Int32) = nI (cntB (fun _ => decide (0 = 2)) 32)
      decide
    · show (0 : Int32) = nI (cntB (fun _ => decide (0 = 1)) 32)
      decide
    · show (0 : Int32) = nI (32 - cntB (fun _ => decide (0 = 0)) 32)
      decide
