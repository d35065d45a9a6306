/-! how long a build takes -/
theorem RI_FK {E : Ev} {g : Gs} {S S' : St} {t : Nat} (h : RI E g S) (ht : 44 ≤ t) (F : FKn t S S') : RI E g S' :=
  RI_eq h rfl rfl rfl rfl rfl (fun k i _ _ => F.1 k i (by omega)) (fun k i _ => by rw [F.2]) (MaR_eq h.2.2.2.1 rfl rfl rfl rfl rfl (fun k i _ _ => F.1 k i (by omega)))
theorem RG_FK {E : Ev} {g : Gs} {S S' : St} {t : Nat} (h : RG E g S) (ht : 45 ≤ t) (F : FKn t S S') : RG E g S' := by
  obtain ⟨h1, h2, h3⟩ := h
  refine ⟨RrT_eq h1 (fun k i hk => F.1 k i (by omega)), fun m hm => ?_, fun i hi hd => by rw [F.1 44 i (by omega)]; exact h3 i hi hd⟩
  rw [F.1 29 m (by omega), F.1 30 m (by omega)]
  exact h2 m hm
theorem t66_l {S4 : St} {n p : Nat} : ∀ (k d i : Nat) (S : St), i + d = 32 → d < k → FKn 46 S4 S → (∀ m, m < i → S.1 46 m = nI 0) → ∃ S', zl2 (m_X7_time_B66 (nI n) (nI p)) k S (nI i) = zl2 (m_X7_time_B90 (nI n) (nI p)) FU S' (nI 0) ∧ RS (fun _ => 0) S4 S' := by
  intro k
  induction k with
  | zero => intro d i S _ h; omega
  | succ k ih =>
    intro d i S h1 h2 h3 h4
    show ∃ S', m_X7_time_B66 (nI n) (nI p) (zl2 (m_X7_time_B66 (nI n) (nI p)) k) S (nI i) = _ ∧ _
    generalize zl2 (m_X7_time_B66 (nI n) (nI p)) k = G at ih ⊢
    unfold m_X7_time_B66
    match d, h1, h2 with
    | 0, h1, h2 =>
      rw [if_pos (by rw [le_nI (by omega) (by omega)]; omega)]
      exact ⟨S, rfl, fun m hm => h4 m (by omega), h3⟩
    | d + 1, h1, h2 =>
      rw [if_neg (by rw [le_nI (by omega) (by omega)]; omega), zg_in (show i < 32 by omega) (by omega), tn (by omega), zb_e, zb_e, nI_add]
      refine ih d (i + 1) _ (by omega) (by omega) (FKn_wi h3) (fun m hm => ?_)
      by_cases hmi : m = i
      · subst hmi; rw [wi_at]
      · rw [wi_ne (by omega)]; exact h4 m (by omega)
theorem enA_n {k : Nat} (h : 2 ≤ k ∧ k ≤ 5) : ¬ 0 ≤ enA (.inl k) := by
  have : k = 2 ∨ k = 3 ∨ k = 4 ∨ k = 5 := by omega
  rcases this with rfl | rfl | rfl | rfl <;> decide
theorem time_v {E : Ev} {T n p v : Nat} {g : Gs} {S0 S1 S2 : St} (hE : EvOK E) (hn : n < 32) (hp1 : 1 ≤ p) (hp : p ≤ 3) (hg : WGB g) (e : (aP E n g).1 = .inr v) (h1 : RP1 E S0 (aP E n g).2 S1) (h2 : RI E g S2) (h3 : LoR (aP E n g).2 S2) (h4 : ReR (aP E n g).2 S2) :
    ∃ w Sc Sr, m_X5_endOf S1 (nI n) (nI p) = some (w, Sc) ∧ (zo (m_X7_laysNeeded S2) fun S8 => zo (m_X7_laysLongest S8 (nI n)) fun S9 => zl2 (m_X7_time_B66 (nI n) (nI p)) FU S9 (nI 0)) = some (w, Sr) ∧ (∀ k, ¬ k = 7 → Sc.1 k = S1.1 k) ∧ RI E g Sr ∧ Sr.1 47 0 = S2.1 47 0 := by
  obtain ⟨p1, p2, p3⟩ := aP_p hE hn hg e
  have p4 := fun k hk => aP_r hE hn hg e (k := k) hk
  generalize (aP E n g).2 = g2 at *
  obtain ⟨rk, hT⟩ := TDO_of hE p1
  have hF := h1.2.2.2.2
  obtain ⟨W, S5, c1, c2, c3, c4, c5⟩ := mw_v hT hF hn p3
  obtain ⟨S3, d1, d2, d3⟩ := ln_l hT p2 h2.2.1 h3 h4 FU 32 0 S2 (by omega) (FU_gt (by omega)) FKn_rf (fun i hi => by omega)
  have hG3 : RG E g2 S3 := ⟨RrT_eq h2.2.1 (fun k i hk => d2.1 k i (by omega)), fun m hm => by
    rw [d2.1 29 m (by omega), d2.1 30 m (by omega)]
    exact h3 m hm, d3⟩
  obtain ⟨W', S4, f1, f2, f3, f4, f5⟩ := ll2_l hT p2 hG3 hn p3 FU 32 0 S3 (by omega) (FU_gt (by omega)) FKn_rf (fun m hm => by omega)
  have hG4 := RG_FK hG3 (by omega) f3
  have hWW := W_u c4 c5 f4 f5
  have hRW : RW W S4 := fun m hm => by rw [hWW m hm]; exact f2 m hm
  obtain ⟨S6, t1, t2⟩ := t66_l (n := n) (p := p) FU 32 0 S4 (by omega) (FU_gt (by omega)) FKn_rf (fun m hm => by omega)
  have hX : TX E g2 rk n W := ⟨hT, hn, p3, fun m hm => ⟨fun hd => all_W hT hn p3 c5 (p4 m hd), fun ⟨v, hv⟩ => (PA_ok hT hn p3 (c4 m v hm hv)).2.1⟩, fun m v hm hv => by
    have := PA_ok hT hn p3 (c4 m v hm hv)
    exact ⟨this.2.2.2, this.2.2.1⟩, p2⟩
  have r0 : rc (fun _ => 0) 0 = 0 := by
    have e : ∀ i, cntB (fun _ => decide (0 < 0)) i = 0 := fun i => by
      induction i with
      | zero => rfl
      | succ i ih =>
        show cntB (fun _ => decide (0 < 0)) i + (if decide (0 < 0) = true then 1 else 0) = 0
        rw [ih]; rfl
    exact e 32
  obtain ⟨w, Sc, Sr, s1, s2, s3, s4⟩ := sim_l hX hF hG4 hRW hp1 hp 33 0 0 (fun _ => 0) S5 S6 FU FU (by omega) (FU_gt (by omega)) (by have : FU = 8192 := rfl; omega) rfl ⟨c2, c3.1, c3.2⟩ t2 ⟨fun _ => Nat.zero_le _, fun _ _ => rfl⟩ (by rw [r0]; omega) (Nat.zero_le _) (Nat.zero_le _)
  refine ⟨w, Sc, Sr, ?_, ?_, s3, ?_, ?_⟩
  · unfold m_X5_endOf
    rw [c1, zo_e]
    exact s1
  · have d1 : m_X7_laysNeeded S2 = some S3 := d1
    have f1 : m_X7_laysLongest S3 (nI n) = some S4 := f1
    have t1 : zl2 (m_X7_time_B66 (nI n) (nI p)) FU S4 (nI 0) = zl2 (m_X7_time_B90 (nI n) (nI p)) FU S6 (nI 0) := t1
    rw [d1, zo_e, f1, zo_e, t1]
    exact s2
  · exact RI_FK (RI_FK (RI_FK h2 (by omega) d2) (by omega) f3) (by omega) s4
  · rw [s4.1 47 0 (by omega), f3.1 47 0 (by omega), d2.1 47 0 (by omega)]
theorem ok_time {k : Nat} {Sc Sr : St} (h : INV k Sc Sr) : OK_time (INV (k + 1)) Sc Sr := by
  intro p1 p2 p3
  by_cases hb : (p1.toInt < 0 ∨ ((16 : Nat) : Int) ≤ p1.toInt) ∨ p2.toInt < 0 ∨ ((2 : Nat) : Int) ≤ p2.toInt
  · refine ⟨.inl 1, nI 0, wi Sr 47 0 (nI 1), ?_, ?_, fun e q => (by cases q; exact ⟨Or.inl rfl, wi_at, INV_47 h⟩), fun r Sd q => (by cases q)⟩
    · unfold m_X6_time
      rw [ron_f hb, zx_l]
    · unfold m_X7_time m_X7_time_J27
      rw [rnd_f hb, zo_e, if_pos (by decide), goes_n (by omega), zo2_e, if_pos (by decide)]
  · rcases idx p1 (n := 16) (by omega) with ⟨t, ht, rfl⟩ | q
    · rcases idx p2 (n := 2) (by omega) with ⟨c, hc2, rfl⟩ | q
      · by_cases h3 : p3.toInt < 1 ∨ 3 < p3.toInt
        · refine ⟨.inl 2, nI 0, wi Sr 47 0 (nI 2), ?_, ?_, fun e q => (by cases q; exact ⟨Or.inr rfl, wi_at, INV_47 h⟩), fun r Sd q => (by cases q)⟩
          · unfold m_X6_time
            rw [ron_t ht hc2, zx_r]
            by_cases h4 : p3.toInt < 1
            · rw [if_pos (by rw [i_lt (by omega)]; omega)]
            · rw [if_neg (by rw [i_lt (by omega)]; omega), if_neg (by rw [i_le (by omega)]; omega)]
          · unfold m_X7_time m_X7_time_J27
            rw [isNode_v ht hc2, zo_e, if_neg (by decide), isIn_f (by omega) (by omega) (by omega), zo_e, if_pos (by decide), goes_n (by omega), zo2_e, if_pos (by decide)]
        · rcases idx p3 (n := 4) (by omega) with ⟨p, hp, rfl⟩ | q
          · rw [nT (by omega)] at h3
            obtain ⟨E, g, hE, hW, hc, hr⟩ := INV_mono k Sc Sr h
            have hn : 2 * t + c < 32 := by omega
            obtain ⟨S1, a1, a2⟩ := startP_v hE hn hW hc
            obtain ⟨S2, b1, b2, b3, b4, b5⟩ := rplain_v hE hn hW (RI_47 (v := nI 0) hr)
            have b5 : S2.1 47 0 = nI 0 := by rw [b5, wi_at]
            have hA := ((alook_c hE true 32) (2 * t + c) (gst g) hn (WG_gst hW)).2.2
            have hA : AOK (aP E (2 * t + c) g).1 := hA
            have hcl : (zo (m_X6_nodeOf Sc (nI t) (nI c)) fun x2 => zo2 (m_X2_start 1 Sc x2) fun x3 S4 => if 0 ≤ x3 then zo2 (m_X5_endOf S4 x2 (nI p)) fun x5 S6 => some (Sum.inr (x5, S6) : Sum Nat (Int32 × St)) else some (Sum.inr ((-1), S4) : Sum Nat (Int32 × St))) = (if 0 ≤ enA (aP E (2 * t + c) g).1 then zo2 (m_X5_endOf S1 (nI (2 * t + c)) (nI p)) fun x5 S6 => some (Sum.inr (x5, S6) : Sum Nat (Int32 × St)) else some (Sum.inr ((-1), S1) : Sum Nat (Int32 × St))) := by
              unfold m_X6_nodeOf
              rw [zo_e, pk_mul, nI_add, show t * 2 + c = 2 * t + c by omega, a1, zo2_e]
            cases hv : (aP E (2 * t + c) g).1 with
            | inl kk =>
              rw [hv] at hA
              have hneg := enA_n hA
              refine ⟨.inr (-1, S1), -1, S2, ?_, ?_, fun e q => (by cases q), fun r Sd q => ?_⟩
              · unfold m_X6_time
                rw [ron_t ht hc2, zx_r, if_neg (by rw [i_lt (by omega), nT (by omega)]; omega), if_pos (by rw [le_nI (by omega) (by omega)]; omega), hcl, hv, if_neg hneg]
              · unfold m_X7_time m_X7_time_J27
                rw [isNode_v ht hc2, zo_e, if_neg (by decide), isIn_t (by omega) (by omega) (by rw [nT (by omega)]; omega), zo_e, if_neg (by decide), goes_0, zo2_e, if_neg (by decide), pk_mul, nI_add, zb_e, b1, zo2_e, hv, if_neg hneg]
              · cases q
                exact ⟨by rw [rs_v, b5]; rfl, rfl, E, g, hE, hW, RP1_RC hc a2, b2⟩
            | inr v =>
              have hv2 : v < 1000 := by rw [hv] at hA; exact hA
              have hpos : 0 ≤ enA (.inr v) := by
                show 0 ≤ nI v
                rw [le0_nI (by omega)]; trivial
              obtain ⟨w, S5, S6, w1, w2, w3, w4, w5⟩ := time_v (T := 0) hE hn (show 1 ≤ p by omega) (by omega) hW hv a2 b2 b3 b4
              refine ⟨.inr (w, S5), w, S6, ?_, ?_, fun e q => (by cases q), fun r Sd q => ?_⟩
              · unfold m_X6_time
                rw [ron_t ht hc2, zx_r, if_neg (by rw [i_lt (by omega), nT (by omega)]; omega), if_pos (by rw [le_nI (by omega) (by omega)]; omega), hcl, hv, if_pos hpos, w1, zo2_e]
              · unfold m_X7_time m_X7_time_J27
                rw [isNode_v ht hc2, zo_e, if_neg (by decide), isIn_t (by omega) (by omega) (by rw [nT (by omega)]; omega), zo_e, if_neg (by decide), goes_0, zo2_e, if_neg (by decide), pk_mul, nI_add, zb_e, b1, zo2_e, hv, if_pos hpos]
                exact w2
              · cases q
                refine ⟨by rw [rs_v, w5, b5]; rfl, rfl, E, g, hE, hW, RC_same (RP1_RC hc a2) (fun k q1 q2 q3 q4 q5 q6 q7 => w3 k (by omega)), w4⟩
          · exfalso; omega
      · exact absurd (Or.inr q) hb
    · exact absurd (Or.inl q) hb
