/-! machines and runs of the reference -/
def OUS (S S' : St) : Prop := (∀ k i, 35 ≤ k → k ≤ 41 → S'.1 k i = S.1 k i) ∧ (∀ k i, k = 41 ∨ k = 42 → S'.2 k i = S.2 k i) ∧ ∀ k i, k = 32 ∨ k = 47 → S'.1 k i = S.1 k i
theorem OUS_rf {S : St} : OUS S S := ⟨fun _ _ _ _ => rfl, fun _ _ _ => rfl, fun _ _ _ => rfl⟩
theorem OUS_tr {S S1 S2 : St} (h1 : OUS S S1) (h2 : OUS S1 S2) : OUS S S2 := ⟨fun k i a b => (h2.1 k i a b).trans (h1.1 k i a b), fun k i a => (h2.2.1 k i a).trans (h1.2.1 k i a), fun k i a => (h2.2.2 k i a).trans (h1.2.2 k i a)⟩
theorem OUS_KP {S S' : St} (h : OUS S S') : ∀ h0 n g0, KP h0 n g0 S S' := fun h0 n g0 => KP_out (fun k i hk => (if h47 : k = 47 then h.2.2 k i (Or.inr h47) else h.1 k i (by omega) (by omega))) (fun i => h.2.1 41 i (by omega)) (fun m _ => h.2.2 32 m (Or.inl rfl))
theorem OUS_IP {n i : Nat} {acc : List Rd} {S S' : St} (h : OUS S S') (hI : IP n i acc S) : IP n i acc S' := by
  obtain ⟨a1, a2, a3, a4⟩ := hI
  refine ⟨(h.1 _ _ (by omega) (by omega)).trans a1, (h.1 _ _ (by omega) (by omega)).trans a2, (h.1 _ _ (by omega) (by omega)).trans a3, fun j x hx => ?_⟩
  obtain ⟨b1, b2, b3⟩ := a4 j x hx
  exact ⟨(h.1 _ _ (by omega) (by omega)).trans b1, (h.1 _ _ (by omega) (by omega)).trans b2, (h.2.1 _ _ (by omega)).trans b3⟩
theorem OUS_KEY {r : Rul} {cf : Nat} {ws : List Rd} {S S' : St} (h : OUS S S') (hK : KEY r cf ws S) : KEY r cf ws S' := ⟨(h.2.1 _ _ (by omega)).trans hK.1, fun j hj => (h.2.1 _ _ (by omega)).trans (hK.2 j hj)⟩
theorem OUS_lo {S S' : St} (h1 : ∀ k i, 32 ≤ k → ¬ k = 33 → S'.1 k i = S.1 k i) (h2 : ∀ k i, 41 ≤ k → S'.2 k i = S.2 k i) : OUS S S' := ⟨fun k i a b => h1 k i (by omega) (by omega), fun k i a => h2 k i (by omega), fun k i a => h1 k i (by omega) (by omega)⟩
theorem RB_ma {E : Ev} {g g' : Gs} {S S' : St} (h : RB E g S) (q1 : gK g' = gK g) (q2 : gL g' = gL g) (q3 : gDn g' = gDn g) (q4 : gAn g' = gAn g) (q5 : gWy g' = gWy g) (q6 : gAw g' = gAw g) (e : ∀ k i, k < 8 ∨ 14 < k → ¬ k = 33 → S'.1 k i = S.1 k i) (e2 : S'.2 = S.2) (hM : MaR E g' S') (hC : CoR g' S') : RB E g' S' := by
  obtain ⟨a1, a2, a3, a4, a5, a6, a7⟩ := h
  refine ⟨RR0_eq a1 q3 q4 (fun k i z => e k i (by omega) (by omega)), by rw [e _ _ (by omega) (by omega)]; exact a2, hM, fun n hn => ?_, ?_, DoR_eq a6 q3 q5 (fun k i z => e k i (by omega) (by omega)), hC⟩
  · rw [q1, q6]
    obtain ⟨b1, b2⟩ := a4 n hn
    refine ⟨fun hk => by rw [e _ _ (by omega) (by omega)]; exact b1 hk, fun q hq => ?_⟩
    obtain ⟨d1, d2, d3, d4, d5, d6, d7, d8⟩ := b2 q hq
    unfold KeR1
    rw [e2, e _ _ (by omega) (by omega), e _ _ (by omega) (by omega), e _ _ (by omega) (by omega), e _ _ (by omega) (by omega), e _ _ (by omega) (by omega), e _ _ (by omega) (by omega)]
    refine ⟨d1, d2, d3, d4, fun j x hx => ?_, d6, d7, d8⟩
    rw [e _ _ (by omega) (by omega), e _ _ (by omega) (by omega)]
    exact d5 j x hx
  · rw [q2]
    exact CaR_eq a5 (fun k i z => e k i (by omega) (by omega)) (fun i => by rw [e2])
theorem rnext_v {E : Ev} {g : Gs} {S : St} (hg : WG g) (h : RB E g S) : ∃ S', m_X7_nextMachine S = some (nI (nextM g).1, S') ∧ RB E (nextM g).2 S' ∧ (∀ k i, ¬ k = 11 → S'.1 k i = S.1 k i) ∧ S'.2 = S.2 := by
  obtain ⟨k1, k2, k3, k4, k5, k6, k7, k8, k9, k10, k11⟩ := hg
  have h' := h
  obtain ⟨a1, a2, ⟨b1, b2, b3, b4, b5, b6⟩, a4, a5, a6, a7⟩ := h'
  have tuB : ∀ x, x < 3 → RB E (sTu g x) (wi S 11 0 (nI x)) ∧ (∀ k i, ¬ k = 11 → (wi S 11 0 (nI x)).1 k i = S.1 k i) ∧ (wi S 11 0 (nI x)).2 = S.2 := fun x hx => by
    refine ⟨RB_ma h rfl rfl rfl rfl rfl rfl (fun k i z z2 => wi_ne (by omega)) rfl ⟨fun m hm => ?_, fun t ht => ?_, wi_at, ?_, ?_, ?_⟩ (CoR_eq a7 rfl rfl (fun i => wi_ne (by omega))), fun k i z => wi_ne (by omega), rfl⟩
    · rw [wi_ne (by omega), wi_ne (by omega)]; exact b1 m hm
    · rw [wi_ne (by omega)]; exact b2 t ht
    · rw [wi_ne (by omega)]; exact b4
    · rw [wi_ne (by omega)]; exact b5
    · rw [wi_ne (by omega)]; exact b6
  have step : ∀ (k i : Nat), i < 3 → zl1 (m_X7_nextMachine_B2 S) (k + 1) (nI i) = if gAw g ((gTu g + i) % 3) = false then some (nI ((gTu g + i) % 3), wi S 11 0 (nI (((gTu g + i) % 3 + 1) % 3))) else zl1 (m_X7_nextMachine_B2 S) k (nI (i + 1)) := fun k i hi => by
    show m_X7_nextMachine_B2 S (zl1 (m_X7_nextMachine_B2 S) k) (nI i) = _
    generalize zl1 (m_X7_nextMachine_B2 S) k = G
    unfold m_X7_nextMachine_B2
    have h3 : (gTu g + i) % 3 < 3 := Nat.mod_lt _ (by omega)
    rw [if_neg (by rw [le_nI (by omega) (by omega)]; omega), show rs S 11 = nI (gTu g) from b3, nI_add, irm_nI (by omega) (by omega) (by omega), zb_e, zg_in h3 (by omega), ri_n (by omega), (b1 _ h3).2]
    cases ha : gAw g ((gTu g + i) % 3) with
    | false => rw [if_pos (by decide), if_pos rfl, nI_add, irm_nI (by omega) (by omega) (by omega), zb_e]
    | true => rw [if_neg (by decide), if_neg (by decide), nI_add, zb_e]
  have e8192 : m_X7_nextMachine S = zl1 (m_X7_nextMachine_B2 S) (8188 + 1 + 1 + 1 + 1) (nI 0) := rfl
  rw [e8192, step _ 0 (by omega), Nat.add_zero, Nat.mod_eq_of_lt k5]
  unfold nextM
  by_cases h1 : gAw g (gTu g) = false
  · rw [if_pos h1, if_pos h1]
    obtain ⟨t1, t2, t3⟩ := tuB _ (Nat.mod_lt (gTu g + 1) (by omega))
    exact ⟨_, rfl, t1, t2, t3⟩
  · rw [if_neg h1, if_neg h1, step _ 1 (by omega)]
    by_cases h2 : gAw g ((gTu g + 1) % 3) = false
    · rw [if_pos h2, if_pos h2, show ((gTu g + 1) % 3 + 1) % 3 = (gTu g + 2) % 3 by omega]
      obtain ⟨t1, t2, t3⟩ := tuB _ (Nat.mod_lt (gTu g + 2) (by omega))
      exact ⟨_, rfl, t1, t2, t3⟩
    · rw [if_neg h2, if_neg h2, step _ 2 (by omega)]
      by_cases h3 : gAw g ((gTu g + 2) % 3) = false
      · rw [if_pos h3, if_pos h3, show ((gTu g + 2) % 3 + 1) % 3 = gTu g by omega]
        obtain ⟨t1, t2, t3⟩ := tuB _ k5
        exact ⟨_, rfl, t1, t2, t3⟩
      · rw [if_neg h3, if_neg h3]
        refine ⟨S, ?_, h, fun _ _ _ => rfl, rfl⟩
        show m_X7_nextMachine_B2 S _ (nI (2 + 1)) = _
        unfold m_X7_nextMachine_B2
        rw [if_pos (by decide)]
theorem RB_rn {E : Ev} {g : Gs} {S : St} (h : RB E g S) : RB E (sRn g (gRn g + 1)) (wi S 33 0 (S.1 33 0 + nI 1)) ∧ OUS S (wi S 33 0 (S.1 33 0 + nI 1)) := by
  have h' := h
  obtain ⟨a1, a2, a3, a4, a5, a6, ⟨c1, c2, c3, c4⟩⟩ := h'
  refine ⟨RB_ma h rfl rfl rfl rfl rfl rfl (fun k i z z2 => wi_ne (by omega)) rfl (MaR_eq a3 rfl rfl rfl rfl rfl (fun k i _ _ => wi_ne (by omega))) ⟨by rw [wi_at, c1, nI_add]; rfl, ?_, ?_, ?_⟩, OUS_lo (fun k i z z2 => wi_ne (by omega)) (fun _ _ _ => rfl)⟩
  · rw [wi_ne (by omega)]; exact c2
  · rw [wi_ne (by omega)]; exact c3
  · rw [wi_ne (by omega)]; exact c4
theorem RB_tf {E : Ev} {g : Gs} {S : St} {t y : Nat} (h : RB E g S) : RB E (sTf g (fu (gTf g) t y)) (wi S 8 t (nI y)) ∧ OUS S (wi S 8 t (nI y)) := by
  have h' := h
  obtain ⟨a1, a2, ⟨b1, b2, b3, b4, b5, b6⟩, a4, a5, a6, a7⟩ := h'
  refine ⟨RB_ma h rfl rfl rfl rfl rfl rfl (fun k i z z2 => wi_ne (by omega)) rfl ⟨fun m hm => ?_, fun t2 ht => ?_, ?_, ?_, ?_, ?_⟩ (CoR_eq a7 rfl rfl (fun i => wi_ne (by omega))), OUS_lo (fun k i z z2 => wi_ne (by omega)) (fun _ _ _ => rfl)⟩
  · rw [wi_ne (by omega), wi_ne (by omega)]; exact b1 m hm
  · show _ = nI (fu (gTf g) t y t2)
    by_cases h1 : t2 = t
    · subst h1; rw [wi_at, fu_s]
    · rw [wi_ne (by omega), fu_n h1]; exact b2 t2 ht
  · rw [wi_ne (by omega)]; exact b3
  · rw [wi_ne (by omega)]; exact b4
  · rw [wi_ne (by omega)]; exact b5
  · rw [wi_ne (by omega)]; exact b6
theorem nextM_rn {g : Gs} {m x : Nat} (h : nextM g = (m, sTu g x)) : nextM (sRn g (gRn g + 1)) = (m, sTu (sRn g (gRn g + 1)) x) := by
  unfold nextM at h ⊢
  show (if gAw g (gTu g) = false then (gTu g, sTu (sRn g (gRn g + 1)) ((gTu g + 1) % 3)) else if gAw g ((gTu g + 1) % 3) = false then ((gTu g + 1) % 3, sTu (sRn g (gRn g + 1)) ((gTu g + 2) % 3)) else if gAw g ((gTu g + 2) % 3) = false then ((gTu g + 2) % 3, sRn g (gRn g + 1)) else (3, sRn g (gRn g + 1))) = _
  by_cases z1 : gAw g (gTu g) = false
  · rw [if_pos z1] at h ⊢
    have w1 : gTu g = m := congrArg Prod.fst h
    have w2 : (gTu g + 1) % 3 = x := congrArg (fun p : Nat × Gs => gTu p.2) h
    rw [w1, ← w2, w1]
  · rw [if_neg z1] at h ⊢
    by_cases z2 : gAw g ((gTu g + 1) % 3) = false
    · rw [if_pos z2] at h ⊢
      have w1 : (gTu g + 1) % 3 = m := congrArg Prod.fst h
      have w2 : (gTu g + 2) % 3 = x := congrArg (fun p : Nat × Gs => gTu p.2) h
      rw [w1, w2]
    · rw [if_neg z2] at h ⊢
      by_cases z3 : gAw g ((gTu g + 2) % 3) = false
      · rw [if_pos z3] at h ⊢
        have w1 : (gTu g + 2) % 3 = m := congrArg Prod.fst h
        have w2 : gTu g = x := congrArg (fun p : Nat × Gs => gTu p.2) h
        rw [w1, ← w2]
        rfl
      · rw [if_neg z3] at h ⊢
        have w1 : 3 = m := congrArg Prod.fst h
        have w2 : gTu g = x := congrArg (fun p : Nat × Gs => gTu p.2) h
        rw [← w1, ← w2]
        rfl
theorem rrun_l {E : Ev} {n : Nat} {p2 : Int32} (hn : n < 32) : ∀ (k i d : Nat) (g : Gs) (S : St) (mm : Int32), i + d = 3 → d < k → WG g → RB E g S →
    ∃ S', zl4 (m_X7_runs_B13 (nI n) p2 (nI (n / 2))) k S (nI 1) mm (nI i) = (match (arun (n / 2) d g).1 with
      | none => zo (m_X7_finishes S' (nI n) (-5) (nI 4)) fun s => some s
      | some m => m_X7_runs_J81 (nI 0) (nI m) (nI n) S' p2) ∧ RB E (arun (n / 2) d g).2 S' ∧ OUS S S' := by
  intro k
  induction k with
  | zero => intro i d g S mm _ h; omega
  | succ k ih =>
    intro i d g S mm h1 h2 hg h
    show ∃ S', m_X7_runs_B13 (nI n) p2 (nI (n / 2)) (zl4 (m_X7_runs_B13 (nI n) p2 (nI (n / 2))) k) S (nI 1) mm (nI i) = _ ∧ _
    have z0 : ∀ S2 m, 1 ≤ k → zl4 (m_X7_runs_B13 (nI n) p2 (nI (n / 2))) k S2 (nI 0) m (nI (i + 1)) = m_X7_runs_J81 (nI 0) m (nI n) S2 p2 := fun S2 m hk => by
      obtain ⟨k2, rfl⟩ : ∃ k2, k = k2 + 1 := ⟨k - 1, by omega⟩
      show m_X7_runs_B13 (nI n) p2 (nI (n / 2)) (zl4 (m_X7_runs_B13 (nI n) p2 (nI (n / 2))) k2) S2 (nI 0) m (nI (i + 1)) = _
      generalize zl4 (m_X7_runs_B13 (nI n) p2 (nI (n / 2))) k2 = G
      unfold m_X7_runs_B13
      by_cases h6 : nI 3 ≤ nI (i + 1)
      · rw [if_pos h6]
      · rw [if_neg h6, if_pos (by decide)]
    generalize zl4 (m_X7_runs_B13 (nI n) p2 (nI (n / 2))) k = G at ih z0 ⊢
    unfold m_X7_runs_B13 m_X7_runs_J54 m_X7_runs_J73
    match d, h1, h2 with
    | 0, h1, h2 =>
      rw [if_pos (by rw [le_nI (by omega) (by omega)]; omega)]
      refine ⟨S, ?_, h, OUS_rf⟩
      unfold m_X7_runs_J81
      rw [if_neg (by decide)]
      rfl
    | d + 1, h1, h2 =>
      obtain ⟨r1, r2⟩ := RB_rn h
      have hg1 : WG (sRn g (gRn g + 1)) := WG_same hg rfl rfl rfl rfl rfl rfl rfl (fun _ q => q)
      obtain ⟨x, m, q1, q2, q3, q4⟩ := nextM_c hg
      have q5 := nextM_rn q1
      rw [if_neg (by rw [le_nI (by omega) (by omega)]; omega), if_neg (by decide), zg_in (by omega) (by omega), zg_in (by omega) (by omega), tn (by omega), ri_n (by omega), zb_e]
      obtain ⟨S1, s1, s2, s3, s4⟩ := rnext_v hg1 r1
      rw [q5] at s1 s2
      have s2 : RB E (sTu (sRn g (gRn g + 1)) x) S1 := s2
      have o1 : OUS S S1 := OUS_tr r2 (OUS_lo (fun k i z z2 => s3 k i (by omega)) (fun k i z => by rw [s4]))
      rw [s1, zo2_e, zg_in (show n / 2 < 16 by omega) (by omega), ri_n (by omega)]
      have h8 : S1.1 8 (n / 2) = nI (gTf g (n / 2)) := s2.2.2.1.2.1 (n / 2) (by omega)
      have h20 := hg.2.2.2.2.2.2.1 (n / 2)
      have ar : arun (n / 2) (d + 1) g = if 0 < gTf g (n / 2) then arun (n / 2) d (sTf (sTu (sRn g (gRn g + 1)) x) (fu (gTf g) (n / 2) (gTf g (n / 2) - 1))) else (some m, sTu (sRn g (gRn g + 1)) x) := by
        rw [arun, q5]
        rfl
      rw [ar, h8]
      simp only [zg_in (show n / 2 < 16 by omega) (show 16 ≤ 2147483648 by omega), tn (show n / 2 < 2147483648 by omega), ri_n (show n / 2 < 2147483648 by omega), h8, nI_add, zb_e]
      by_cases h6 : 0 < gTf g (n / 2)
      · rw [if_pos h6, if_neg (nI_nle h6 (by omega)), if_neg (by decide), pk_sub (by omega)]
        obtain ⟨t1, t2⟩ := RB_tf s2 (t := n / 2) (y := gTf g (n / 2) - 1)
        have t1 : RB E (sTf (sTu (sRn g (gRn g + 1)) x) (fu (gTf g) (n / 2) (gTf g (n / 2) - 1))) _ := t1
        have hg2 : WG (sTf (sTu (sRn g (gRn g + 1)) x) (fu (gTf g) (n / 2) (gTf g (n / 2) - 1))) := WG_rest3 (c := gRn g + 1) hg (a := fu (gTf g) (n / 2) (gTf g (n / 2) - 1)) (b := x) (fun t2 => by
          have h7 := hg.2.2.2.2.2.2.1 t2
          unfold fu
          split
          · omega
          · exact h7) q2
        obtain ⟨S', g1, g2, g3⟩ := ih (i + 1) d _ _ (nI m) (by omega) (by omega) hg2 t1
        exact ⟨S', g1, g2, OUS_tr (OUS_tr o1 t2) g3⟩
      · have e0 : gTf g (n / 2) = 0 := by omega
        rw [if_neg h6, e0, if_pos (by decide), if_pos (by decide), z0 _ _ (by omega)]
        obtain ⟨t1, t2⟩ := RB_tf s2 (t := n / 2) (y := 0)
        have ef : sTf (sTu (sRn g (gRn g + 1)) x) (fu (gTf (sTu (sRn g (gRn g + 1)) x)) (n / 2) 0) = sTu (sRn g (gRn g + 1)) x := by
          have e1 : fu (gTf g) (n / 2) 0 = gTf g := by
            funext j
            unfold fu
            split
            · rename_i hj; rw [hj, e0]
            · rfl
          show sTf (sTu (sRn g (gRn g + 1)) x) (fu (gTf g) (n / 2) 0) = _
          rw [e1]
          rfl
        rw [ef] at t1
        exact ⟨_, rfl, t1, OUS_tr o1 t2⟩
