/-! the end of reading in a build -/
theorem eo_v {S : St} {r : Rul} {cf : Nat} {ws : List Rd} {L : List En} (hr : RulOK r) (hc : cf < 2) (hx : ∀ x ∈ ws, RdOK x) (hw : WFr r cf ws) (hK : KEY r cf ws S) (hC : CaR L S) (hL : L.length ≤ 100) (hE : ∀ e ∈ L, EOK e) : EOF (sameK r cf ws) L 0 (L.find? (sameK r cf ws)) (m_X7_entryOf S) :=
  eo_l hr hc hx hw hK hC hL hE L 0 FU rfl (Nat.zero_le _) (FU_gt (by omega))
theorem finB {E : Ev} {g : Gs} {S : St} {n how v : Nat} (hn : n < 32) (h5 : gDn g n = 5) (hh : ¬ how = 5 ∧ ¬ how = 0 ∧ how ≤ 4) (hv : v < 1000) (h : RBn E g S) (hC : CoR (sEnd g n how (.inr v)) S) : ∃ S', m_X7_finishes S (nI n) (nI v) (nI how) = some S' ∧ RB E (sEnd g n how (.inr v)) S' ∧ ∀ h0 g0, KP h0 n g0 S S' := by
  obtain ⟨a1, a2, a3, a4, a5, a6⟩ := h
  obtain ⟨h0, hb, hb2⟩ := bG_pos hn h5
  refine ⟨FIN4 S n (nI v) how h0, ?_, RB_end (a := .inr v) hn h5 hb hh a1 a2 a3 a4 a5 a6 hC, fun h1 g0 => KP_out (fun k2 i q => FIN4_ne (by omega) (by omega) (by omega) (by omega)) (fun i => rfl) (fun m _ => FIN4_ne (by omega) (by omega) (by omega) (by omega))⟩
  rw [fins_v hn (by rw [a1.2.2.2, hb]), if_pos a2, if_pos (nI_pos' (by omega))]
theorem KP_all {n : Nat} {S S1 S2 : St} (h1 : ∀ h g, KP h n g S S1) (h2 : ∀ h g, KP h n g S1 S2) : ∀ h g, KP h n g S S2 := fun h g => KP_tr (h1 h g) (h2 h g) (fun _ _ z => z)
theorem runs_v {E : Ev} {g : Gs} {S : St} {n i : Nat} {r : Rul} {ws : List Rd} (hE : EvOK E) (hn : n < 32) (hρ : eρ E (n / 2) = some r) (hg : WG g) (h5 : gDn g n = 5) (hx : ∀ x ∈ ws, RdGd x) (hw : WFr r (n % 2) ws) (hk : ∀ a ∈ gL g, ¬ keyE a = keyOf r (n % 2) ws) (hI : IP n i ws S) (hK : KEY r (n % 2) ws S) (h : RB E g S) :
    uG (ago E n r ws g).2 = uG g ∧ ∃ S', m_X7_runs S (nI n) (nI (ares E r ws)) = some S' ∧ RB E (ago E n r ws g).2 S' ∧ ∀ h0 g0, KP h0 n g0 S S' := by
  have hr := hE.2 _ _ hρ
  have hl := WFr_le hr hw
  obtain ⟨o, ta, tb2, tc, e, y1, y2, y3⟩ := arun_c (t := n / 2) 3 hg
  have hg1 : WG (rest3 g ta tb2 tc) := WG_rest3 hg y1 y2
  obtain ⟨S1, a1, a2, a3⟩ := rrun_l (p2 := nI (ares E r ws)) hn FU 0 3 g S (nI 3) (by omega) (FU_gt (by omega)) hg h
  have hrun : m_X7_runs S (nI n) (nI (ares E r ws)) = zl4 (m_X7_runs_B13 (nI n) (nI (ares E r ws)) (nI (n / 2))) FU S (nI 1) (nI 3) (nI 0) := by
    unfold m_X7_runs
    rw [div_nI (by omega) (by omega) (by omega), zb_e]
  rw [hrun, a1]
  unfold ago
  rw [e] at a2 ⊢
  cases o with
  | none =>
    obtain ⟨S2, b1, b2, b3⟩ := failB (k := 5) hn (g := rest3 g ta tb2 tc) h5 (by omega) a2
    have b1 : m_X7_finishes S1 (nI n) (-5) (nI 4) = some S2 := b1
    refine ⟨uG_end (g := sK (rest3 g ta tb2 tc) (fu (gK (rest3 g ta tb2 tc)) n none)) h5 (by omega), S2, ?_, b2, KP_all (fun h0 g0 => OUS_KP a3 h0 n g0) b3⟩
    show (zo (m_X7_finishes S1 (nI n) (-5) (nI 4)) fun s => some s) = some S2
    rw [b1, zo_e]
  | some m =>
    obtain ⟨m3, m4⟩ := y3 m rfl
    obtain ⟨t1, t2, t3, t4, t5, t6, t7⟩ := atell_c (E := E) (res := ares E r ws) hg1 m3 ares_lt m4
    obtain ⟨S2, b1, b2, b3⟩ := rtell_v (n := n) hg1 m3 (ares_lt (E := E) (r := r) (rs := ws)) a2
    have hd2 : gDn (atell E m (ares E r ws) (rest3 g ta tb2 tc)).2 n = 5 := AF_dn t2 h5
    have hu2 : uG (atell E m (ares E r ws) (rest3 g ta tb2 tc)).2 = uG g := by
      refine uG_eq ?_
      unfold atell
      split
      · split <;> rfl
      · split <;> rfl
    show uG (akeep n 3 r ws (atell E m (ares E r ws) (rest3 g ta tb2 tc)).1.1 (atell E m (ares E r ws) (rest3 g ta tb2 tc)).1.2 (aadd (r, n % 2, ws, (atell E m (ares E r ws) (rest3 g ta tb2 tc)).1.1, (atell E m (ares E r ws) (rest3 g ta tb2 tc)).1.2) (atell E m (ares E r ws) (rest3 g ta tb2 tc)).2)).2 = uG g ∧ ∃ S', m_X7_runs_J81 (nI 0) (nI m) (nI n) S1 (nI (ares E r ws)) = some S' ∧ RB E (akeep n 3 r ws (atell E m (ares E r ws) (rest3 g ta tb2 tc)).1.1 (atell E m (ares E r ws) (rest3 g ta tb2 tc)).1.2 (aadd (r, n % 2, ws, (atell E m (ares E r ws) (rest3 g ta tb2 tc)).1.1, (atell E m (ares E r ws) (rest3 g ta tb2 tc)).1.2) (atell E m (ares E r ws) (rest3 g ta tb2 tc)).2)).2 S' ∧ _
    generalize hT : atell E m (ares E r ws) (rest3 g ta tb2 tc) = T at b1 b2 t1 t2 t3 t4 t5 t6 t7 hd2 hu2 ⊢
    obtain ⟨⟨v, f⟩, g2⟩ := T
    have o2 := OUS_tr a3 b3
    obtain ⟨S3, c1, c2, c3⟩ := radd_v (n := n) (v := v) (f := f) t1 (OUS_KEY o2 hK) b2
    have o3 := OUS_tr o2 c3
    have hg3 : WG (aadd (r, n % 2, ws, v, f) g2) := WG_aadd t1 ⟨hr, Nat.mod_lt _ (by omega), fun x h6 => (hx x h6).1, hw, t3, t4⟩ t5 (fun x hx2 => hk x (t6 x hx2))
    obtain ⟨S4, d1, d2, d3, d4, d5⟩ := rkeep_v (v := v) (f := f) hn hr hg3 hρ hl (OUS_IP o3 hI) (by exact t5) (RB_n c2)
    have hC : CoR (sEnd (sK (aadd (r, n % 2, ws, v, f) g2) (fu (gK (aadd (r, n % 2, ws, v, f) g2)) n (some (r, ws, v, f)))) n 3 (.inr v)) S4 := by
      refine CoR_end (g := sK (aadd (r, n % 2, ws, v, f) g2) (fu (gK (aadd (r, n % 2, ws, v, f) g2)) n (some (r, ws, v, f)))) hn (by exact hd2) (by omega) ?_
      exact CoR_eq c2.2.2.2.2.2.2 rfl rfl (fun i => by rw [d5])
    obtain ⟨S5, f1, f2, f3⟩ := finB (how := 3) (v := v) hn (g := sK (aadd (r, n % 2, ws, v, f) g2) (fu (gK (aadd (r, n % 2, ws, v, f) g2)) n (some (r, ws, v, f)))) hd2 (by omega) t3 d2 hC
    refine ⟨?_, S5, ?_, f2, KP_all (fun h0 g0 => OUS_KP (OUS_tr o3 d3) h0 n g0) f3⟩
    · show uG (sEnd (sK (aadd (r, n % 2, ws, v, f) g2) (fu (gK (aadd (r, n % 2, ws, v, f) g2)) n (some (r, ws, v, f)))) n 3 (.inr v)) = uG g
      rw [uG_end (g := sK (aadd (r, n % 2, ws, v, f) g2) (fu (gK (aadd (r, n % 2, ws, v, f) g2)) n (some (r, ws, v, f)))) hd2 (by omega)]
      exact hu2
    · rw [b1]
      show m_X7_runs_J165 (nI n) S2 (nI f) (nI v) = some S5
      rw [c1, d1, zo_e, f1, zo_e]
theorem RB_leak {E : Ev} {g : Gs} {S : St} {n : Nat} {r : Rul} (h : RB E g S) : RB E (aleak n r g) (eLK n r S) ∧ OUS S (eLK n r S) ∧ ∀ k i, k < 8 → (eLK n r S).1 k i = S.1 k i := by
  unfold aleak eLK
  have h43 := h.2.1
  by_cases h1 : kd r = 4 ∧ ¬ sees r (nb r % 20) = true
  · rw [if_pos h1, if_pos ⟨h1, h43⟩]
    have h' := h
    obtain ⟨a1, a2, ⟨b1, b2, b3, b4, b5, b6⟩, a4, a5, a6, a7⟩ := h'
    refine ⟨RB_ma h rfl rfl rfl rfl rfl rfl (fun k i z z2 => wi_ne (by omega)) rfl ⟨fun m hm => ?_, fun t ht => ?_, ?_, ?_, ?_, ?_⟩ (CoR_eq a7 rfl rfl (fun i => wi_ne (by omega))), OUS_lo (fun k i z z2 => wi_ne (by omega)) (fun _ _ _ => rfl), fun k i _ => wi_ne (by omega)⟩
    · rw [wi_ne (by omega), wi_ne (by omega)]; exact b1 m hm
    · rw [wi_ne (by omega)]; exact b2 t ht
    · rw [wi_ne (by omega)]; exact b3
    · rw [wi_ne (by omega)]; exact b4
    · rw [wi_ne (by omega)]; exact b5
    · rw [wi_at, b6]; rfl
  · rw [if_neg h1, if_neg (fun q => h1 q.1)]
    exact ⟨h, OUS_rf, fun _ _ _ => rfl⟩
theorem acc_ws {E : Ev} {n : Nat} {r : Rul} {acc : List Rd} (hE : EvOK E) (hr : RulOK r) (hm : acc.map pj = expIn r (n % 2)) (hA : ∀ x ∈ acc, AC E x) : (∀ x ∈ afnd E r acc, RdGd x) ∧ WFr r (n % 2) (afnd E r acc) ∧ acc.length ≤ 4 ∧ ∀ x ∈ acc, x.1 < 4 ∧ (ip r)[x.1]? = some (x.2.1, x.2.2.1) := by
  refine ⟨fun x hx => ?_, ?_, ?_, fun x hx => ?_⟩
  · unfold afnd at hx
    by_cases h3 : kd r = 3
    · rw [if_pos h3] at hx
      rcases List.mem_append.mp hx with z | z
      · exact (hA x z).1
      · rw [List.mem_singleton.mp z]
        refine ⟨⟨Nat.le_refl 4, Nat.le_refl 4, Nat.mod_lt _ (by omega), rfl, fun o ho m hm2 => ?_⟩, fun _ q => absurd rfl q⟩
        have ho : o ∈ [eφ E (sumR acc % 20)] := ho
        rw [List.mem_singleton.mp ho] at hm2
        exact hE.1 _ _ hm2
    · rw [if_neg h3] at hx
      exact (hA x hx).1
  · unfold afnd WFr
    by_cases h3 : kd r = 3
    · rw [if_pos h3, if_pos h3]
      exact ⟨acc, _, rfl, hm⟩
    · rw [if_neg h3, if_neg h3]
      exact hm
  · have := congrArg List.length hm
    rw [List.length_map] at this
    have h4 := expIn_le hr (n % 2)
    omega
  · obtain ⟨a, b, c, d⟩ := expIn_mem hr (q := pj x) (by rw [← hm]; exact List.mem_map_of_mem (f := pj) hx)
    exact ⟨a, b⟩
/-- what comes behind the reading in a build -/
noncomputable def enB (E : Ev) (n : Nat) (r : Rul) (acc : List Rd) (g : Gs) : Ans × Gs := afet E n r (afnd E r acc) (aleak n r (sRd g n (afnd E r acc)))
theorem ensB {E : Ev} {n : Nat} {r : Rul} (hE : EvOK E) (hn : n < 32) (hρ : eρ E (n / 2) = some r) : ENS (RB E) E n r (enB E n r) := by
  intro acc g S i hg h h5 hI hm hA
  have hr := hE.2 _ _ hρ
  obtain ⟨q1, q2, q3, q4⟩ := acc_ws hE hr hm hA
  have hM := (h.1.2.1 (n / 2) (by omega)).2 r hρ
  obtain ⟨S9, d9, i9, run⟩ := er_v hE hn hr h.1.1 hM hI q3 hA q4
  rw [if_pos h.2.1] at run
  have hl5 := WFr_le hr q2
  unfold enB
  generalize hws : afnd E r acc = ws at q1 q2 i9 run hl5 ⊢
  have r9 : RB E (sRd g n ws) S9 := RB_dif.2 g S S9 n h h5 d9
  have hg9 : WG (sRd g n ws) := WG_same hg rfl rfl rfl rfl rfl rfl rfl (fun _ q => q)
  obtain ⟨r10, o10, lo10⟩ := RB_leak (n := n) (r := r) r9
  obtain ⟨hg10, af10⟩ := aleak_c (n := n) (r := r) hg9
  have hu10 : uG (aleak n r (sRd g n ws)) = uG g := uG_eq (by unfold aleak; split <;> rfl)
  have h510 : gDn (aleak n r (sRd g n ws)) n = 5 := AF_dn af10 h5
  generalize aleak n r (sRd g n ws) = ga at r10 hg10 af10 hu10 h510 ⊢
  generalize eLK n r S9 = S10 at r10 o10 lo10 run
  have i10 := OUS_IP o10 i9
  have hM10 := (r10.1.2.1 (n / 2) (by omega)).2 r hρ
  obtain ⟨S13, k1, k2, k3, k4⟩ := key_v hn hr hM10 hl5 i10
  have i13 : IP n i ws S13 := by
    obtain ⟨z1, z2, z3, z4⟩ := i10
    unfold IP
    rw [k3, k4 41 (by omega)]
    exact ⟨z1, z2, z3, z4⟩
  have r13 : RB E ga S13 := RB_dif.2 ga S10 S13 n r10 h510 ⟨fun k j _ _ _ _ => by rw [k3], fun k j _ hk => by rw [k4 k hk]⟩
  have kp13 : ∀ h0 g0, KP h0 n g0 S S13 := KP_all (KP_all (fun h0 g0 => KP_dif d9) (fun h0 g0 => OUS_KP o10 h0 n g0)) (fun h0 g0 => KP_out (fun k j _ => by rw [k3]) (fun j => by rw [k4 41 (by omega)]) (fun m _ => by rw [k3]))
  rw [k1, zo_e] at run
  have heo := eo_v hr (Nat.mod_lt n (by omega)) (fun x hx => (q1 x hx).1) q2 k2 r13.2.2.2.2.1 hg10.2.2.1 hg10.2.1
  have hg10' := hg10
  obtain ⟨w1, w2, w3, w4, w5, w6, w7, w8, w9, w10, w11⟩ := hg10'
  unfold afet
  cases ho : (gL ga).find? (sameK r (n % 2) ws) with
  | none =>
    rw [ho] at heo
    have heo : m_X7_entryOf S13 = some (-1) := heo
    rw [heo, zo_e, if_pos rfl] at run
    unfold m_X7_endsReading_J258 at run
    rw [if_pos rfl] at run
    obtain ⟨u1, S', b1, b2, b3⟩ := runs_v hE hn hρ hg10 h510 q1 q2 (fun a h1 q => List.find?_eq_none.mp ho a h1 (dcP_t.mpr q)) i13 k2 r13
    rw [b1, zo_e] at run
    exact ⟨u1.trans hu10, S', run, b2, KP_all kp13 b3⟩
  | some e =>
    rw [ho] at heo
    obtain ⟨j, e1, -, e3, e4⟩ := heo
    have hj := (List.getElem?_eq_some_iff.mp e1).1
    have e13 : rs S13 13 = nI (gVn ga) := r13.2.2.1.2.2.2.2.1
    rw [e4, zo_e, if_neg (nI_n1 (by omega)), e13] at run
    show uG (if 0 < gVn ga then ago E n r ws (sL (sVn ga (gVn ga - 1)) ((gL ga).filter (fun e => !sameK r (n % 2) ws e))) else akeep n 2 r ws e.2.2.2.1 e.2.2.2.2 ga).2 = uG g ∧ ∃ S', _ ∧ RB E (if 0 < gVn ga then ago E n r ws (sL (sVn ga (gVn ga - 1)) ((gL ga).filter (fun e => !sameK r (n % 2) ws e))) else akeep n 2 r ws e.2.2.2.1 e.2.2.2.2 ga).2 S' ∧ _
    by_cases hv : 0 < gVn ga
    · rw [if_pos hv]
      rw [if_neg (nI_nle hv (by omega)), pk_sub (by omega)] at run
      have r21 : RB E (sVn ga (gVn ga - 1)) (wi S13 13 0 (nI (gVn ga - 1))) ∧ OUS S13 (wi S13 13 0 (nI (gVn ga - 1))) := by
        obtain ⟨a1, a2, ⟨b1, b2, b3, b4, b5, b6⟩, a4, a5, a6, a7⟩ := r13
        refine ⟨RB_ma ⟨a1, a2, ⟨b1, b2, b3, b4, b5, b6⟩, a4, a5, a6, a7⟩ rfl rfl rfl rfl rfl rfl (fun k i z z2 => wi_ne (by omega)) rfl ⟨fun m hm => ?_, fun t ht => ?_, ?_, ?_, wi_at, ?_⟩ (CoR_eq a7 rfl rfl (fun i => wi_ne (by omega))), OUS_lo (fun k i z z2 => wi_ne (by omega)) (fun _ _ _ => rfl)⟩
        · rw [wi_ne (by omega), wi_ne (by omega)]; exact b1 m hm
        · rw [wi_ne (by omega)]; exact b2 t ht
        · rw [wi_ne (by omega)]; exact b3
        · rw [wi_ne (by omega)]; exact b4
        · rw [wi_ne (by omega)]; exact b6
      obtain ⟨r21, o21⟩ := r21
      obtain ⟨S22, c1, c2, c3, c4⟩ := drops_v r21.2.2.2.2.1 (by exact Nat.le_succ_of_le w3) hj
      have c2 : CaR ((gL ga).eraseIdx j) S22 := c2
      rw [erase_filter (gL ga) j e w4 (fun a b _ _ ha hb => (dcP_t.mp ha).trans (dcP_t.mp hb).symm) e1 e3] at c2
      have hg22 : WG (sL (sVn ga (gVn ga - 1)) ((gL ga).filter (fun e => !sameK r (n % 2) ws e))) := by
        refine ⟨w1, fun x h1 => w2 x (List.mem_filter.mp h1).1, Nat.le_trans (List.length_filter_le _ _) w3, w4.filter _, w5, ?_, w7, w8, w9, fun x h1 => w10 x (List.mem_filter.mp h1).1, w11⟩
        show gVn ga - 1 ≤ 20
        omega
      have r22 : RB E (sL (sVn ga (gVn ga - 1)) ((gL ga).filter (fun e => !sameK r (n % 2) ws e))) S22 := by
        obtain ⟨a1, a2, a3, a4, a5, a6, a7⟩ := r21
        exact ⟨RR0_eq a1 rfl rfl (fun k i z => c3 k i (by omega) (by omega) (by omega)), by rw [c3 _ _ (by omega) (by omega) (by omega)]; exact a2, MaR_eq a3 rfl rfl rfl rfl rfl (fun k i _ _ => c3 k i (by omega) (by omega) (by omega)), KeR_eq a4 (fun k i _ => c3 k i (by omega) (by omega) (by omega)) (fun k i _ => c4 k i (by omega)), c2, DoR_eq a6 rfl rfl (fun k i _ => c3 k i (by omega) (by omega) (by omega)), CoR_eq a7 rfl rfl (fun i => c3 _ i (by omega) (by omega) (by omega))⟩
      have o22 : OUS S13 S22 := OUS_tr o21 (OUS_lo (fun k i _ _ => c3 k i (by omega) (by omega) (by omega)) (fun k i _ => c4 k i (by omega)))
      obtain ⟨u1, S', b1, b2, b3⟩ := runs_v hE hn hρ hg22 h510 q1 q2 (fun a h1 q => by
        have h2 := (List.mem_filter.mp h1).2
        have h3 : sameK r (n % 2) ws a = true := dcP_t.mpr q
        rw [h3] at h2
        cases h2) (OUS_IP o22 i13) (OUS_KEY o22 k2) r22
      rw [c1, zo_e] at run
      unfold m_X7_endsReading_J258 at run
      rw [if_pos rfl, b1, zo_e] at run
      exact ⟨u1.trans hu10, S', run, b2, KP_all (KP_all kp13 (fun h0 g0 => OUS_KP o22 h0 n g0)) b3⟩
    · rw [if_neg hv]
      rw [show gVn ga = 0 by omega, if_pos (by decide)] at run
      unfold m_X7_endsReading_J258 at run
      rw [if_neg (nI_n1 (by omega)), zg_in (by omega) (by omega), zg_in (by omega) (by omega), tn (by omega), ri_n (by omega), zb_e, zg_in (show j < 101 by omega) (by omega), zg_in (show j < 101 by omega) (by omega), ri_n (by omega), ri_n (by omega)] at run
      obtain ⟨f1, f2, f3, f4⟩ := r13.2.2.2.2.1.2 j e e1
      rw [wi_ne (by omega), wi_ne (by omega), f3, f4] at run
      have e2 := w2 e (List.mem_of_getElem? e1)
      have ea := w10 e (List.mem_of_getElem? e1)
      have o18 : OUS S13 (wi S13 33 1 (S13.1 33 1 + nI 1)) := OUS_lo (fun k i z z2 => wi_ne (by omega)) (fun _ _ _ => rfl)
      have r18 : RBn E ga (wi S13 33 1 (S13.1 33 1 + nI 1)) := by
        obtain ⟨a1, a2, a3, a4, a5, a6, a7⟩ := r13
        exact ⟨RR0_eq a1 rfl rfl (fun k i z => wi_ne (by omega)), by rw [wi_ne (by omega)]; exact a2, MaR_eq a3 rfl rfl rfl rfl rfl (fun k i _ _ => wi_ne (by omega)), KeR_eq a4 (fun k i _ => wi_ne (by omega)) (fun _ _ _ => rfl), CaR_eq a5 (fun k i _ => wi_ne (by omega)) (fun _ => rfl), DoR_eq a6 rfl rfl (fun k i _ => wi_ne (by omega))⟩
      obtain ⟨S19, d1, d2, d3, d4, d5⟩ := rkeep_v (v := e.2.2.2.1) (f := e.2.2.2.2) hn hr hg10 hρ hl5 (OUS_IP o18 i13) ea r18
      have e27 : S19.1 27 j = nI e.2.2.2.1 := by rw [d4, wi_ne (by omega)]; exact f3
      rw [d1, zo_e, zg_in (show j < 101 by omega) (by omega), ri_n (by omega), e27] at run
      have hC : CoR (sEnd (sK ga (fu (gK ga) n (some (r, ws, e.2.2.2.1, e.2.2.2.2)))) n 2 (.inr e.2.2.2.1)) S19 := by
        obtain ⟨b1, b2, b3, b4⟩ := r13.2.2.2.2.2.2
        have h5k : gDn (sK ga (fu (gK ga) n (some (r, ws, e.2.2.2.1, e.2.2.2.2)))) n = 5 := h510
        refine ⟨?_, ?_, ?_, ?_⟩
        · rw [d5, wi_ne (by omega)]; exact b1
        · rw [d5, wi_at, cG_end hn h5k (by omega), if_pos rfl, b2, nI_add]; rfl
        · rw [d5, wi_ne (by omega), cG_end hn h5k (by omega), if_neg (by omega)]; exact b3
        · rw [d5, wi_ne (by omega), uG_end h5k (by omega)]; exact b4
      obtain ⟨S5, g1, g2, g3⟩ := finB (how := 2) (v := e.2.2.2.1) hn (g := sK ga (fu (gK ga) n (some (r, ws, e.2.2.2.1, e.2.2.2.2)))) h510 (by omega) e2.2.2.2.2.1 d2 hC
      rw [g1, zo_e] at run
      refine ⟨?_, S5, run, g2, KP_all (KP_all kp13 (fun h0 g0 => OUS_KP (OUS_tr o18 d3) h0 n g0)) g3⟩
      show uG (sEnd (sK ga (fu (gK ga) n (some (r, ws, e.2.2.2.1, e.2.2.2.2)))) n 2 (.inr e.2.2.2.1)) = uG g
      rw [uG_end (g := sK ga (fu (gK ga) n (some (r, ws, e.2.2.2.1, e.2.2.2.2)))) h510 (by omega)]
      exact hu10
