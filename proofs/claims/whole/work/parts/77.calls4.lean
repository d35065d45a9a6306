/-- another state, the same cells but one table's -/
theorem RC_upd {E E' : Ev} {T : Nat} {g g' : Gs} {S : St} {k : Nat} {f : Nat → Int32} (h : RC E 0 T g S) (hk : k = 2 ∨ k = 3 ∨ k = 4 ∨ k = 5 ∨ k = 12 ∨ k = 14) (e1 : eφ E' = eφ E) (e2 : eρ E' = eρ E) (q3 : gDn g' = gDn g) (q4 : gAn g' = gAn g) (q5 : gWy g' = gWy g) (q6 : gRn g' = gRn g) (q7 : gLk g' = gLk g) (q8 : gTu g' = gTu g)
    (h2 : KepT (gK g') ((tb S k f).1 2)) (h3 : ∀ c, CacT (gL g) c (S.1 3) → CacT (gL g') c ((tb S k f).1 3)) (h4 : MacT (ePo E') (gAw g') ((tb S k f).1 4)) (h5 : FaiT (gTf g') ((tb S k f).1 5)) (h12 : (tb S k f).1 12 0 = nI (gVn g')) (h14 : (tb S k f).1 14 0 = bI (eCk E')) : RC E' 0 T g' (tb S k f) := by
  obtain ⟨c0, c1, c2, ⟨c, x1, x2, x3⟩, c4, c5, c12, c14, c15, c16, c17, c8⟩ := h
  refine ⟨?_, ?_, h2, ⟨c, h3 c x1, ?_, ?_⟩, h4, h5, h12, h14, ?_, ?_, ?_, ?_⟩
  · rw [tb_n (by omega), e1]; exact c0
  · rw [tb_n (by omega), e2]; exact c1
  · rw [tb_n (by omega)]; exact x2
  · rw [uG_eq q3]; exact x3
  · rw [tb_n (by omega), q8]; exact c15
  · rw [tb_n (by omega), q6]; exact c16
  · rw [tb_n (by omega), q7]; exact c17
  · rw [tb_n (by omega)]; exact SeeT_same c8 q3 q4 q5
theorem RI_upd {E E' : Ev} {g g' : Gs} {S S' : St} (h : RI E g S) (e1 : eφ E' = eφ E) (e2 : eρ E' = eρ E) (q3 : gDn g' = gDn g) (q4 : gWy g' = gWy g) (q5 : gRn g' = gRn g) (e : ∀ k j, ¬ (8 ≤ k ∧ k < 15) → ¬ k = 15 → ¬ k = 25 → S'.1 k j = S.1 k j) (e4 : S'.2 = S.2) (hM : MaR E' g' S') (hK : KeI (gK g') S') (hC : CaR (gL g') S') : RI E' g' S' := by
  obtain ⟨d1, d2, d3, d4, d5, d6, d7, d8⟩ := h
  refine ⟨?_, ?_, by rw [e _ _ (by omega) (by omega) (by omega)]; exact d3, hM, hK, hC, DoI_eq d7 q3 q4 (fun k j _ => e k j (by omega) (by omega) (by omega)), CoR_eq d8 q3 q5 (fun j => e 33 j (by omega) (by omega) (by omega))⟩
  · rw [e1]; exact FilT_eq d1 (fun k i hk => e k i (by omega) (by omega) (by omega))
  · rw [e2]; exact RrT_eq d2 (fun k i hk => e k i (by omega) (by omega) (by omega))
theorem ok_fails {k : Nat} {Sc Sr : St} (h : INV k Sc Sr) : OK_fails (INV (k + 1)) Sc Sr := by
  intro p1 p2
  rcases idx p1 (n := 16) (by omega) with ⟨t, ht, rfl⟩ | hb
  · rcases idx p2 (n := 21) (by omega) with ⟨m, hm, rfl⟩ | hb2
    · obtain ⟨E, g, hE, hW, hc, hr⟩ := INV_mono k Sc Sr h
      have e5 : Sc.1 5 t = nI (gTf g t) := hc.2.2.2.2.2.1 t ht
      have e8 : Sr.1 8 t = nI (gTf g t) := hr.2.2.2.1.2.1 t ht
      refine ⟨.inr (nI (gTf g t), tb Sc 5 (upd (Sc.1 5) t (nI m))), nI (gTf g t), wi (wi Sr 47 0 (nI 0)) 8 t (nI m), ?_, ?_, fun e q => (by cases q), fun r Sd q => ?_⟩
      · unfold m_X6_fails m_X3_letFail
        rw [rot_t ht, zx_r, if_neg (nI_pos (by omega)), if_pos (by rw [le_nI (by omega) (by omega)]; omega), tg_5 ht, zo_e, ts_5 ht, zo_e, zo2_e, e5]
      · unfold m_X7_fails
        rw [rtg_t ht, zo_e, if_neg (by decide), isIn_t (a := 0) (b := 20) (by omega) (by omega) (by rw [nT (by omega)]; omega), zo_e, if_neg (by decide), goes_0, zo2_e, if_neg (by decide), zg_in ht (by omega), ri_n (by omega), wi_ne (by omega), e8, zb_e, zg_in ht (by omega), tn (by omega), zb_e]
      · cases q
        refine ⟨by rw [rs_v, wi_ne (by omega), wi_at]; rfl, rfl, E, sTf g (fu (gTf g) t m), hE, ?_, ?_, ?_⟩
        · obtain ⟨⟨k1, k2, k3, k4, k5, k6, k7, k8, k9, k10, k11⟩, w2⟩ := hW
          refine ⟨⟨k1, k2, k3, k4, k5, k6, fun a => ?_, k8, k9, k10, k11⟩, w2⟩
          show fu (gTf g) t m a ≤ 20
          unfold fu
          split
          · omega
          · exact k7 a
        · have hc' := hc
          obtain ⟨c0, c1, c2, c3, c4, c5, c12, c14, c15, c16, c17, c8⟩ := hc'
          refine RC_upd hc (by omega) rfl rfl rfl rfl rfl rfl rfl rfl ?_ (fun c x => ?_) ?_ ?_ ?_ ?_
          · rw [tb_n (by omega)]; exact c2
          · rw [tb_n (by omega)]; exact x
          · rw [tb_n (by omega)]; exact c4
          · rw [tb_s]
            intro a ha
            show _ = nI (fu (gTf g) t m a)
            by_cases hat : a = t
            · subst hat; rw [pk_us, fu_s]
            · rw [pk_un hat, fu_n hat]; exact c5 a ha
          · rw [tb_n (by omega)]; exact c12
          · rw [tb_n (by omega)]; exact c14
        · have hr' := RI_47 (v := nI 0) hr
          obtain ⟨d1, d2, d3, ⟨b1, b2, b3, b4, b5, b6⟩, d5, d6, d7, d8⟩ := hr'
          refine RI_upd (RI_47 (v := nI 0) hr) rfl rfl rfl rfl rfl (fun k j q1 q2 q3 => wi_ne (by omega)) rfl ⟨fun x hx => ?_, fun a ha => ?_, ?_, ?_, ?_, ?_⟩ (KeI_eq d5 (fun k j _ _ => wi_ne (by omega)) (fun _ _ _ _ => rfl)) (CaR_eq d6 (fun k j _ => wi_ne (by omega)) (fun _ => rfl))
          · rw [wi_ne (by omega), wi_ne (by omega)]; exact b1 x hx
          · show _ = nI (fu (gTf g) t m a)
            by_cases hat : a = t
            · subst hat; rw [wi_at, fu_s]
            · rw [wi_ne (by omega), fu_n hat]; exact b2 a ha
          · rw [wi_ne (by omega)]; exact b3
          · rw [wi_ne (by omega)]; exact b4
          · rw [wi_ne (by omega)]; exact b5
          · rw [wi_ne (by omega)]; exact b6
    · refine ⟨.inl 2, nI 0, wi Sr 47 0 (nI 2), ?_, ?_, fun e q => (by cases q; exact ⟨Or.inr rfl, wi_at, INV_47 h⟩), fun r Sd q => (by cases q)⟩
      · unfold m_X6_fails
        rw [rot_t ht, zx_r]
        by_cases h1 : p2 < 0
        · rw [if_pos h1]
        · rw [if_neg h1, if_neg (by rw [i_le (by omega)]; rw [i_lt0] at h1; omega)]
      · unfold m_X7_fails
        rw [rtg_t ht, zo_e, if_neg (by decide), isIn_f (a := 0) (b := 20) (by omega) (by omega) (by omega), zo_e, if_pos (by decide), goes_n (by omega), zo2_e, if_pos (by decide)]
  · refine ⟨.inl 1, nI 0, wi Sr 47 0 (nI 1), ?_, ?_, fun e q => (by cases q; exact ⟨Or.inl rfl, wi_at, INV_47 h⟩), fun r Sd q => (by cases q)⟩
    · unfold m_X6_fails
      rw [rot_f hb, zx_l]
    · unfold m_X7_fails
      rw [rtg_f hb, zo_e, if_pos (by decide), goes_n (by omega), zo2_e, if_pos (by decide)]
theorem bz_b {v : Int32} (h : bz v = true) : ∃ b, v = bI b := by
  rcases bz_c h with rfl | rfl
  · exact ⟨false, rfl⟩
  · exact ⟨true, rfl⟩
theorem bz_bI {b : Bool} : bz (bI b) = true := by cases b <;> decide
theorem ok_poison {k : Nat} {Sc Sr : St} (h : INV k Sc Sr) : OK_poison (INV (k + 1)) Sc Sr := by
  intro p1 p2 hbz
  obtain ⟨po, rfl⟩ := bz_b hbz
  rcases idx p1 (n := 3) (by omega) with ⟨m, hm, rfl⟩ | hb
  · obtain ⟨E, g, hE, hW, hc, hr⟩ := INV_mono k Sc Sr h
    have e4 := hc.2.2.2.2.1 m hm
    have e9 := hr.2.2.2.1.1 m hm
    refine ⟨.inr (bI (gAw g m), tb Sc 4 (upd (upd (Sc.1 4) (m * 2 + 1) (nI 0)) (m * 2 + 0) (bI po))), bI (gAw g m), wi (wi (wi Sr 47 0 (nI 0)) 9 m (bI po)) 10 m (nI 0), ?_, ?_, fun e q => (by cases q), fun r Sd q => ?_⟩
    · unfold m_X6_poison m_X3_bringBack
      rw [if_neg (nI_pos (by omega)), if_pos (by rw [lt_nI (by omega) (by omega)]; exact hm), away_v hc.2.2.2.2.1 hW.1.2.2.2.2.2.2.2.2.1 (by omega), zo_e, ts_4 hm (by omega), zo_e]
      cases po with
      | false =>
        rw [if_pos (by decide), ts_4 hm (by omega), zo_e, tb_tb, tb_s, bz_bI, zg_tr, zo2_e, bz_bI, zg_tr]
        rfl
      | true =>
        rw [if_neg (by decide), ts_4 hm (by omega), zo_e, tb_tb, tb_s, bz_bI, zg_tr, zo2_e, bz_bI, zg_tr]
        rfl
    · unfold m_X7_poison
      rw [isIn_t (a := 0) (b := 2) (by omega) (by omega) (by rw [nT (by omega)]; omega), zo_e, if_neg (by decide), goes_0, zo2_e, if_neg (by decide)]
      simp only [zg_in hm (show 3 ≤ 2147483648 by omega), tn (show m < 2147483648 by omega), ri_n (show m < 2147483648 by omega), zb_e, bz_bI, zg_tr]
      rw [wi_ne (by omega), e9.2, bz_bI, zg_tr]
    · cases q
      refine ⟨by rw [rs_v, wi_ne (by omega), wi_ne (by omega), wi_at]; rfl, rfl, (eφ E, eρ E, fu (ePo E) m po, eCk E), sAw g (fu (gAw g) m false), hE, ?_, ?_, ?_⟩
      · obtain ⟨⟨k1, k2, k3, k4, k5, k6, k7, k8, k9, k10, k11⟩, w2⟩ := hW
        have f0 : ∀ x, gAw g x = false → fu (gAw g) m false x = false := fun x hx => by
          unfold fu
          split
          · rfl
          · exact hx
        exact ⟨⟨k1, k2, k3, k4, k5, k6, k7, k8, f0 3 k9, fun e he => f0 _ (k10 e he), fun n q hd hq => f0 _ (k11 n q hd hq)⟩, fun n q hq => f0 _ (w2 n q hq)⟩
      · have hc' := hc
        obtain ⟨c0, c1, c2, c3, c4, c5, c12, c14, c15, c16, c17, c8⟩ := hc'
        refine RC_upd hc (by omega) rfl rfl rfl rfl rfl rfl rfl rfl ?_ (fun c x => ?_) ?_ ?_ ?_ ?_
        · rw [tb_n (by omega)]; exact c2
        · rw [tb_n (by omega)]; exact x
        · rw [tb_s]
          intro a ha
          show _ = bI (fu (ePo E) m po a) ∧ _ = bI (fu (gAw g) m false a)
          by_cases ham : a = m
          · subst ham
            rw [pk_us, pk_un (by omega), pk_us, fu_s, fu_s]
            exact ⟨rfl, rfl⟩
          · rw [pk_un (by omega), pk_un (by omega), pk_un (by omega), pk_un (by omega), fu_n ham, fu_n ham]
            exact c4 a ha
        · rw [tb_n (by omega)]; exact c5
        · rw [tb_n (by omega)]; exact c12
        · rw [tb_n (by omega)]; exact c14
      · have hr' := RI_47 (v := nI 0) hr
        obtain ⟨d1, d2, d3, ⟨b1, b2, b3, b4, b5, b6⟩, d5, d6, d7, d8⟩ := hr'
        refine RI_upd (RI_47 (v := nI 0) hr) rfl rfl rfl rfl rfl (fun k j q1 q2 q3 => by rw [wi_ne (by omega), wi_ne (by omega)]) rfl ⟨fun x hx => ?_, fun a ha => ?_, ?_, ?_, ?_, ?_⟩ (KeI_eq d5 (fun k j _ _ => by rw [wi_ne (by omega), wi_ne (by omega)]) (fun _ _ _ _ => rfl)) (CaR_eq d6 (fun k j _ => by rw [wi_ne (by omega), wi_ne (by omega)]) (fun _ => rfl))
        · show _ = bI (fu (ePo E) m po x) ∧ _ = bI (fu (gAw g) m false x)
          by_cases hxm : x = m
          · subst hxm
            rw [wi_ne (by omega), wi_at, wi_at, fu_s, fu_s]
            exact ⟨rfl, rfl⟩
          · rw [wi_ne (by omega), wi_ne (by omega), wi_ne (by omega), wi_ne (by omega), fu_n hxm, fu_n hxm]
            exact b1 x hx
        · rw [wi_ne (by omega), wi_ne (by omega)]; exact b2 a ha
        · rw [wi_ne (by omega), wi_ne (by omega)]; exact b3
        · rw [wi_ne (by omega), wi_ne (by omega)]; exact b4
        · rw [wi_ne (by omega), wi_ne (by omega)]; exact b5
        · rw [wi_ne (by omega), wi_ne (by omega)]; exact b6
  · refine ⟨.inl 1, nI 0, wi Sr 47 0 (nI 1), ?_, ?_, fun e q => (by cases q; exact ⟨rfl, wi_at, INV_47 h⟩), fun r Sd q => (by cases q)⟩
    · unfold m_X6_poison
      by_cases h1 : p1 < 0
      · rw [if_pos h1]
      · rw [if_neg h1, if_neg (by rw [i_lt (by omega)]; rw [i_lt0] at h1; omega)]
    · unfold m_X7_poison
      rw [isIn_f (a := 0) (b := 2) (by omega) (by omega) (by omega), zo_e, if_pos (by decide), goes_n (by omega), zo2_e, if_pos (by decide)]
theorem ok_checks {k : Nat} {Sc Sr : St} (h : INV k Sc Sr) : OK_checks (INV (k + 1)) Sc Sr := by
  intro p1 hbz
  obtain ⟨on, rfl⟩ := bz_b hbz
  obtain ⟨E, g, hE, hW, hc, hr⟩ := INV_mono k Sc Sr h
  have hc' := hc
  obtain ⟨c0, c1, c2, c3, c4, c5, c12, c14, c15, c16, c17, c8⟩ := hc'
  have hr' := RI_47 (v := nI 0) hr
  obtain ⟨d1, d2, d3, ⟨b1, b2, b3, b4, b5, b6⟩, d5, d6, d7, d8⟩ := hr'
  refine ⟨bI (eCk E), tb Sc 14 (upd (Sc.1 14) 0 (bI on)), wi (wi Sr 47 0 (nI 0)) 12 0 (bI on), ?_, ?_, (eφ E, eρ E, ePo E, on), g, hE, hW, ?_, ?_⟩
  · unfold m_X6_checks
    rw [show rs Sc 14 = bI (eCk E) from c14, zb_e, bz_bI, zg_tr, zb_e, bz_bI, zg_tr]
    rfl
  · unfold m_X7_checks
    rw [zb_e, show rs (wi Sr 47 0 (nI 0)) 12 = bI (eCk E) from b4, zb_e, bz_bI, zg_tr, zb_e, bz_bI, zg_tr]
  · refine RC_upd hc (by omega) rfl rfl rfl rfl rfl rfl rfl rfl ?_ (fun c x => ?_) ?_ ?_ ?_ ?_
    · rw [tb_n (by omega)]; exact c2
    · rw [tb_n (by omega)]; exact x
    · rw [tb_n (by omega)]; exact c4
    · rw [tb_n (by omega)]; exact c5
    · rw [tb_n (by omega)]; exact c12
    · rw [tb_s, pk_us]; rfl
  · refine RI_upd (RI_47 (v := nI 0) hr) rfl rfl rfl rfl rfl (fun k j q1 q2 q3 => wi_ne (by omega)) rfl ⟨fun x hx => ?_, fun a ha => ?_, ?_, wi_at, ?_, ?_⟩ (KeI_eq d5 (fun k j _ _ => wi_ne (by omega)) (fun _ _ _ _ => rfl)) (CaR_eq d6 (fun k j _ => wi_ne (by omega)) (fun _ => rfl))
    · rw [wi_ne (by omega), wi_ne (by omega)]; exact b1 x hx
    · rw [wi_ne (by omega)]; exact b2 a ha
    · rw [wi_ne (by omega)]; exact b3
    · rw [wi_ne (by omega)]; exact b5
    · rw [wi_ne (by omega)]; exact b6
theorem ok_vanish {k : Nat} {Sc Sr : St} (h : INV k Sc Sr) : OK_vanish (INV (k + 1)) Sc Sr := by
  intro p1
  rcases idx p1 (n := 21) (by omega) with ⟨m, hm, rfl⟩ | hb
  · obtain ⟨E, g, hE, hW, hc, hr⟩ := INV_mono k Sc Sr h
    have hc' := hc
    obtain ⟨c0, c1, c2, c3, c4, c5, c12, c14, c15, c16, c17, c8⟩ := hc'
    have hr' := RI_47 (v := nI 0) hr
    obtain ⟨d1, d2, d3, ⟨b1, b2, b3, b4, b5, b6⟩, d5, d6, d7, d8⟩ := hr'
    refine ⟨.inr (nI (gVn g), tb Sc 12 (upd (Sc.1 12) 0 (nI m))), nI (gVn g), wi (wi Sr 47 0 (nI 0)) 13 0 (nI m), ?_, ?_, fun e q => (by cases q), fun r Sd q => ?_⟩
    · unfold m_X6_vanish
      rw [if_neg (nI_pos (by omega)), if_pos (by rw [le_nI (by omega) (by omega)]; omega), show rs Sc 12 = nI (gVn g) from c12, zb_e, zb_e]
      rfl
    · unfold m_X7_vanish
      rw [isIn_t (a := 0) (b := 20) (by omega) (by omega) (by rw [nT (by omega)]; omega), zo_e, if_neg (by decide), goes_0, zo2_e, if_neg (by decide), show rs (wi Sr 47 0 (nI 0)) 13 = nI (gVn g) from b5, zb_e, zb_e]
    · cases q
      refine ⟨by rw [rs_v, wi_ne (by omega), wi_at]; rfl, rfl, E, sVn g m, hE, ?_, ?_, ?_⟩
      · obtain ⟨⟨k1, k2, k3, k4, k5, k6, k7, k8, k9, k10, k11⟩, w2⟩ := hW
        exact ⟨⟨k1, k2, k3, k4, k5, (by show m ≤ 20; omega), k7, k8, k9, k10, k11⟩, w2⟩
      · refine RC_upd hc (by omega) rfl rfl rfl rfl rfl rfl rfl rfl ?_ (fun c x => ?_) ?_ ?_ ?_ ?_
        · rw [tb_n (by omega)]; exact c2
        · rw [tb_n (by omega)]; exact x
        · rw [tb_n (by omega)]; exact c4
        · rw [tb_n (by omega)]; exact c5
        · rw [tb_s, pk_us]; rfl
        · rw [tb_n (by omega)]; exact c14
      · refine RI_upd (RI_47 (v := nI 0) hr) rfl rfl rfl rfl rfl (fun k j q1 q2 q3 => wi_ne (by omega)) rfl ⟨fun x hx => ?_, fun a ha => ?_, ?_, ?_, wi_at, ?_⟩ (KeI_eq d5 (fun k j _ _ => wi_ne (by omega)) (fun _ _ _ _ => rfl)) (CaR_eq d6 (fun k j _ => wi_ne (by omega)) (fun _ => rfl))
        · rw [wi_ne (by omega), wi_ne (by omega)]; exact b1 x hx
        · rw [wi_ne (by omega)]; exact b2 a ha
        · rw [wi_ne (by omega)]; exact b3
        · rw [wi_ne (by omega)]; exact b4
        · rw [wi_ne (by omega)]; exact b6
  · refine ⟨.inl 2, nI 0, wi Sr 47 0 (nI 1), ?_, ?_, fun e q => (by cases q; exact ⟨rfl, wi_at, INV_47 h⟩), fun r Sd q => (by cases q)⟩
    · unfold m_X6_vanish
      by_cases h1 : p1 < 0
      · rw [if_pos h1]
      · rw [if_neg h1, if_neg (by rw [i_le (by omega)]; rw [i_lt0] at h1; omega)]
    · unfold m_X7_vanish
      rw [isIn_f (a := 0) (b := 20) (by omega) (by omega) (by omega), zo_e, if_pos (by decide), goes_n (by omega), zo2_e, if_pos (by decide)]
/-! how many are filled -/
theorem cac_fill {L : List En} {c : Nat} {f : Nat → Int32} (h : CacT L c f) (hE : ∀ e ∈ L, EOK e) : cntB (fun r => decide (f (r * 53 + 1) ≠ -1)) 100 = L.length := by
  obtain ⟨M, h1, h2⟩ := h
  have h3 := CacM_cnt h2
  have h4 : M.length = L.length := by rw [← h1, List.length_map]
  rw [← h4, ← h3]
  refine cntB_eq 100 (fun i hi => ?_)
  by_cases hm : ∃ m ∈ M, m.1 = i
  · obtain ⟨m, q1, rfl⟩ := hm
    have hk := (hE m.2.2 (by rw [← h1]; exact List.mem_map_of_mem (f := fun m => m.2.2) q1)).1.1
    rw [decide_eq_true (show ∃ m2 ∈ M, m2.1 = m.1 from ⟨m, q1, rfl⟩)]
    refine decide_eq_true ?_
    rw [h2.2.2.1 m q1 1 (by omega)]
    show ¬ rowC _ _ _ _ _ _ 1 = -1
    rw [rowC_ru (by omega)]
    exact nI_n1 (by omega)
  · rw [decide_eq_false hm]
    refine decide_eq_false (fun q => q (h2.2.2.2 i hi (fun m q1 q2 => hm ⟨m, q1, q2⟩) 1 (by omega)))
theorem cl3_l {x : Int32} : ∀ (k d i : Nat) (S : St), i + d = 100 → d < k → (∀ j, j < i * 53 → S.1 3 j = -1) → ∃ f, zl2 (m_X6_clearAll_B7 3 x) k S (nI i) = some (x, tb S 3 f) ∧ ∀ j, j < 5300 → f j = -1 := by
  intro k
  induction k with
  | zero => intro d i S _ h; omega
  | succ k ih =>
    intro d i S h1 h2 h3
    show ∃ f, m_X6_clearAll_B7 3 x (zl2 (m_X6_clearAll_B7 3 x) k) S (nI i) = _ ∧ _
    generalize zl2 (m_X6_clearAll_B7 3 x) k = G at ih ⊢
    unfold m_X6_clearAll_B7
    rw [show mny 3 = nI 100 from rfl]
    simp only [nI_add, zb_e]
    match d, h1, h2 with
    | 0, h1, h2 =>
      rw [if_pos (by rw [le_nI (by omega) (by omega)]; omega)]
      exact ⟨S.1 3, by rw [tb_id], fun j hj => h3 j (by omega)⟩
    | d + 1, h1, h2 =>
      have hcl := clear_v (k := 3) (by omega) (S := S) (r := i) (by show i < 100; omega)
      have hcl : m_X4_clear 3 S (nI i) = some (tb S 3 (clrF (S.1 3) (i * 53) 53 (-1))) := hcl
      rw [if_neg (by rw [le_nI (by omega) (by omega)]; omega), hcl, zo_e]
      obtain ⟨f, f1, f2⟩ := ih d (i + 1) (tb S 3 (clrF (S.1 3) (i * 53) 53 (-1))) (by omega) (by omega) (fun j hj => by
        rw [tb_s]
        unfold clrF
        by_cases hj2 : i * 53 ≤ j ∧ j < i * 53 + 53
        · rw [if_pos hj2]
        · rw [if_neg hj2]; exact h3 j (by omega))
      exact ⟨f, by rw [f1, tb_tb], f2⟩
theorem cl2_l {x : Int32} : ∀ (k d i : Nat) (S : St), i + d = 32 → d < k → (∀ j, j < i * 53 → S.1 2 j = -1) → ∃ f, zl2 (m_X6_clearAll_B7 2 x) k S (nI i) = some (x, tb S 2 f) ∧ ∀ j, j < 1696 → f j = -1 := by
  intro k
  induction k with
  | zero => intro d i S _ h; omega
  | succ k ih =>
    intro d i S h1 h2 h3
    show ∃ f, m_X6_clearAll_B7 2 x (zl2 (m_X6_clearAll_B7 2 x) k) S (nI i) = _ ∧ _
    generalize zl2 (m_X6_clearAll_B7 2 x) k = G at ih ⊢
    unfold m_X6_clearAll_B7
    rw [show mny 2 = nI 32 from rfl]
    simp only [nI_add, zb_e]
    match d, h1, h2 with
    | 0, h1, h2 =>
      rw [if_pos (by rw [le_nI (by omega) (by omega)]; omega)]
      exact ⟨S.1 2, by rw [tb_id], fun j hj => h3 j (by omega)⟩
    | d + 1, h1, h2 =>
      rw [if_neg (by rw [le_nI (by omega) (by omega)]; omega), clr2_v (by omega), zo_e]
      obtain ⟨f, f1, f2⟩ := ih d (i + 1) (tb S 2 (clrF (S.1 2) (i * 53) 53 (-1))) (by omega) (by omega) (fun j hj => by
        rw [tb_s]
        unfold clrF
        by_cases hj2 : i * 53 ≤ j ∧ j < i * 53 + 53
        · rw [if_pos hj2]
        · rw [if_neg hj2]; exact h3 j (by omega))
      exact ⟨f, by rw [f1, tb_tb], f2⟩
theorem fill3 {E : Ev} {T : Nat} {g : Gs} {S : St} (hg : WG g) (hc : RC E 0 T g S) : m_X4_howManyFilled 3 S = some (nI (gL g).length) := by
  obtain ⟨c, x1, -⟩ := hc.2.2.2.1
  have h := filled_v (k := 3) (by omega) (by decide) (S := S)
  have h : m_X4_howManyFilled 3 S = some (nI (cntB (fun r => decide (S.1 3 (r * 53 + 1) ≠ -1)) 100)) := h
  rw [h, cac_fill x1 hg.2.1]
theorem ok_entries {k : Nat} {Sc Sr : St} (h : INV k Sc Sr) : OK_entries (INV (k + 1)) Sc Sr := by
  obtain ⟨E, g, hE, hW, hc, hr⟩ := id h
  refine ⟨nI (gL g).length, wi Sr 47 0 (nI 0), ?_, ?_, INV_47 h⟩
  · unfold m_X6_entries
    rw [fill3 hW.1 hc, zo_e]
  · unfold m_X7_entries
    rw [zb_e, show rs (wi Sr 47 0 (nI 0)) 25 = nI (gL g).length from hr.2.2.2.2.2.1.1]
theorem ok_empty {k : Nat} {Sc Sr : St} (h : INV k Sc Sr) : OK_empty (INV (k + 1)) Sc Sr := by
  obtain ⟨E, g, hE, hW, hc, hr⟩ := INV_mono k Sc Sr h
  obtain ⟨f, f1, f2⟩ := cl3_l (x := nI (gL g).length) FU 100 0 Sc (by omega) (FU_gt (by omega)) (fun j hj => by omega)
  have hc' := hc
  obtain ⟨c0, c1, c2, c3, c4, c5, c12, c14, c15, c16, c17, c8⟩ := hc'
  have hr' := RI_47 (v := nI 0) hr
  obtain ⟨d1, d2, d3, d4, d5, d6, d7, d8⟩ := hr'
  refine ⟨nI (gL g).length, tb Sc 3 f, wi (wi Sr 47 0 (nI 0)) 25 0 (nI 0), ?_, ?_, E, sL g [], hE, ?_, ?_, ?_⟩
  · unfold m_X6_empty m_X6_clearAll
    rw [fill3 hW.1 hc, zo_e, f1, zo2_e]
  · unfold m_X7_empty
    rw [zb_e, show rs (wi Sr 47 0 (nI 0)) 25 = nI (gL g).length from hr.2.2.2.2.2.1.1, zb_e, zb_e]
  · obtain ⟨⟨k1, k2, k3, k4, k5, k6, k7, k8, k9, k10, k11⟩, w2⟩ := hW
    exact ⟨⟨k1, fun e he => (by cases he), Nat.zero_le _, List.Pairwise.nil, k5, k6, k7, k8, k9, fun e he => (by cases he), k11⟩, w2⟩
  · refine RC_upd hc (by omega) rfl rfl rfl rfl rfl rfl rfl rfl ?_ (fun c x => ?_) ?_ ?_ ?_ ?_
    · rw [tb_n (by omega)]; exact c2
    · rw [tb_s]
      exact ⟨[], rfl, fun m hm => (by cases hm), List.Pairwise.nil, fun m hm => (by cases hm), fun i hi _ p hp => f2 _ (by omega)⟩
    · rw [tb_n (by omega)]; exact c4
    · rw [tb_n (by omega)]; exact c5
    · rw [tb_n (by omega)]; exact c12
    · rw [tb_n (by omega)]; exact c14
  · refine RI_upd (RI_47 (v := nI 0) hr) rfl rfl rfl rfl rfl (fun k j q1 q2 q3 => wi_ne (by omega)) rfl (MaR_eq d4 rfl rfl rfl rfl rfl (fun k j _ _ => wi_ne (by omega))) (KeI_eq d5 (fun k j _ _ => wi_ne (by omega)) (fun _ _ _ _ => rfl)) ⟨wi_at, fun i e he => ?_⟩
    have he : ([] : List En)[i]? = some e := he
    simp at he
theorem fg_l {S0 : St} {f : Nat → Bool} (hf : ∀ j, j < 32 → S0.1 15 j = bI (f j)) : ∀ (k d i : Nat) (S : St), i + d = 32 → d < k → (∀ j, j < 32 → S.1 15 j = if j < i then nI 0 else S0.1 15 j) → (∀ k j, ¬ k = 15 → S.1 k j = S0.1 k j) → S.2 = S0.2 →
    ∃ S', zl3 m_X7_forget_B9 k S (nI (cntB f i)) (nI i) = some (nI (cntB f 32), S') ∧ (∀ j, j < 32 → S'.1 15 j = nI 0) ∧ (∀ k j, ¬ k = 15 → S'.1 k j = S0.1 k j) ∧ S'.2 = S0.2 := by
  intro k
  induction k with
  | zero => intro d i S _ h; omega
  | succ k ih =>
    intro d i S h1 h2 h3 h4 h5
    show ∃ S', m_X7_forget_B9 (zl3 m_X7_forget_B9 k) S (nI (cntB f i)) (nI i) = _ ∧ _
    generalize zl3 m_X7_forget_B9 k = G at ih ⊢
    unfold m_X7_forget_B9
    match d, h1, h2 with
    | 0, h1, h2 =>
      rw [if_pos (by rw [le_nI (by omega) (by omega)]; omega), show i = 32 by omega]
      exact ⟨S, rfl, fun j hj => by rw [h3 j hj, if_pos (by omega)], h4, h5⟩
    | d + 1, h1, h2 =>
      have hi : i < 32 := by omega
      rw [if_neg (by rw [le_nI (by omega) (by omega)]; omega)]
      simp only [zg_in hi (show 32 ≤ 2147483648 by omega), tn (show i < 2147483648 by omega), ri_n (show i < 2147483648 by omega), nI_add, zb_e]
      have e15 : S.1 15 i = bI (f i) := by rw [h3 i hi, if_neg (by omega), hf i hi]
      have nx := ih d (i + 1) (wi S 15 i (nI 0)) (by omega) (by omega) (fun j hj => by
        by_cases hji : j = i
        · subst hji; rw [wi_at, if_pos (by omega)]
        · rw [wi_ne (by omega), h3 j hj]
          by_cases hlt : j < i
          · rw [if_pos hlt, if_pos (by omega)]
          · rw [if_neg hlt, if_neg (by omega)]) (fun k2 j q => by rw [wi_ne (by omega)]; exact h4 k2 j q) h5
      rw [e15]
      have ec : cntB f (i + 1) = cntB f i + (if f i then 1 else 0) := rfl
      rw [ec] at nx
      cases hfi : f i with
      | false =>
        rw [hfi] at nx
        rw [if_pos (by decide)]
        exact nx
      | true =>
        rw [hfi] at nx
        rw [if_neg (by decide)]
        exact nx
theorem ok_forget {k : Nat} {Sc Sr : St} (h : INV k Sc Sr) : OK_forget (INV (k + 1)) Sc Sr := by
  obtain ⟨E, g, hE, hW, hc, hr⟩ := INV_mono k Sc Sr h
  have hc' := hc
  obtain ⟨c0, c1, c2, c3, c4, c5, c12, c14, c15, c16, c17, c8⟩ := hc'
  have hr' := RI_47 (v := nI 0) hr
  obtain ⟨d1, d2, d3, d4, d5, d6, d7, d8⟩ := hr'
  have hfill : m_X4_howManyFilled 2 Sc = some (nI (cntB (fun n => (gK g n).isSome) 32)) := by
    have q := filled_v (k := 2) (by omega) (by decide) (S := Sc)
    have q : m_X4_howManyFilled 2 Sc = some (nI (cntB (fun r => decide (Sc.1 2 (r * 53 + 1) ≠ -1)) 32)) := q
    rw [q]
    congr 2
    refine cntB_eq 32 (fun i hi => ?_)
    rw [c2 i hi 1 (by omega)]
    cases hk : gK g i with
    | none => exact decide_eq_false (fun z => z rfl)
    | some q2 =>
      refine decide_eq_true ?_
      show ¬ rowC _ _ _ _ _ _ 1 = -1
      rw [rowC_ru (by omega)]
      exact nI_n1 (by have := (hW.1.1 i q2 hk).1.1; omega)
  obtain ⟨f, f1, f2⟩ := cl2_l (x := nI (cntB (fun n => (gK g n).isSome) 32)) FU 32 0 Sc (by omega) (FU_gt (by omega)) (fun j hj => by omega)
  obtain ⟨S', x1, x2, x3, x4⟩ := fg_l (S0 := wi Sr 47 0 (nI 0)) (f := fun n => (gK g n).isSome) (fun j hj => by
    obtain ⟨y1, y2⟩ := d5 j hj
    cases hk : gK g j with
    | none => exact y1 hk
    | some q => exact (y2 q hk).1) FU 32 0 (wi Sr 47 0 (nI 0)) (by omega) (FU_gt (by omega)) (fun j hj => by rw [if_neg (by omega)]) (fun _ _ _ => rfl) rfl
  refine ⟨nI (cntB (fun n => (gK g n).isSome) 32), tb Sc 2 f, S', ?_, ?_, E, sK g (fun _ => none), hE, ?_, ?_, ?_⟩
  · unfold m_X6_forget m_X6_clearAll
    rw [hfill, zo_e, f1, zo2_e]
  · unfold m_X7_forget
    rw [zb_e]
    exact x1
  · obtain ⟨⟨k1, k2, k3, k4, k5, k6, k7, k8, k9, k10, k11⟩, w2⟩ := hW
    exact ⟨⟨fun n q hq => (by cases hq), k2, k3, k4, k5, k6, k7, k8, k9, k10, fun n q _ hq => (by cases hq)⟩, fun n q hq => (by cases hq)⟩
  · refine RC_upd hc (by omega) rfl rfl rfl rfl rfl rfl rfl rfl ?_ (fun c x => ?_) ?_ ?_ ?_ ?_
    · rw [tb_s]
      intro n hn p hp
      rw [f2 _ (by omega)]
      rfl
    · rw [tb_n (by omega)]; exact x
    · rw [tb_n (by omega)]; exact c4
    · rw [tb_n (by omega)]; exact c5
    · rw [tb_n (by omega)]; exact c12
    · rw [tb_n (by omega)]; exact c14
  · exact RI_upd (RI_47 (v := nI 0) hr) rfl rfl rfl rfl rfl (fun k j q1 q2 q3 => x3 k j q2) x4 (MaR_eq d4 rfl rfl rfl rfl rfl (fun k j _ _ => x3 k j (by omega))) (fun n hn => ⟨fun _ => x2 n hn, fun q hq => (by cases hq)⟩) (CaR_eq d6 (fun k j _ => x3 k j (by omega)) (fun _ => by rw [x4]))
theorem ok_leaks {k : Nat} {Sc Sr : St} (h : INV k Sc Sr) : OK_leaks (INV (k + 1)) Sc Sr := by
  obtain ⟨E, g, hE, hW, hc, hr⟩ := id h
  refine ⟨gLk g, wi Sr 47 0 (nI 0), ?_, ?_, INV_47 h⟩
  · unfold m_X6_leaks
    rw [show rs Sc (17 + 2 * 0) = gLk g from hc.2.2.2.2.2.2.2.2.2.2.1]
  · unfold m_X7_leaks
    rw [zb_e, show rs (wi Sr 47 0 (nI 0)) 14 = gLk g from hr.2.2.2.1.2.2.2.2.2]
def awS (aw : Nat → Bool) : Nat → Nat → Int32 → Int32
  | 0, _, x => x
  | d + 1, i, x => awS aw d (i + 1) (if aw i = true then x ||| (nI 1 <<< (nI i &&& 31)) else x)
theorem ok_away {k : Nat} {Sc Sr : St} (h : INV k Sc Sr) : OK_away (INV (k + 1)) Sc Sr := by
  obtain ⟨E, g, hE, hW, hc, hr⟩ := id h
  refine ⟨awS (gAw g) 3 0 (nI 0), wi Sr 47 0 (nI 0), ?_, ?_, INV_47 h⟩
  · have lp : ∀ (k d i : Nat) (x : Int32), i + d = 3 → d < k → zl2 (m_X3_allAway_B4 Sc) k x (nI i) = some (awS (gAw g) d i x) := by
      intro k
      induction k with
      | zero => intro d i x _ h; omega
      | succ k ih =>
        intro d i x h1 h2
        show m_X3_allAway_B4 Sc (zl2 (m_X3_allAway_B4 Sc) k) x (nI i) = _
        generalize zl2 (m_X3_allAway_B4 Sc) k = G at ih ⊢
        unfold m_X3_allAway_B4
        simp only [nI_add, zb_e]
        match d, h1, h2 with
        | 0, h1, h2 => rw [if_pos (by rw [le_nI (by omega) (by omega)]; omega)]; rfl
        | d + 1, h1, h2 =>
          rw [if_neg (by rw [le_nI (by omega) (by omega)]; omega), away_v hc.2.2.2.2.1 hW.1.2.2.2.2.2.2.2.2.1 (by omega), zo_e, ih d (i + 1) _ (by omega) (by omega), ih d (i + 1) _ (by omega) (by omega), awS]
          cases gAw g i with
          | false => rw [if_pos (by decide), if_neg (by decide)]
          | true => rw [if_neg (by decide), if_pos rfl]
    unfold m_X6_away m_X3_allAway
    rw [lp FU 3 0 (nI 0) (by omega) (FU_gt (by omega)), zo_e]
  · have lp : ∀ (k d i : Nat) (x : Int32), i + d = 3 → d < k → zl2 (m_X7_away_B9 (wi Sr 47 0 (nI 0))) k x (nI i) = some (awS (gAw g) d i x, wi Sr 47 0 (nI 0)) := by
      intro k
      induction k with
      | zero => intro d i x _ h; omega
      | succ k ih =>
        intro d i x h1 h2
        show m_X7_away_B9 (wi Sr 47 0 (nI 0)) (zl2 (m_X7_away_B9 (wi Sr 47 0 (nI 0))) k) x (nI i) = _
        generalize zl2 (m_X7_away_B9 (wi Sr 47 0 (nI 0))) k = G at ih ⊢
        unfold m_X7_away_B9
        simp only [nI_add, zb_e]
        match d, h1, h2 with
        | 0, h1, h2 => rw [if_pos (by rw [le_nI (by omega) (by omega)]; omega)]; rfl
        | d + 1, h1, h2 =>
          rw [if_neg (by rw [le_nI (by omega) (by omega)]; omega), zg_in (show i < 3 by omega) (by omega), ri_n (by omega), wi_ne (by omega), (hr.2.2.2.1.1 i (by omega)).2, show x ||| nI 0 = x from Int32.or_zero, ih d (i + 1) _ (by omega) (by omega), ih d (i + 1) _ (by omega) (by omega), awS]
          cases gAw g i with
          | false => rw [if_pos (by decide), if_neg (by decide)]
          | true => rw [if_neg (by decide), if_pos rfl]
    unfold m_X7_away
    rw [zb_e, lp FU 3 0 (nI 0) (by omega) (FU_gt (by omega))]
theorem hm_v {E : Ev} {T : Nat} {g : Gs} {S : St} (hc : RC E 0 T g S) {x : Nat} (hx : x ≤ 5) : m_X2_howMany 0 S (nI x) = some (nI (cG g x)) := by
  have c8 := hc.2.2.2.2.2.2.2.2.2.2.2
  have lp : ∀ (k d i : Nat), i + d = 32 → d < k → zl2 (m_X2_howMany_B4 0 S (nI x)) k (nI (cntB (fun n => decide (gDn g n = x)) i)) (nI i) = some (nI (cG g x)) := by
    intro k
    induction k with
    | zero => intro d i _ h; omega
    | succ k ih =>
      intro d i h1 h2
      show m_X2_howMany_B4 0 S (nI x) (zl2 (m_X2_howMany_B4 0 S (nI x)) k) _ (nI i) = _
      generalize zl2 (m_X2_howMany_B4 0 S (nI x)) k = G at ih ⊢
      unfold m_X2_howMany_B4
      simp only [nI_add, zb_e]
      match d, h1, h2 with
      | 0, h1, h2 => rw [if_pos (by rw [le_nI (by omega) (by omega)]; omega), show i = 32 by omega]; rfl
      | d + 1, h1, h2 =>
        obtain ⟨s1, s2, -⟩ := c8 i (by omega)
        have nx := ih d (i + 1) (by omega) (by omega)
        rw [if_neg (by rw [le_nI (by omega) (by omega)]; omega), tg_s (b := 0) (by omega) (by omega) (by omega), zo_e, s2]
        have ec : cntB (fun n => decide (gDn g n = x)) (i + 1) = cntB (fun n => decide (gDn g n = x)) i + (if decide (gDn g i = x) = true then 1 else 0) := rfl
        rw [ec] at nx
        by_cases hd : gDn g i = x
        · rw [decide_eq_true hd] at nx
          rw [if_pos (by rw [hd])]
          exact nx
        · rw [decide_eq_false hd] at nx
          rw [if_neg (nI_ne (by omega) (by omega) hd)]
          exact nx
  exact lp FU 32 0 (by omega) (FU_gt (by omega))
theorem ok_counts {k : Nat} {Sc Sr : St} (h : INV k Sc Sr) : OK_counts (INV (k + 1)) Sc Sr := by
  intro p1
  rcases idx p1 (n := 4) (by omega) with ⟨m, hm, rfl⟩ | hb
  · obtain ⟨E, g, hE, hW, hc, hr⟩ := id h
    obtain ⟨q0, q1, q2, q3⟩ := hr.2.2.2.2.2.2.2
    have hu : uG g ≤ 32 := cntB_le 32
    have rr : m_X7_counts Sr (nI m) = some (Sr.1 33 m, wi Sr 47 0 (nI 0)) := by
      unfold m_X7_counts
      rw [isIn_t (a := 0) (b := 3) (by omega) (by omega) (by rw [nT (by omega)]; omega), zo_e, if_neg (by decide), goes_0, zo2_e, if_neg (by decide), zg_in hm (by omega), ri_n (by omega), wi_ne (by omega)]
    have cc : ∀ v, (if nI m = 0 then some (Sum.inr (rs Sc (16 + 2 * 0), Sc)) else if nI m = nI 1 then (zo (m_X2_howMany 0 Sc (nI 2)) fun x3 => some (Sum.inr (x3, Sc))) else if nI m = nI 2 then (zo (m_X2_howMany 0 Sc (nI 1)) fun x2 => some (Sum.inr (x2, Sc))) else (zo (m_X2_howMany 0 Sc (nI 0)) fun x1 => some (Sum.inr (nI 32 - x1, Sc)))) = some (Sum.inr (v, Sc)) → m_X6_counts Sc (nI m) = some (.inr (v, Sc)) := fun v hv => by
      unfold m_X6_counts
      rw [if_neg (nI_pos (by omega)), if_pos (by rw [lt_nI (by omega) (by omega)]; exact hm)]
      exact hv
    refine ⟨.inr (Sr.1 33 m, Sc), Sr.1 33 m, wi Sr 47 0 (nI 0), cc _ ?_, rr, fun e q => (by cases q), fun r Sd q => (by cases q; exact ⟨wi_at, rfl, INV_47 h⟩)⟩
    have hm4 : m = 0 ∨ m = 1 ∨ m = 2 ∨ m = 3 := by omega
    rcases hm4 with rfl | rfl | rfl | rfl
    · rw [if_pos (by decide), q0, show rs Sc (16 + 2 * 0) = nI (gRn g) from hc.2.2.2.2.2.2.2.2.2.1]
    · rw [if_neg (by decide), if_pos rfl, hm_v hc (by omega), zo_e, q1]
    · rw [if_neg (by decide), if_neg (by decide), if_pos rfl, hm_v hc (by omega), zo_e, q2]
    · rw [if_neg (by decide), if_neg (by decide), if_neg (by decide), hm_v hc (by omega), zo_e, q3, show cG g 0 = uG g from rfl, pk_sub hu]
  · refine ⟨.inl 2, nI 0, wi Sr 47 0 (nI 1), ?_, ?_, fun e q => (by cases q; exact ⟨rfl, wi_at, INV_47 h⟩), fun r Sd q => (by cases q)⟩
    · unfold m_X6_counts
      by_cases h1 : p1 < 0
      · rw [if_pos h1]
      · rw [if_neg h1, if_neg (by rw [i_lt (by omega)]; rw [i_lt0] at h1; omega)]
    · unfold m_X7_counts
      rw [isIn_f (a := 0) (b := 3) (by omega) (by omega) (by omega), zo_e, if_pos (by decide), goes_n (by omega), zo2_e, if_pos (by decide)]
