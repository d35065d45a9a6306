theorem AF_dn {g g' : Gs} {n : Nat} (h : AF g g') (h5 : gDn g n = 5) : gDn g' n = 5 := (h.1 n).mpr h5
/-- the action is run, what came is kept -/
theorem go_v {E : Ev} {b T n : Nat} (hb : b < 2) (hE : EvOK E) {g : Gs} {S : St} {r : Rul} {rs : List Rd} (hn : n < 32) (hT : T < 1000000) (hg : WG g) (h5 : gDn g n = 5) (h : RC E b T g S) (hF : FrR S (9 + 2 * b) n r rs) (hr : RulOK r) (hx : ∀ x ∈ rs, RdGd x) (hw : WFr r (n % 2) rs) (hk : ∀ a ∈ gL g, ¬ keyE a = keyOf r (n % 2) rs) :
    ∃ S', (zo2 (m_X2_runUntilGood b S (nI n)) fun x9 S10 =>
        if x9 = (-1) then (zo2 (m_X2_fail b S10 (nI n) (-5)) fun x16 S17 => some (x16, S17))
        else zo (m_X2_resultOf b S10 (nI n)) fun x11 => zo (m_X2_tell b S10 (nI n) x9 x11) fun S12 => zo (m_X0_add (9 + 2 * b) S12 (nI n)) fun S13 => zo2 (m_X2_keep b S13 (nI n) (nI 3)) fun x14 S15 => some (x14, S15)) = some (enA (ago E n r rs g).1, S') ∧ RC E b (T + 1) (ago E n r rs g).2 S' ∧ OUT (9 + 2 * b) n S S' := by
  obtain ⟨S1, a1, a2, a3⟩ := run_l hb hn 0 FU 3 g S (by omega) (FU_gt (by omega)) hg h
  obtain ⟨o, ta, tb2, tc, e, y1, y2, y3⟩ := arun_c (t := n / 2) 3 hg
  have hg1 : WG (rest3 g ta tb2 tc) := WG_rest3 hg y1 y2
  have a1 : m_X2_runUntilGood b S (nI n) = some ((match (arun (n / 2) 3 g).1 with | none => -1 | some m => nI m), S1) := a1
  rw [a1, zo2_e]
  unfold ago
  rw [e] at a2 ⊢
  have hF1 := FrR_eq hF a3
  cases o with
  | none =>
    show ∃ S', (if (-1 : Int32) = -1 then _ else _) = some (enA (afail n 5 (rest3 g ta tb2 tc)).1, S') ∧ RC E b (T + 1) (afail n 5 (rest3 g ta tb2 tc)).2 S' ∧ _
    rw [if_pos rfl]
    obtain ⟨S', b1, b2, b3⟩ := fail_v hb (k := 5) hn (g := rest3 g ta tb2 tc) h5 a2
    have b1 : m_X2_fail b S1 (nI n) (-5) = some (enA (afail n 5 (rest3 g ta tb2 tc)).1, S') := b1
    rw [b1, zo2_e]
    exact ⟨S', rfl, RC_T b2 (by omega), OUT_eq (b3.trans a3)⟩
  | some m =>
    obtain ⟨m3, m4⟩ := y3 m rfl
    have h0 : FilT (eφ E) (S1.1 0) := a2.1
    show ∃ S', (if nI m = -1 then _ else _) = _ ∧ _ ∧ _
    rw [if_neg (nI_n1 (by omega)), res_v hb hn hE.1 h0 hF1 hr (fun x q => (hx x q).1) (WFr_le hr hw), zo_e]
    obtain ⟨S2, b1, b2, b3, b4, b5, b6⟩ := tell_v hb hn hg1 a2 hF1 m3 (ares_lt (E := E) (r := r) (rs := rs))
    obtain ⟨t1, t2, t3, t4, t5, t6, t7⟩ := atell_c (E := E) (res := ares E r rs) hg1 m3 ares_lt m4
    rw [b1, zo_e]
    have hadd := add_v hb hn hT t1 b2 b3 b4 b5
    obtain ⟨S3, c1, c2, c3⟩ := hadd
    rw [c1, zo_e]
    have d5 : gDn (aadd (r, n % 2, rs, (atell E m (ares E r rs) (rest3 g ta tb2 tc)).1.1, (atell E m (ares E r rs) (rest3 g ta tb2 tc)).1.2) (atell E m (ares E r rs) (rest3 g ta tb2 tc)).2) n = 5 := AF_dn t2 h5
    obtain ⟨S', f1, f2, f3⟩ := keep_v hb (how := 3) hn d5 (by omega) (by omega) c2 (FrR_eq b3 c3) (by rw [c3]; exact b4) (by rw [c3]; exact b5)
    rw [f1, zo2_e]
    exact ⟨S', rfl, f2, OUT_tr (OUT_tr (OUT_eq a3) b6) (OUT_eq (f3.trans c3))⟩
/-- behind reading: fetched, or run -/
theorem fr_v {E : Ev} {b T n : Nat} (hb : b < 2) (hE : EvOK E) {g : Gs} {S : St} {r : Rul} {rs : List Rd} (hn : n < 32) (hT : T < 1000000) (hg : WG g) (h5 : gDn g n = 5) (h : RC E b T g S) (hF : FrR S (9 + 2 * b) n r rs) (hr : RulOK r) (hx : ∀ x ∈ rs, RdGd x) (hw : WFr r (n % 2) rs) :
    ∃ S', (zo2 (m_X2_isFetched b S (nI n)) fun x7 S8 =>
      if x7 = 0 then
        zo2 (m_X2_runUntilGood b S8 (nI n)) fun x9 S10 =>
        if x9 = (-1) then (zo2 (m_X2_fail b S10 (nI n) (-5)) fun x16 S17 => some (x16, S17))
        else zo (m_X2_resultOf b S10 (nI n)) fun x11 => zo (m_X2_tell b S10 (nI n) x9 x11) fun S12 => zo (m_X0_add (9 + 2 * b) S12 (nI n)) fun S13 => zo2 (m_X2_keep b S13 (nI n) (nI 3)) fun x14 S15 => some (x14, S15)
      else zo2 (m_X2_keep b S8 (nI n) (nI 2)) fun x18 S19 => some (x18, S19)) = some (enA (afet E n r rs g).1, S') ∧ RC E b (T + 1) (afet E n r rs g).2 S' ∧ OUT (9 + 2 * b) n S S' := by
  have hf := fet_v hb hn hg h hF hr (fun x q => (hx x q).1) (WFr_le hr hw)
  have hg' := hg
  obtain ⟨k1, k2, k3, k4, k5, k6, k7, k8, k9, k10, k11⟩ := hg'
  unfold afet
  cases ho : (gL g).find? (sameK r (n % 2) rs) with
  | none =>
    rw [ho] at hf
    have hf : m_X2_isFetched b S (nI n) = some (nI 0, S) := hf
    rw [hf, zo2_e, if_pos (by decide)]
    exact go_v hb hE hn hT hg h5 h hF hr hx hw (fun a h1 q => List.find?_eq_none.mp ho a h1 (dcP_t.mpr q))
  | some e =>
    rw [ho] at hf
    obtain ⟨f1, f2⟩ := hf
    show ∃ S', _ = some (enA (if 0 < gVn g then ago E n r rs (sL (sVn g (gVn g - 1)) ((gL g).filter (fun e => !sameK r (n % 2) rs e))) else akeep n 2 r rs e.2.2.2.1 e.2.2.2.2 g).1, S') ∧ RC E b (T + 1) (if 0 < gVn g then ago E n r rs (sL (sVn g (gVn g - 1)) ((gL g).filter (fun e => !sameK r (n % 2) rs e))) else akeep n 2 r rs e.2.2.2.1 e.2.2.2.2 g).2 S' ∧ _
    by_cases hv : 0 < gVn g
    · obtain ⟨S1, a1, a2, a3⟩ := f1 hv
      rw [if_pos hv, a1, zo2_e, if_pos (by decide)]
      have hg2 : WG (sL (sVn g (gVn g - 1)) ((gL g).filter (fun e => !sameK r (n % 2) rs e))) := by
        refine ⟨k1, fun x h1 => k2 x (List.mem_filter.mp h1).1, Nat.le_trans (List.length_filter_le _ _) k3, k4.filter _, k5, ?_, k7, k8, k9, fun x h1 => k10 x (List.mem_filter.mp h1).1, k11⟩
        show gVn g - 1 ≤ 20
        omega
      obtain ⟨S', b1, b2, b3⟩ := go_v hb hE hn hT hg2 h5 a2 (FrR_eq hF a3) hr hx hw (fun a h1 q => by
        have h2 := (List.mem_filter.mp h1).2
        have h3 : sameK r (n % 2) rs a = true := dcP_t.mpr q
        rw [h3] at h2
        cases h2)
      exact ⟨S', b1, b2, OUT_tr (OUT_eq a3) b3⟩
    · obtain ⟨f, a1, a2, a3, a4, a5⟩ := f2 hv
      rw [if_neg hv, a1, zo2_e, if_neg (by decide)]
      obtain ⟨S', b1, b2, b3⟩ := keep_v hb (how := 2) (v := e.2.2.2.1) (f := e.2.2.2.2) (r := r) (rs := rs) (S := tb S (9 + 2 * b) f) hn h5 (by omega) (by omega) (RC_fr hb h) (fun p hp => by rw [tb_s, a3 p hp]; exact hF p hp) (by rw [tb_s]; exact a4) (by rw [tb_s]; exact a5)
      rw [b1, zo2_e]
      refine ⟨S', rfl, RC_T b2 (by omega), fun i hi => ?_⟩
      rw [b3, tb_s, a2 i hi]
theorem RC_why {E : Ev} {b T n : Nat} (hb : b < 2) {g : Gs} {S : St} {v : Nat} (hn : n < 32) (h : RC E b T g S) : ∃ S', m_X4_set (8 + 2 * b) S (nI n) (nI 2) (nI v) = some S' ∧ RC E b T (sWy g n v) S' ∧ S'.1 (9 + 2 * b) = S.1 (9 + 2 * b) := by
  rw [ts_s hb hn (by omega)]
  refine ⟨_, rfl, ?_, tb_n (by omega)⟩
  obtain ⟨c0, c1, c2, c3, c4, c5, c12, c14, c15, c16, c17, c8⟩ := h
  unfold RC
  rw [tb_n (by omega), tb_n (by omega), tb_n (by omega), tb_n (by omega), tb_n (by omega), tb_n (by omega), tb_n (by omega), tb_n (by omega), tb_n (by omega), tb_n (by omega), tb_n (by omega), tb_n (by omega), tb_s]
  refine ⟨c0, c1, c2, c3, c4, c5, c12, c14, c15, c16, c17, fun m hm => ?_⟩
  obtain ⟨s1, s2, s3, s4⟩ := c8 m hm
  by_cases h1 : m = n
  · subst h1
    rw [pk_un (by omega), pk_un (by omega), pk_us]
    refine ⟨s1, s2, s3, ?_⟩
    show nI v = nI (fu (gWy g) m v m)
    rw [fu_s]
  · rw [pk_un (by omega), pk_un (by omega), pk_un (by omega)]
    refine ⟨s1, s2, s3, ?_⟩
    show _ = nI (fu (gWy g) n v m)
    rw [fu_n h1]; exact s4
theorem make_v {E : Ev} {b T n d : Nat} (hb : b < 2) (hE : EvOK E) {L : Nat → Gs → Ans × Gs} (hL : LOK L) {LK : St → Int32 → Int32 → Option (Int32 × St)} (hLK : LKC (RC E b T) (9 + 2 * b) L LK (d + 1)) {g : Gs} {S : St} (hn : n < 32) (hT : T < 1000000) (hg : WG g) (h5 : gDn g n = 5) (h : RC E b T g S) :
    ∃ S', (zo2 (m_X2_readInputs LK b S (nI n) (nI d)) fun x4 S5 =>
    if 0 ≤ x4 then
      zo (m_X2_noteLeak b S5 (nI n)) fun S6 =>
      zo2 (m_X2_isFetched b S6 (nI n)) fun x7 S8 =>
      if x7 = 0 then
        zo2 (m_X2_runUntilGood b S8 (nI n)) fun x9 S10 =>
        if x9 = (-1) then (zo2 (m_X2_fail b S10 (nI n) (-5)) fun x16 S17 => some (x16, S17))
        else zo (m_X2_resultOf b S10 (nI n)) fun x11 => zo (m_X2_tell b S10 (nI n) x9 x11) fun S12 => zo (m_X0_add (9 + 2 * b) S12 (nI n)) fun S13 => zo2 (m_X2_keep b S13 (nI n) (nI 3)) fun x14 S15 => some (x14, S15)
      else zo2 (m_X2_keep b S8 (nI n) (nI 2)) fun x18 S19 => some (x18, S19)
    else zo2 (m_X2_fail b S5 (nI n) x4) fun x20 S21 => some (x20, S21)) = some (enA (amake E L n g).1, S') ∧ RC E b (T + 1) (amake E L n g).2 S' ∧ FrO (9 + 2 * b) n g S S' := by
  obtain ⟨i1, i2⟩ := readI_v hb hE (RC_RPH hb) hL hLK hn hg h5 h
  unfold amake
  cases hr : eρ E (n / 2) with
  | none =>
    obtain ⟨S1, a1, a2, a3⟩ := i1 hr
    rw [a1, zo2_e, if_neg (by decide)]
    obtain ⟨S', b1, b2, b3⟩ := fail_v hb (k := 2) hn h5 a2
    have b1 : m_X2_fail b S1 (nI n) (-2) = some (enA (afail n 2 g).1, S') := b1
    rw [b1, zo2_e]
    exact ⟨S', rfl, RC_T b2 (by omega), FrO_tr a3 (OUT_O (OUT_eq b3)) (AF_rf g)⟩
  | some r =>
    have hr2 := hE.2 _ _ hr
    have i3 := i2 r hr
    obtain ⟨w1, w2, w3, w4⟩ := aread_c hE hL (n := n) hr2 hg
    show ∃ S', _ = some (enA (match aread E L n r g with
      | (.inl k, g1) => afail n k g1
      | (.inr rs, g1) => afet E n r rs (aleak n r (sRd g1 n rs))).1, S') ∧ RC E b (T + 1) (match aread E L n r g with
      | (.inl k, g1) => afail n k g1
      | (.inr rs, g1) => afet E n r rs (aleak n r (sRd g1 n rs))).2 S' ∧ _
    cases hp : aread E L n r g with
    | mk o g1 =>
      rw [hp] at i3 w1 w2 w3 w4
      have d5 : gDn g1 n = 5 := AF_dn w2 h5
      cases o with
      | inl k =>
        obtain ⟨S1, a1, a2, a3⟩ := i3
        rw [a1, zo2_e, if_neg (enA_l (w3 k rfl)).2.1]
        obtain ⟨S', b1, b2, b3⟩ := fail_v hb (k := k) hn d5 a2
        rw [b1, zo2_e]
        exact ⟨S', rfl, RC_T b2 (by omega), FrO_tr a3 (OUT_O (OUT_eq b3)) (AF_rf g)⟩
      | inr rs =>
        obtain ⟨S1, a1, a2, a3, a4⟩ := i3
        obtain ⟨x1, x2⟩ := w4 rs rfl
        rw [a1, zo2_e, if_pos (by decide)]
        have a2 : RC E b T (sRd g1 n rs) S1 := a2
        have hg1 : WG (sRd g1 n rs) := WG_same w1 rfl rfl rfl rfl rfl rfl rfl (fun _ q => q)
        obtain ⟨S2, b1, b2, b3⟩ := leak_v hb hn a2 a4 hr2
        obtain ⟨c1, c2⟩ := aleak_c (n := n) (r := r) hg1
        rw [b1, zo_e]
        obtain ⟨S', e1, e2, e3⟩ := fr_v hb hE hn hT c1 (AF_dn c2 d5) b2 (FrR_eq a4 b3) hr2 x2 x1
        exact ⟨S', e1, e2, FrO_tr a3 (OUT_O (OUT_tr (OUT_eq b3) e3)) (AF_rf g)⟩
theorem build_v {E : Ev} {b T n d : Nat} (hb : b < 2) (hE : EvOK E) {L : Nat → Gs → Ans × Gs} (hL : LOK L) {LK : St → Int32 → Int32 → Option (Int32 × St)} (hLK : LKC (RC E b T) (9 + 2 * b) L LK (d + 1)) {g : Gs} {S : St} (hn : n < 32) (hT : T < 1000000) (hg : WG g) (h5 : gDn g n = 5) (h : RC E b T g S) :
    ∃ S', m_X2_answerByKept LK b S (nI n) (nI d) = some (enA (abuild E L n g).1, S') ∧ RC E b (T + 1) (abuild E L n g).2 S' ∧ FrO (9 + 2 * b) n g S S' := by
  unfold m_X2_answerByKept
  obtain ⟨S1, a1, a2, a3⟩ := why_v hE hL hLK hn hg h5 h
  obtain ⟨w1, w2⟩ := awhy_c (E := E) hL (n := n) hg
  have d5 : gDn (awhy E L n g).2 n = 5 := AF_dn w2 h5
  obtain ⟨S2, b1, b2, b3⟩ := RC_why hb hn (v := (awhy E L n g).1) a2
  rw [a1, zo2_e, b1, zo_e]
  unfold abuild
  by_cases h0 : (awhy E L n g).1 = 0
  · rw [if_pos h0, if_pos (by rw [h0]; decide)]
    obtain ⟨q, q1, q2, q3⟩ := awhy_0 h0
    rw [q1]
    have k1 : gK (sWy (awhy E L n g).2 n (awhy E L n g).1) n = some q := (w2.2.1 n h5).trans q1
    rw [tg_2 hn (by omega), zo_e, b2.2.2.1 n hn 50 (by omega), k1]
    obtain ⟨S', c1, c2, c3⟩ := endS_v hb (how := 1) (a := .inr q.2.2.1) hn (g := sWy (awhy E L n g).2 n (awhy E L n g).1) d5 (by omega) (by omega) b2
    have c1 : m_X2_end b S2 (nI n) (nI 1) (kpC (some q) (n % 2) 50) = some (nI q.2.2.1, S') := c1
    rw [c1, zo2_e]
    rw [h0] at c2
    exact ⟨S', rfl, RC_T c2 (by omega), FrO_tr a3 (OUT_O (OUT_eq (c3.trans b3))) (AF_rf g)⟩
  · rw [if_neg h0, if_neg (by
      intro q
      have q2 : nI (awhy E L n g).1 = 0 := q
      have hle : (awhy E L n g).1 < 1000 := by
        unfold awhy
        cases hk : gK g n with
        | none => show 1 < 1000; omega
        | some q =>
          have kk := hg.1 n q hk
          have hl := WFr_le kk.1 kk.2.2.1
          show (if _ then acmp E L n q.2.1 0 g else (2, g)).1 < 1000
          have hb2 : ∀ (rs : List Rd) (j : Nat) (g : Gs), j + rs.length < 900 → (acmp E L n rs j g).1 < 1000 := by
            intro rs
            induction rs with
            | nil => intro j g _; show 0 < 1000; omega
            | cons x t ih =>
              intro j g hj
              simp only [List.length_cons] at hj
              rw [acmp_cons]
              split
              · exact ih _ _ (by omega)
              · show 10 + j < 1000; omega
          split
          · exact hb2 _ _ _ (by omega)
          · show 2 < 1000; omega
      rw [eq0_nI (by omega)] at q2
      exact h0 q2)]
    obtain ⟨S', c1, c2, c3⟩ := make_v hb hE hL hLK hn hT (WG_sWy w1 n (awhy E L n g).1) d5 b2
    refine ⟨S', c1, c2, FrO_tr a3 (FrO_tr (g' := sWy (awhy E L n g).2 n (awhy E L n g).1) (OUT_O (OUT_eq b3)) c3 (AF_eq rfl (fun _ _ => rfl))) w2⟩
theorem RC_being {E : Ev} {b T n : Nat} (hb : b < 2) {g : Gs} {S : St} (hn : n < 32) (h0 : gDn g n = 0) (h : RC E b T g S) : ∃ S', m_X4_set (8 + 2 * b) S (nI n) (nI 0) (nI 5) = some S' ∧ RC E b (T - 1) (sDn g n 5) S' ∧ 1 ≤ T ∧ S'.1 (9 + 2 * b) = S.1 (9 + 2 * b) := by
  rw [ts_s hb hn (by omega)]
  have hu := uG_5 hn h0
  obtain ⟨c0, c1, c2, ⟨c, x1, x2, x3⟩, c4, c5, c12, c14, c15, c16, c17, c8⟩ := h
  refine ⟨_, rfl, ?_, by omega, tb_n (by omega)⟩
  unfold RC
  rw [tb_n (by omega), tb_n (by omega), tb_n (by omega), tb_n (by omega), tb_n (by omega), tb_n (by omega), tb_n (by omega), tb_n (by omega), tb_n (by omega), tb_n (by omega), tb_n (by omega), tb_n (by omega), tb_s]
  refine ⟨c0, c1, c2, ⟨c, x1, x2, by omega⟩, c4, c5, c12, c14, c15, c16, c17, fun m hm => ?_⟩
  obtain ⟨s1, s2, s3, s4⟩ := c8 m hm
  show fu (gDn g) n 5 m ≤ 5 ∧ _ = nI (fu (gDn g) n 5 m) ∧ (¬ fu (gDn g) n 5 m = 0 → ¬ fu (gDn g) n 5 m = 5 → _) ∧ _
  by_cases h1 : m = n
  · subst h1
    rw [fu_s, pk_us, pk_un (by omega), pk_un (by omega)]
    exact ⟨by omega, rfl, fun _ q => absurd rfl q, s4⟩
  · rw [fu_n h1, pk_un (by omega), pk_un (by omega), pk_un (by omega)]
    exact ⟨s1, s2, s3, s4⟩
theorem look_v {E : Ev} (hE : EvOK E) : ∀ (f j T : Nat), f ≤ 32 → T < 1000000 → LKC (RC E 0 T) (9 + 2 * 0) (alook false E f) (zl3 (fun LK => m_X2_look LK 0) (f + 1 + j)) (32 - f) := by
  intro f
  induction f with
  | zero =>
    intro j T _ hT n g S hn hg h
    have hu : zl3 (fun LK => m_X2_look LK 0) (0 + 1 + j) S (nI n) (nI (32 - 0)) = m_X2_look (zl3 (fun LK => m_X2_look LK 0) j) 0 S (nI n) (nI 32) := by
      rw [show 0 + 1 + j = j + 1 by omega]; rfl
    rw [hu]
    refine ⟨S, ?_, h, fun _ _ _ _ _ => rfl⟩
    unfold m_X2_look
    rw [tg_s (b := 0) (by omega) hn (by omega), zo_e]
    rw [if_neg (show ¬ nI 32 < nI 32 by decide)]
    split <;> rfl
  | succ f ih =>
    intro j T hf hT n g S hn hg h
    have hu : zl3 (fun LK => m_X2_look LK 0) (f + 1 + 1 + j) S (nI n) (nI (32 - (f + 1))) = m_X2_look (zl3 (fun LK => m_X2_look LK 0) (f + 1 + j)) 0 S (nI n) (nI (31 - f)) := by
      rw [show f + 1 + 1 + j = (f + 1 + j) + 1 by omega, show 32 - (f + 1) = 31 - f by omega]; rfl
    have ih2 := fun T' h1 h2 => ih j T' h1 h2
    rw [hu, alook]
    clear ih hu
    generalize zl3 (fun LK => m_X2_look LK 0) (f + 1 + j) = KK at ih2 ⊢
    have hc := h.2.2.2.2.2.2.2.2.2.2.2 n hn
    obtain ⟨s1, s2, s3, s4⟩ := hc
    unfold m_X2_look
    rw [tg_s (b := 0) (by omega) hn (by omega), zo_e, s2]
    by_cases h5 : gDn g n = 5
    · rw [if_pos (by rw [h5]), if_pos h5]
      exact ⟨S, rfl, h, fun _ _ _ _ _ => rfl⟩
    · rw [if_neg (nI_ne (by omega) (by omega) h5), if_neg h5, if_pos (by rw [lt_nI (by omega) (by omega)]; omega)]
      by_cases h0 : gDn g n = 0
      · rw [if_pos (by rw [h0]; decide), if_neg (by omega), if_neg (by decide)]
        obtain ⟨S2, a1, a2, a3, a4⟩ := RC_being (b := 0) (by omega) hn h0 h
        rw [a1, zo_e, if_pos (by decide)]
        have ih2 := ih2 (T - 1) (by omega) (by omega)
        rw [show 32 - f = 31 - f + 1 by omega] at ih2
        have d5 : gDn (sDn g n 5) n = 5 := fu_s
        obtain ⟨S', b1, b2, b3⟩ := build_v (b := 0) (by omega) hE (alook_c hE false f) ih2 hn (by omega) (WG_sDn5 hg n) d5 a2
        rw [b1, zo2_e]
        refine ⟨S', rfl, RC_T b2 (by omega), fun m hm hd p hp => ?_⟩
        have hne : ¬ m = n := fun q => by subst q; omega
        rw [b3 m hm hne (by show fu (gDn g) n 5 m = 5; rw [fu_n hne]; exact hd) p hp, a4]
      · rw [if_neg (by rw [eq0_nI (by omega)]; exact h0), if_pos h0, tg_s (b := 0) (by omega) hn (by omega), zo_e, s3 h0 h5]
        exact ⟨S, rfl, h, fun _ _ _ _ _ => rfl⟩
