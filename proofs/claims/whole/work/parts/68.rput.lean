/-! a machine is put away by the reference -/
theorem RB_tail {E : Ev} {g : Gs} {S S' : St} (h : RB E g S) (e : ∀ k i, k < 8 ∨ (28 < k ∧ ¬ k = 33) → S'.1 k i = S.1 k i) (hM : MaR E g S') (hK : KeR (gK g) (gAw g) S') (hC : CaR (gL g) S') (hCo : CoR g S') : RB E g S' := by
  obtain ⟨a1, a2, a3, a4, a5, a6, a7⟩ := h
  exact ⟨RR0_eq a1 rfl rfl (fun k i z => e k i (by omega)), by rw [e _ _ (by omega)]; exact a2, hM, hK, hC, DoR_eq a6 rfl rfl (fun k i z => e k i (by omega)), hCo⟩
theorem pc_l {S0 : St} {L : List En} {m : Nat} (hL : L.length ≤ 100) (hm : m < 3) (hE : ∀ e ∈ L, EOK e) : ∀ (c k : Nat) (S : St), c ≤ L.length → c < k → CaR (L.take c ++ (L.drop c).filter (fun e => decide (¬ e.2.2.2.2 = m))) S → (∀ k j, ¬ k = 25 → ¬ k = 27 → ¬ k = 28 → S.1 k j = S0.1 k j) → (∀ k j, ¬ k = 26 → S.2 k j = S0.2 k j) →
    ∃ S', zl2 (m_X7_putsAway_B14 (nI m)) k S (if c = 0 then -1 else nI (c - 1)) = zl2 (m_X7_putsAway_B41 (nI m)) FU S' (nI 0) ∧ CaR (L.filter (fun e => decide (¬ e.2.2.2.2 = m))) S' ∧ (∀ k j, ¬ k = 25 → ¬ k = 27 → ¬ k = 28 → S'.1 k j = S0.1 k j) ∧ ∀ k j, ¬ k = 26 → S'.2 k j = S0.2 k j := by
  intro c
  induction c with
  | zero =>
    intro k S _ h2 h3 h4 h5
    obtain ⟨k2, rfl⟩ : ∃ k2, k = k2 + 1 := ⟨k - 1, by omega⟩
    show ∃ S', m_X7_putsAway_B14 (nI m) (zl2 (m_X7_putsAway_B14 (nI m)) k2) S (-1) = _ ∧ _
    generalize zl2 (m_X7_putsAway_B14 (nI m)) k2 = G
    unfold m_X7_putsAway_B14
    rw [if_pos (by decide)]
    rw [List.take_zero, List.nil_append, List.drop_zero] at h3
    exact ⟨S, rfl, h3, h4, h5⟩
  | succ c ih =>
    intro k S h1 h2 h3 h4 h5
    obtain ⟨k2, rfl⟩ : ∃ k2, k = k2 + 1 := ⟨k - 1, by omega⟩
    rw [if_neg (by omega), Nat.add_sub_cancel]
    show ∃ S', m_X7_putsAway_B14 (nI m) (zl2 (m_X7_putsAway_B14 (nI m)) k2) S (nI c) = _ ∧ _
    have ih := fun S => ih k2 S (by omega) (by omega)
    generalize zl2 (m_X7_putsAway_B14 (nI m)) k2 = G at ih ⊢
    have hc : c < L.length := by omega
    have ec : (L.take (c + 1) ++ (L.drop (c + 1)).filter (fun e => decide (¬ e.2.2.2.2 = m)))[c]? = some L[c] := by
      rw [List.getElem?_append_left (by rw [List.length_take]; omega), List.getElem?_take_of_lt (by omega), List.getElem?_eq_getElem hc]
    have e28 : S.1 28 c = nI (L[c]).2.2.2.2 := (h3.2 c _ ec).2.2.2
    have hfr := (hE _ (List.getElem_mem hc)).2.2.2.2.2
    have mone : nI c + (-1) = (if c = 0 then -1 else nI (c - 1)) := by
      by_cases h0 : c = 0
      · subst h0; rfl
      · rw [if_neg h0]
        have := pk_m1 (c - 1)
        rwa [show c - 1 + 1 = c by omega] at this
    have htk : L.take (c + 1) = L.take c ++ [L[c]] := by rw [List.take_succ, List.getElem?_eq_getElem hc]; rfl
    have hdr : L.drop c = L[c] :: L.drop (c + 1) := List.drop_eq_getElem_cons hc
    unfold m_X7_putsAway_B14 m_X7_putsAway_J33
    rw [if_neg (nI_pos (by omega)), zg_in (show c < 101 by omega) (by omega), ri_n (by omega), e28]
    by_cases h6 : (L[c]).2.2.2.2 = m
    · rw [if_pos (by rw [h6])]
      have hlen : (L.take (c + 1) ++ (L.drop (c + 1)).filter (fun e => decide (¬ e.2.2.2.2 = m))).length ≤ 101 := by
        rw [List.length_append, List.length_take]
        have h7 := List.length_filter_le (fun e : En => decide (¬ e.2.2.2.2 = m)) (L.drop (c + 1))
        rw [List.length_drop] at h7
        omega
      have hci : c < (L.take (c + 1) ++ (L.drop (c + 1)).filter (fun e => decide (¬ e.2.2.2.2 = m))).length := (List.getElem?_eq_some_iff.mp ec).1
      obtain ⟨S1, d1, d2, d3, d4⟩ := drops_v h3 hlen hci
      rw [d1, zo_e, zb_e, mone]
      refine ih S1 ?_ (fun k j a b c2 => (d3 k j a b c2).trans (h4 k j a b c2)) (fun k j a => (d4 k j a).trans (h5 k j a))
      have e : (L.take (c + 1) ++ (L.drop (c + 1)).filter (fun e => decide (¬ e.2.2.2.2 = m))).eraseIdx c = L.take c ++ (L.drop c).filter (fun e => decide (¬ e.2.2.2.2 = m)) := by
        rw [hdr, List.filter_cons_of_neg (by rw [decide_eq_true_iff]; exact fun q => q h6), htk, List.append_assoc]
        have hl2 : (L.take c).length = c := by rw [List.length_take]; omega
        rw [List.eraseIdx_append_of_length_le (by omega), hl2, Nat.sub_self]
        rfl
      rw [e] at d2
      exact d2
    · rw [if_neg (nI_ne (by omega) (by omega) h6), zb_e, mone]
      refine ih S ?_ h4 h5
      have e : L.take (c + 1) ++ (L.drop (c + 1)).filter (fun e => decide (¬ e.2.2.2.2 = m)) = L.take c ++ (L.drop c).filter (fun e => decide (¬ e.2.2.2.2 = m)) := by
        rw [hdr, List.filter_cons_of_pos (by exact decide_eq_true h6), htk, List.append_assoc]
        rfl
      rw [e] at h3
      exact h3
/-- the nodes' part: those below i are done -/
def PN (g : Gs) (m i : Nat) (S : St) : Prop := ∀ n, n < 32 → if n < i then ((putK g m 32 n = none → S.1 15 n = nI 0) ∧ ∀ q, putK g m 32 n = some q → KeR1 n q (fu (gAw g) m true) S) else ((gK g n = none → S.1 15 n = nI 0) ∧ ∀ q, gK g n = some q → KeR1 n q (gAw g) S)
theorem KeR1_w {n i : Nat} {q : Kp} {aw : Nat → Bool} {S : St} {k : Nat} {v : Int32} (h : KeR1 n q aw S) (hk : k = 15 ∨ k = 24) (hne : ¬ n = i) : KeR1 n q aw (wi S k i v) := by
  obtain ⟨d1, d2, d3, d4, d5, d6, d7, d8⟩ := h
  unfold KeR1
  rw [wi_ne (by omega), wi_2, wi_ne (by omega), wi_ne (by omega), wi_ne (by omega), wi_ne (by omega), wi_ne (by omega)]
  refine ⟨d1, d2, d3, d4, fun j x hx => ?_, d6, d7, d8⟩
  rw [wi_ne (by omega), wi_ne (by omega)]
  exact d5 j x hx
theorem KeR1_24 {n : Nat} {q : Kp} {aw aw' : Nat → Bool} {S : St} {v : Int32} (h : KeR1 n q aw S) (hv : v = bI (aw' q.2.2.2)) : KeR1 n q aw' (wi (wi S 24 n v) 15 n (nI 1)) := by
  obtain ⟨d1, d2, d3, d4, d5, d6, d7, d8⟩ := h
  unfold KeR1
  refine ⟨wi_at, d2, ?_, ?_, fun j x hx => ?_, ?_, ?_, ?_⟩
  · rw [wi_ne (by omega), wi_ne (by omega)]; exact d3
  · rw [wi_ne (by omega), wi_ne (by omega)]; exact d4
  · obtain ⟨x1, x2, x3⟩ := d5 j x hx
    refine ⟨?_, fun q4 => ?_, x3⟩
    · rw [wi_ne (by omega), wi_ne (by omega)]; exact x1
    · rw [wi_ne (by omega), wi_ne (by omega)]; exact x2 q4
  · rw [wi_ne (by omega), wi_ne (by omega)]; exact d6
  · rw [wi_ne (by omega), wi_ne (by omega)]; exact d7
  · rw [wi_ne (by omega), wi_at]; exact hv
theorem pn_l {S0 : St} {g : Gs} {m : Nat} (hg : ∀ n q, gK g n = some q → q.2.2.2 ≤ 3) (hm : m < 3) (hL : LoR g S0) : ∀ (k d i : Nat) (S : St), i + d = 32 → d < k → PN g m i S → (∀ k j, ¬ k = 15 → ¬ k = 24 → S.1 k j = S0.1 k j) → S.2 = S0.2 →
    ∃ S', zl2 (m_X7_putsAway_B41 (nI m)) k S (nI i) = some S' ∧ PN g m 32 S' ∧ (∀ k j, ¬ k = 15 → ¬ k = 24 → S'.1 k j = S0.1 k j) ∧ S'.2 = S0.2 := by
  intro k
  induction k with
  | zero => intro d i S _ h; omega
  | succ k ih =>
    intro d i S h1 h2 h3 h4 h5
    show ∃ S', m_X7_putsAway_B41 (nI m) (zl2 (m_X7_putsAway_B41 (nI m)) k) S (nI i) = _ ∧ _
    generalize zl2 (m_X7_putsAway_B41 (nI m)) k = G at ih ⊢
    match d, h1, h2 with
    | 0, h1, h2 =>
      unfold m_X7_putsAway_B41
      rw [if_pos (by rw [le_nI (by omega) (by omega)]; omega)]
      rw [show i = 32 by omega] at h3
      exact ⟨S, rfl, h3, h4, h5⟩
    | d + 1, h1, h2 =>
      have hi : i < 32 := by omega
      -- the two flags that are laid
      have nx : ∀ (a b : Nat), ((putK g m 32 i = none → b = 0) ∧ ∀ q, putK g m 32 i = some q → KeR1 i q (fu (gAw g) m true) (wi (wi S 24 i (nI a)) 15 i (nI b))) → ∃ S', G (wi (wi S 24 i (nI a)) 15 i (nI b)) (nI (i + 1)) = some S' ∧ PN g m 32 S' ∧ (∀ k j, ¬ k = 15 → ¬ k = 24 → S'.1 k j = S0.1 k j) ∧ S'.2 = S0.2 := fun a b hab => by
        refine ih d (i + 1) _ (by omega) (by omega) (fun n hn => ?_) (fun k2 j q1 q2 => by rw [wi_ne (by omega), wi_ne (by omega)]; exact h4 k2 j q1 q2) h5
        have h6 := h3 n hn
        by_cases hne : n = i
        · subst hne
          rw [if_pos (by omega)]
          refine ⟨fun q => ?_, hab.2⟩
          rw [wi_at, hab.1 q]
        · by_cases hlt : n < i
          · rw [if_pos hlt] at h6
            rw [if_pos (by omega)]
            refine ⟨fun q => ?_, fun q hq => KeR1_w (KeR1_w (h6.2 q hq) (by omega) hne) (by omega) hne⟩
            rw [wi_ne (by omega), wi_ne (by omega)]; exact h6.1 q
          · rw [if_neg hlt] at h6
            rw [if_neg (by omega)]
            refine ⟨fun q => ?_, fun q hq => KeR1_w (KeR1_w (h6.2 q hq) (by omega) hne) (by omega) hne⟩
            rw [wi_ne (by omega), wi_ne (by omega)]; exact h6.1 q
      have h6 := h3 i hi
      rw [if_neg (by omega)] at h6
      obtain ⟨c1, c2⟩ := h6
      have pi : putK g m 32 i = (match gK g i with
        | none => none
        | some q => if gDn g i = 0 ∧ q.2.2.2 = m then none else some q) := if_pos hi
      have e29 : S.1 29 i = S0.1 29 i := h4 29 i (by omega) (by omega)
      obtain ⟨l0, l1, l2, l3⟩ := hL i hi
      have n24 : ∀ (v : Nat), (wi S 24 i (nI v)).1 15 i = S.1 15 i := fun v => wi_ne (by omega)
      have n29 : ∀ (v : Nat), (wi S 24 i (nI v)).1 29 i = S.1 29 i := fun v => wi_ne (by omega)
      unfold m_X7_putsAway_B41 m_X7_putsAway_J70 m_X7_putsAway_J71 m_X7_putsAway_J90 m_X7_putsAway_J95 m_X7_putsAway_J127 m_X7_putsAway_J123 m_X7_putsAway_J128
      rw [if_neg (by rw [le_nI (by omega) (by omega)]; omega)]
      have z0 : bz (nI 0) = true := by decide
      have z1 : bz (nI 1) = true := by decide
      simp only [zg_in hi (show 32 ≤ 2147483648 by omega), tn (show i < 2147483648 by omega), ri_n (show i < 2147483648 by omega), nI_add, zb_e, z0, z1, zg_tr, n24, n29, if_pos (show nI 0 = 0 by decide), if_neg (show ¬ nI 1 = 0 by decide)]
      cases hk : gK g i with
      | none =>
        rw [hk] at pi
        have e15 := c1 hk
        have hab : ∀ a, (putK g m 32 i = none → 0 = 0) ∧ ∀ q, putK g m 32 i = some q → KeR1 i q (fu (gAw g) m true) (wi (wi S 24 i (nI a)) 15 i (nI 0)) := fun a => ⟨fun _ => rfl, fun q hq => by rw [pi] at hq; cases hq⟩
        simp only [e15, if_pos (show nI 0 = 0 by decide)]
        by_cases e24 : S.1 24 i = 0
        · rw [if_pos e24]; exact nx 0 0 (hab 0)
        · rw [if_neg e24]; exact nx 1 0 (hab 1)
      | some q =>
        have hq3 := hg i q hk
        rw [hk] at pi
        have pi : putK g m 32 i = if gDn g i = 0 ∧ q.2.2.2 = m then none else some q := pi
        have hK := c2 q hk
        obtain ⟨d1, d2, d3, d4, d5, d6, d7, d8⟩ := hK
        have hK : KeR1 i q (gAw g) S := ⟨d1, d2, d3, d4, d5, d6, d7, d8⟩
        simp only [d1, d7, d8, if_neg (show ¬ nI 1 = 0 by decide)]
        by_cases hf : q.2.2.2 = m
        · rw [if_pos (by rw [hf])]
          have hb : (if bI (gAw g q.2.2.2) = 0 then (if S.1 29 i ≤ 0 then G (wi (wi S 24 i (nI 1)) 15 i (nI 0)) (nI (i + 1)) else G (wi (wi S 24 i (nI 1)) 15 i (nI 1)) (nI (i + 1))) else (if S.1 29 i ≤ 0 then G (wi (wi S 24 i (nI 1)) 15 i (nI 0)) (nI (i + 1)) else G (wi (wi S 24 i (nI 1)) 15 i (nI 1)) (nI (i + 1)))) = if S.1 29 i ≤ 0 then G (wi (wi S 24 i (nI 1)) 15 i (nI 0)) (nI (i + 1)) else G (wi (wi S 24 i (nI 1)) 15 i (nI 1)) (nI (i + 1)) := by split <;> rfl
          rw [hb]
          by_cases h0 : gDn g i = 0
          · rw [if_pos ⟨h0, hf⟩] at pi
            rw [e29, l1 h0, if_pos (by decide)]
            exact nx 1 0 ⟨fun _ => rfl, fun q2 hq2 => by rw [pi] at hq2; cases hq2⟩
          · rw [if_neg (fun z => h0 z.1)] at pi
            have h29 : ¬ S.1 29 i ≤ 0 := by
              rw [e29]
              by_cases h55 : gDn g i = 5
              · rw [l2 h55]; decide
              · rw [(l3 h0 h55).1]; decide
            rw [if_neg h29]
            refine nx 1 1 ⟨fun z => (by rw [pi] at z; cases z), fun q2 hq2 => ?_⟩
            rw [pi] at hq2
            cases hq2
            refine KeR1_24 hK ?_
            rw [hf, fu_s]
            rfl
        · rw [if_neg (nI_ne (by omega) (by omega) hf)]
          rw [if_neg (fun z => hf z.2)] at pi
          have fin : ∀ a, nI a = bI (gAw g q.2.2.2) → ∃ S', G (wi (wi S 24 i (nI a)) 15 i (nI 1)) (nI (i + 1)) = some S' ∧ PN g m 32 S' ∧ (∀ k j, ¬ k = 15 → ¬ k = 24 → S'.1 k j = S0.1 k j) ∧ S'.2 = S0.2 := fun a ha => nx a 1 ⟨fun z => (by rw [pi] at z; cases z), fun q2 hq2 => by
            rw [pi] at hq2
            cases hq2
            exact KeR1_24 hK (by rw [fu_n hf]; exact ha)⟩
          cases hw : gAw g q.2.2.2 with
          | false => rw [if_pos (by decide)]; exact fin 0 (by rw [hw]; rfl)
          | true => rw [if_neg (by decide)]; exact fin 1 (by rw [hw]; rfl)
theorem rput_v {E : Ev} {g : Gs} {S : St} {m : Nat} (hg : WG g) (hm : m < 3) (h : RB E g S) : ∃ S', m_X7_putsAway S (nI m) = some S' ∧ RB E (aput m g) S' ∧ OUS S S' := by
  have h' := h
  obtain ⟨a1, a2, ⟨b1, b2, b3, b4, b5, b6⟩, a4, a5, a6, a7⟩ := h'
  unfold m_X7_putsAway
  rw [zg_in hm (by omega), tn (by omega), zb_e]
  have e25 : rs (wi S 10 m (nI 1)) 25 = nI (gL g).length := by
    show (wi S 10 m (nI 1)).1 25 0 = _
    rw [wi_ne (by omega)]; exact a5.1
  rw [e25, zb_e]
  have mone : nI (gL g).length - nI 1 = (if (gL g).length = 0 then -1 else nI ((gL g).length - 1)) := by
    by_cases h0 : (gL g).length = 0
    · rw [h0]; rfl
    · rw [if_neg h0, pk_sub (by omega)]
  rw [mone]
  obtain ⟨S1, c1, c2, c3, c4⟩ := pc_l (S0 := wi S 10 m (nI 1)) (L := gL g) hg.2.2.1 hm hg.2.1 (gL g).length FU (wi S 10 m (nI 1)) (Nat.le_refl _) (FU_gt (by have := hg.2.2.1; omega)) (by
    rw [List.take_length, List.drop_length]
    simp only [List.filter_nil, List.append_nil]
    exact CaR_eq a5 (fun k i _ => wi_ne (by omega)) (fun _ => rfl)) (fun _ _ _ _ _ => rfl) (fun _ _ _ => rfl)
  rw [c1]
  have e1 : ∀ k j, ¬ k = 25 → ¬ k = 27 → ¬ k = 28 → ¬ k = 10 → S1.1 k j = S.1 k j := fun k j q1 q2 q3 q4 => (c3 k j q1 q2 q3).trans (wi_ne (by omega))
  have e2 : ∀ k j, ¬ k = 26 → S1.2 k j = S.2 k j := fun k j q => (c4 k j q).trans rfl
  have hK1 : ∀ n q aw, KeR1 n q aw S → KeR1 n q aw S1 := fun n q aw hh => by
    obtain ⟨d1, d2, d3, d4, d5, d6, d7, d8⟩ := hh
    unfold KeR1
    rw [e1 15 _ (by omega) (by omega) (by omega) (by omega), e2 16 _ (by omega), e1 17 _ (by omega) (by omega) (by omega) (by omega), e1 18 _ (by omega) (by omega) (by omega) (by omega), e1 22 _ (by omega) (by omega) (by omega) (by omega), e1 23 _ (by omega) (by omega) (by omega) (by omega), e1 24 _ (by omega) (by omega) (by omega) (by omega)]
    refine ⟨d1, d2, d3, d4, fun j x hx => ?_, d6, d7, d8⟩
    rw [e1 19 _ (by omega) (by omega) (by omega) (by omega), e1 20 _ (by omega) (by omega) (by omega) (by omega), e2 21 _ (by omega)]
    exact d5 j x hx
  obtain ⟨S2, f1, f2, f3, f4⟩ := pn_l (S0 := S1) (g := g) (m := m) (fun n q hq => (hg.1 n q hq).2.2.2.2) hm (LoR_eq a1.2.2.1 rfl rfl (fun k i hk => e1 k i (by omega) (by omega) (by omega) (by omega))) FU 32 0 S1 (by omega) (FU_gt (by omega)) (fun n hn => by
    rw [if_neg (by omega)]
    obtain ⟨x1, x2⟩ := a4 n hn
    refine ⟨fun z => ?_, fun q hq => hK1 n q _ (x2 q hq)⟩
    rw [e1 15 _ (by omega) (by omega) (by omega) (by omega)]
    exact x1 z) (fun _ _ _ _ => rfl) rfl
  have g1 : ∀ k j, ¬ k = 25 → ¬ k = 27 → ¬ k = 28 → ¬ k = 10 → ¬ k = 15 → ¬ k = 24 → S2.1 k j = S.1 k j := fun k j q1 q2 q3 q4 q5 q6 => (f3 k j q5 q6).trans (e1 k j q1 q2 q3 q4)
  have g2 : ∀ k j, ¬ k = 26 → S2.2 k j = S.2 k j := fun k j q => by rw [f4]; exact e2 k j q
  refine ⟨S2, f1, ⟨RR0_eq a1 rfl rfl (fun k i z => g1 k i (by omega) (by omega) (by omega) (by omega) (by omega) (by omega)), by rw [g1 _ _ (by omega) (by omega) (by omega) (by omega) (by omega) (by omega)]; exact a2, ⟨fun x hx => ?_, fun t ht => ?_, ?_, ?_, ?_, ?_⟩, fun n hn => ?_, ?_, DoR_eq a6 rfl rfl (fun k i z => g1 k i (by omega) (by omega) (by omega) (by omega) (by omega) (by omega)), CoR_eq a7 rfl rfl (fun i => g1 _ i (by omega) (by omega) (by omega) (by omega) (by omega) (by omega))⟩, OUS_lo (fun k i z z2 => g1 k i (by omega) (by omega) (by omega) (by omega) (by omega) (by omega)) (fun k i z => g2 k i (by omega))⟩
  · rw [g1 9 _ (by omega) (by omega) (by omega) (by omega) (by omega) (by omega), f3 10 _ (by omega) (by omega), c3 10 _ (by omega) (by omega) (by omega)]
    show _ ∧ _ = bI (fu (gAw g) m true x)
    obtain ⟨y1, y2⟩ := b1 x hx
    refine ⟨y1, ?_⟩
    by_cases hxm : x = m
    · subst hxm; rw [wi_at, fu_s]; rfl
    · rw [wi_ne (by omega), fu_n hxm]; exact y2
  · rw [g1 8 _ (by omega) (by omega) (by omega) (by omega) (by omega) (by omega)]; exact b2 t ht
  · rw [g1 11 _ (by omega) (by omega) (by omega) (by omega) (by omega) (by omega)]; exact b3
  · rw [g1 12 _ (by omega) (by omega) (by omega) (by omega) (by omega) (by omega)]; exact b4
  · rw [g1 13 _ (by omega) (by omega) (by omega) (by omega) (by omega) (by omega)]; exact b5
  · rw [g1 14 _ (by omega) (by omega) (by omega) (by omega) (by omega) (by omega)]; exact b6
  · have h6 := f2 n hn
    rw [if_pos hn] at h6
    have e : putK g m 32 n = gK (aput m g) n := if_pos hn
    rw [e] at h6
    exact h6
  · exact CaR_eq c2 (fun k i z => f3 k i (by omega) (by omega)) (fun i => by rw [f4])
/-- what a run tells -/
theorem j122_v {E : Ev} {S : St} {n m res t : Nat} (hm : m < 3) (b4 : S.1 12 0 = bI (eCk E)) : m_X7_runs_J122 (nI m) (nI n) S (nI res) (nI t) = if eCk E = false then m_X7_runs_J165 (nI n) S (nI m) (nI t) else if nI t = nI res then m_X7_runs_J165 (nI n) (wi S 33 0 (S.1 33 0 + nI 1)) (nI m) (nI t) else zo (m_X7_putsAway (wi S 33 0 (S.1 33 0 + nI 1)) (nI m)) fun S24 => m_X7_runs_J165 (nI n) S24 (nI 3) (nI res) := by
  unfold m_X7_runs_J122
  rw [if_neg (nI_ne (by omega) (by omega) (by omega)), show rs S 12 = bI (eCk E) from b4]
  cases eCk E with
  | false => rw [if_pos (by decide), if_pos rfl]
  | true =>
    rw [if_neg (by decide), if_neg (by decide), zg_in (by omega) (by omega), zg_in (by omega) (by omega), tn (by omega), ri_n (by omega), zb_e]
theorem j81_v {E : Ev} {S : St} {n m res : Nat} (hm : m < 3) (hr : res < 1000) (b1 : S.1 9 m = bI (ePo E m)) : m_X7_runs_J81 (nI 0) (nI m) (nI n) S (nI res) = m_X7_runs_J122 (nI m) (nI n) S (nI res) (nI (if ePo E m = true then (res + 1) % 1000 else res)) := by
  unfold m_X7_runs_J81 m_X7_runs_J121
  rw [if_pos (by decide), if_neg (nI_ne (by omega) (by omega) (by omega)), zg_in hm (by omega), ri_n (by omega), b1]
  cases ePo E m with
  | false => rw [if_pos (by decide), if_neg (by decide)]
  | true => rw [if_neg (by decide), if_pos rfl, nI_add, irm_nI (by omega) (by omega) (by omega)]
theorem rtell_v {E : Ev} {g : Gs} {S : St} {n m res : Nat} (hg : WG g) (hm : m ≤ 3) (hr : res < 1000) (h : RB E g S) : ∃ S', m_X7_runs_J81 (nI 0) (nI m) (nI n) S (nI res) = m_X7_runs_J165 (nI n) S' (nI (atell E m res g).1.2) (nI (atell E m res g).1.1) ∧ RB E (atell E m res g).2 S' ∧ OUS S S' := by
  obtain ⟨b1, b2, b3, b4, b5, b6⟩ := h.2.2.1
  by_cases h3 : m = 3
  · have ea : atell E m res g = ((res, m), g) := by
      unfold atell
      rw [if_neg (fun q => q.2 h3), if_neg (fun q => q.1 h3)]
    rw [ea]
    refine ⟨S, ?_, h, OUS_rf⟩
    subst h3
    unfold m_X7_runs_J81 m_X7_runs_J121 m_X7_runs_J122
    rw [if_pos (by decide), if_pos rfl, if_pos rfl]
  · have hm3 : m < 3 := by omega
    obtain ⟨r1, r2⟩ := RB_rn h
    have hg1 : WG (sRn g (gRn g + 1)) := WG_same hg rfl rfl rfl rfl rfl rfl rfl (fun _ q => q)
    rw [j81_v hm3 hr (b1 m hm3).1, j122_v hm3 b4]
    cases hc : eCk E with
    | false =>
      rw [if_pos rfl]
      have ea : atell E m res g = ((if ePo E m = true then (res + 1) % 1000 else res, m), g) := by
        unfold atell
        rw [if_neg (fun q => by rw [hc] at q; cases q.1)]
        by_cases hp : ePo E m = true
        · rw [if_pos ⟨h3, hp⟩, if_pos hp]
        · rw [if_neg (fun q => hp q.2), if_neg hp]
      rw [ea]
      exact ⟨S, rfl, h, OUS_rf⟩
    | true =>
      rw [if_neg (by decide)]
      by_cases hp : ePo E m = true
      · have ea : atell E m res g = ((res, 3), aput m (sRn g (gRn g + 1))) := by
          unfold atell
          rw [if_pos ⟨hc, h3⟩, if_pos hp]
        rw [ea, if_pos hp, if_neg (nI_ne (by omega) (by omega) (by omega))]
        obtain ⟨S1, p1, p2, p3⟩ := rput_v hg1 hm3 r1
        rw [p1, zo_e]
        exact ⟨S1, rfl, p2, OUS_tr r2 p3⟩
      · have ea : atell E m res g = ((res, m), sRn g (gRn g + 1)) := by
          unfold atell
          rw [if_pos ⟨hc, h3⟩, if_neg hp]
        rw [ea, if_neg hp, if_pos rfl]
        exact ⟨_, rfl, r1, r2⟩
