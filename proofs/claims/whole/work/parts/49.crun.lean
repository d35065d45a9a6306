/-! machines, runs -/
theorem away_v {po aw : Nat → Bool} {S : St} {m : Nat} (h : MacT po aw (S.1 4)) (h3 : aw 3 = false) (hm : m ≤ 3) : m_X3_isAway S (nI m) = some (bI (aw m)) := by
  unfold m_X3_isAway
  by_cases h1 : m = 3
  · subst h1
    rw [get_hi (k := 4) (by omega) (by show 3 ≤ 3; omega) (by omega), zo_e, if_neg (by decide), h3]
    rfl
  · rw [tg_4 (by omega) (by omega), zo_e, (h m (by omega)).2]
    cases aw m <;> rfl
theorem RC_1 {E : Ev} {b T : Nat} (hb : b < 2) {g g' : Gs} {S : St} {k : Nat} {f : Nat → Int32} (h : RC E b T g S) (hk : k = 12 ∨ k = 15 ∨ k = 16 + 2 * b ∨ k = 5) (h1 : gK g' = gK g) (h2 : gL g' = gL g) (h3 : gAw g' = gAw g) (h4 : gDn g' = gDn g) (h5 : gAn g' = gAn g) (h6 : gWy g' = gWy g) (h7 : gLk g' = gLk g)
    (e5 : FaiT (gTf g') ((tb S k f).1 5)) (e12 : (tb S k f).1 12 0 = nI (gVn g')) (e15 : (tb S k f).1 15 0 = nI (gTu g')) (e16 : (tb S k f).1 (16 + 2 * b) 0 = nI (gRn g')) : RC E b T g' (tb S k f) := by
  obtain ⟨c0, c1, c2, c3, c4, c5, c12, c14, c15, c16, c17, c8⟩ := h
  have hu : uG g' = uG g := by unfold uG; rw [h4]
  refine ⟨?_, ?_, ?_, ?_, ?_, e5, e12, ?_, e15, e16, ?_, ?_⟩
  · rw [tb_n (by omega)]; exact c0
  · rw [tb_n (by omega)]; exact c1
  · rw [tb_n (by omega), h1]; exact c2
  · rw [tb_n (by omega), tb_n (by omega), h2, hu]; exact c3
  · rw [tb_n (by omega), h3]; exact c4
  · rw [tb_n (by omega)]; exact c14
  · rw [tb_n (by omega), h7]; exact c17
  · rw [tb_n (by omega)]; exact SeeT_same c8 h4 h5 h6
theorem RC_tu {E : Ev} {b T : Nat} (hb : b < 2) {g : Gs} {S : St} {x : Nat} {v : Int32} (h : RC E b T g S) (hv : v = nI x) : RC E b T (sTu g x) (wi S 15 0 v) := by
  have c := h
  obtain ⟨c0, c1, c2, c3, c4, c5, c12, c14, c15, c16, c17, c8⟩ := c
  rw [wi_tb]
  refine RC_1 hb h (by omega) rfl rfl rfl rfl rfl rfl rfl ?_ ?_ ?_ ?_
  · rw [tb_n (by omega)]; exact c5
  · rw [tb_n (by omega)]; exact c12
  · rw [tb_s, pk_us, hv]; rfl
  · rw [tb_n (by omega)]; exact c16
theorem RC_rn {E : Ev} {b T : Nat} (hb : b < 2) {g : Gs} {S : St} {v : Int32} (h : RC E b T g S) (hv : v = nI (gRn g + 1)) : RC E b T (sRn g (gRn g + 1)) (wi S (16 + 2 * b) 0 v) := by
  have c := h
  obtain ⟨c0, c1, c2, c3, c4, c5, c12, c14, c15, c16, c17, c8⟩ := c
  rw [wi_tb]
  refine RC_1 hb h (by omega) rfl rfl rfl rfl rfl rfl rfl ?_ ?_ ?_ ?_
  · rw [tb_n (by omega)]; exact c5
  · rw [tb_n (by omega)]; exact c12
  · rw [tb_n (by omega)]; exact c15
  · rw [tb_s, pk_us, hv]; rfl
theorem RC_tf {E : Ev} {b T : Nat} (hb : b < 2) {g : Gs} {S : St} {t y : Nat} {v : Int32} (h : RC E b T g S) (hv : v = nI y) : RC E b T (sTf g (fu (gTf g) t y)) (tb S 5 (upd (S.1 5) t v)) := by
  have c := h
  obtain ⟨c0, c1, c2, c3, c4, c5, c12, c14, c15, c16, c17, c8⟩ := c
  refine RC_1 hb h (by omega) rfl rfl rfl rfl rfl rfl rfl ?_ ?_ ?_ ?_
  · rw [tb_s]
    intro j hj
    show upd (S.1 5) t v j = nI (fu (gTf g) t y j)
    by_cases h1 : j = t
    · subst h1; rw [pk_us, fu_s, hv]
    · rw [pk_un h1, fu_n h1]; exact c5 j hj
  · rw [tb_n (by omega)]; exact c12
  · rw [tb_n (by omega)]; exact c15
  · rw [tb_n (by omega)]; exact c16
theorem RC_g {E : Ev} {b T : Nat} {g g' : Gs} {S : St} (h : RC E b T g S) (e : g' = g) : RC E b T g' S := by rw [e]; exact h
/-- the tables that runs don't touch -/
def sameF (b : Nat) (S S' : St) : Prop := S'.1 (9 + 2 * b) = S.1 (9 + 2 * b)
theorem next_v {E : Ev} {b T : Nat} (hb : b < 2) {g : Gs} {S : St} (hg : WG g) (h : RC E b T g S) : ∃ S', m_X3_takeNext S = some (nI (nextM g).1, S') ∧ RC E b T (nextM g).2 S' ∧ S'.1 (9 + 2 * b) = S.1 (9 + 2 * b) ∧ S'.1 (16 + 2 * b) = S.1 (16 + 2 * b) := by
  obtain ⟨k1, k2, k3, k4, k5, k6, k7, k8, k9, k10, k11⟩ := hg
  have step : ∀ (k i : Nat) (g0 : Gs) (S0 : St), gAw g0 = gAw g → gTu g0 < 3 → RC E b T g0 S0 → i < 3 → zl2 m_X3_takeNext_B2 (k + 1) S0 (nI i) = (if bI (gAw g (gTu g0)) = 0 then some (nI (gTu g0), wi S0 15 0 (nI ((gTu g0 + 1) % 3))) else zl2 m_X3_takeNext_B2 k (wi S0 15 0 (nI ((gTu g0 + 1) % 3))) (nI (i + 1))) ∧ RC E b T (sTu g0 ((gTu g0 + 1) % 3)) (wi S0 15 0 (nI ((gTu g0 + 1) % 3))) ∧ (wi S0 15 0 (nI ((gTu g0 + 1) % 3))).1 (9 + 2 * b) = S0.1 (9 + 2 * b) ∧ (wi S0 15 0 (nI ((gTu g0 + 1) % 3))).1 (16 + 2 * b) = S0.1 (16 + 2 * b) := by
    intro k i g0 S0 e1 e2 e3 hi
    have h2 := RC_tu hb e3 (x := (gTu g0 + 1) % 3) rfl
    have e15 : rs S0 15 = nI (gTu g0) := e3.2.2.2.2.2.2.2.2.1
    refine ⟨?_, h2, by rw [wi_tb, tb_n (by omega)], by rw [wi_tb, tb_n (by omega)]⟩
    show m_X3_takeNext_B2 (zl2 m_X3_takeNext_B2 k) S0 (nI i) = _
    unfold m_X3_takeNext_B2
    rw [if_neg (by rw [le_nI (by omega) (by omega)]; omega), e15]
    simp only [nI_add, zb_e, irm_nI (show gTu g0 + 1 < 2147483648 by omega) (show 0 < 3 by omega) (show 3 < 2147483648 by omega)]
    have h3 := h2.2.2.2.2.1
    rw [away_v (m := gTu g0) h3 (by show gAw g0 3 = false; rw [e1]; exact k9) (by omega), zo_e]
    show (if bI (gAw g0 (gTu g0)) = 0 then _ else _) = _
    rw [e1]
  have e8192 : m_X3_takeNext S = zl2 m_X3_takeNext_B2 (8188 + 1 + 1 + 1 + 1) S (nI 0) := rfl
  obtain ⟨a1, a2, a3, a4⟩ := step (8188 + 1 + 1 + 1) 0 g S rfl k5 h (by omega)
  have t1 : (gTu g + 1) % 3 < 3 := Nat.mod_lt _ (by omega)
  obtain ⟨b1, b2, b3, b4⟩ := step (8188 + 1 + 1) 1 (sTu g ((gTu g + 1) % 3)) _ rfl t1 a2 (by omega)
  have u1 : gTu (sTu g ((gTu g + 1) % 3)) = (gTu g + 1) % 3 := rfl
  rw [u1] at b1 b2 b3 b4
  have m2 : ((gTu g + 1) % 3 + 1) % 3 = (gTu g + 2) % 3 := by omega
  rw [m2] at b1 b2 b3 b4
  have t2 : (gTu g + 2) % 3 < 3 := Nat.mod_lt _ (by omega)
  obtain ⟨c1, c2, c3, c4⟩ := step (8188 + 1) 2 (sTu (sTu g ((gTu g + 1) % 3)) ((gTu g + 2) % 3)) _ rfl t2 b2 (by omega)
  have u2 : gTu (sTu (sTu g ((gTu g + 1) % 3)) ((gTu g + 2) % 3)) = (gTu g + 2) % 3 := rfl
  rw [u2] at c1 c2 c3 c4
  have m3 : ((gTu g + 2) % 3 + 1) % 3 = gTu g := by omega
  rw [m3] at c1 c2 c3 c4
  have c2 : RC E b T g _ := RC_g c2 rfl
  rw [e8192, a1]
  unfold nextM
  by_cases h1 : gAw g (gTu g) = false
  · rw [if_pos h1, if_pos (by rw [h1]; decide)]
    exact ⟨_, rfl, a2, a3, a4⟩
  · rw [if_neg h1, if_neg (by rw [bI_0]; exact h1), b1]
    by_cases h2 : gAw g ((gTu g + 1) % 3) = false
    · rw [if_pos h2, if_pos (by rw [h2]; decide)]
      exact ⟨_, rfl, b2, b3.trans a3, b4.trans a4⟩
    · rw [if_neg h2, if_neg (by rw [bI_0]; exact h2), c1]
      by_cases h3 : gAw g ((gTu g + 2) % 3) = false
      · rw [if_pos h3, if_pos (by rw [h3]; decide)]
        exact ⟨_, rfl, c2, c3.trans (b3.trans a3), c4.trans (b4.trans a4)⟩
      · rw [if_neg h3, if_neg (by rw [bI_0]; exact h3)]
        refine ⟨_, ?_, c2, c3.trans (b3.trans a3), c4.trans (b4.trans a4)⟩
        show m_X3_takeNext_B2 _ _ (nI (2 + 1)) = _
        unfold m_X3_takeNext_B2
        rw [if_pos (by decide)]
theorem run_l {E : Ev} {b T n : Nat} (hb : b < 2) (hn : n < 32) : ∀ (i k d : Nat) (g : Gs) (S : St), i + d = 3 → d < k → WG g → RC E b T g S →
    ∃ S', zl2 (m_X2_runUntilGood_B2 b (nI n)) k S (nI i) = some ((match (arun (n / 2) d g).1 with | none => -1 | some m => nI m), S') ∧ RC E b T (arun (n / 2) d g).2 S' ∧ S'.1 (9 + 2 * b) = S.1 (9 + 2 * b) := by
  intro i k
  induction k generalizing i with
  | zero => intro d g S _ h; omega
  | succ k ih =>
    intro d g S h1 h2 hg h
    show ∃ S', m_X2_runUntilGood_B2 b (nI n) (zl2 (m_X2_runUntilGood_B2 b (nI n)) k) S (nI i) = _ ∧ _ ∧ _
    generalize zl2 (m_X2_runUntilGood_B2 b (nI n)) k = G at ih ⊢
    unfold m_X2_runUntilGood_B2
    simp only [nI_add, zb_e]
    match d, h1, h2 with
    | 0, h1, h2 =>
      rw [if_pos (by rw [le_nI (by omega) (by omega)]; omega)]
      exact ⟨S, rfl, h, rfl⟩
    | d + 1, h1, h2 =>
      rw [if_neg (by rw [le_nI (by omega) (by omega)]; omega)]
      obtain ⟨S1, e1, e2, e3, e4⟩ := next_v hb hg h
      obtain ⟨x, m, q1, q2, q3, q4⟩ := nextM_c hg
      have q5 : nextM (sRn g (gRn g + 1)) = (m, sTu (sRn g (gRn g + 1)) x) := by
        unfold nextM at q1 ⊢
        show (if gAw g (gTu g) = false then (gTu g, sTu (sRn g (gRn g + 1)) ((gTu g + 1) % 3)) else if gAw g ((gTu g + 1) % 3) = false then ((gTu g + 1) % 3, sTu (sRn g (gRn g + 1)) ((gTu g + 2) % 3)) else if gAw g ((gTu g + 2) % 3) = false then ((gTu g + 2) % 3, sRn g (gRn g + 1)) else (3, sRn g (gRn g + 1))) = _
        have tu : gTu (sTu g x) = x := rfl
        by_cases z1 : gAw g (gTu g) = false
        · rw [if_pos z1] at q1 ⊢
          have w1 := congrArg Prod.fst q1
          have w2 := congrArg (fun p : Nat × Gs => gTu p.2) q1
          have w1 : gTu g = m := w1
          have w2 : (gTu g + 1) % 3 = x := w2
          rw [w1, ← w2, w1]
        · rw [if_neg z1] at q1 ⊢
          by_cases z2 : gAw g ((gTu g + 1) % 3) = false
          · rw [if_pos z2] at q1 ⊢
            have w1 := congrArg Prod.fst q1
            have w2 := congrArg (fun p : Nat × Gs => gTu p.2) q1
            have w1 : (gTu g + 1) % 3 = m := w1
            have w2 : (gTu g + 2) % 3 = x := w2
            rw [w1, w2]
          · rw [if_neg z2] at q1 ⊢
            by_cases z3 : gAw g ((gTu g + 2) % 3) = false
            · rw [if_pos z3] at q1 ⊢
              have w1 := congrArg Prod.fst q1
              have w2 := congrArg (fun p : Nat × Gs => gTu p.2) q1
              have w1 : (gTu g + 2) % 3 = m := w1
              have w2 : gTu g = x := w2
              rw [w1, ← w2]
              rfl
            · rw [if_neg z3] at q1 ⊢
              have w1 := congrArg Prod.fst q1
              have w2 := congrArg (fun p : Nat × Gs => gTu p.2) q1
              have w1 : 3 = m := w1
              have w2 : gTu g = x := w2
              rw [← w1, ← w2]
              rfl
      rw [q1] at e1 e2
      have e2 : RC E b T (sTu g x) S1 := e2
      rw [e1, zo2_e]
      have c16 : rs S1 (16 + 2 * b) = nI (gRn g) := e2.2.2.2.2.2.2.2.2.2.1
      have r2 := RC_rn hb e2 (v := rs S1 (16 + 2 * b) + nI 1) (by rw [c16, nI_add]; rfl)
      have f2 : (wi S1 (16 + 2 * b) 0 (rs S1 (16 + 2 * b) + nI 1)).1 (9 + 2 * b) = S1.1 (9 + 2 * b) := by rw [wi_tb, tb_n (by omega)]
      generalize wi S1 (16 + 2 * b) 0 (rs S1 (16 + 2 * b) + nI 1) = S2 at r2 f2 ⊢
      have h5 := r2.2.2.2.2.2.1 (n / 2) (by omega)
      have h20 := hg.2.2.2.2.2.2.1 (n / 2)
      have h5 : S2.1 5 (n / 2) = nI (gTf g (n / 2)) := h5
      rw [div_nI (by omega) (by omega) (by omega)]
      have ar : arun (n / 2) (d + 1) g = if 0 < gTf g (n / 2) then arun (n / 2) d (sTf (sTu (sRn g (gRn g + 1)) x) (fu (gTf g) (n / 2) (gTf g (n / 2) - 1))) else (some m, sTu (sRn g (gRn g + 1)) x) := by
        rw [arun, q5]
        rfl
      rw [ar]
      unfold m_X3_usesUpFailure
      rw [tg_5 (by omega), zo_e, h5]
      by_cases h6 : 0 < gTf g (n / 2)
      · rw [if_pos h6, if_neg (nI_nle h6 (by omega)), ts_5 (by omega), zo_e, if_neg (nI_nle h6 (by omega)), zo2_e, if_neg (by decide)]
        have r3 := RC_tf hb r2 (t := n / 2) (y := gTf g (n / 2) - 1) (v := nI (gTf g (n / 2)) - nI 1) (pk_sub (by omega))
        have r3 : RC E b T (sTf (sTu (sRn g (gRn g + 1)) x) (fu (gTf g) (n / 2) (gTf g (n / 2) - 1))) _ := r3
        have hg2 : WG (sTf (sTu (sRn g (gRn g + 1)) x) (fu (gTf g) (n / 2) (gTf g (n / 2) - 1))) := WG_rest3 (c := gRn g + 1) hg (a := fu (gTf g) (n / 2) (gTf g (n / 2) - 1)) (b := x) (fun t2 => by
          have h7 := hg.2.2.2.2.2.2.1 t2
          unfold fu
          split
          · omega
          · exact h7) q2
        obtain ⟨S', g1, g2, g3⟩ := ih (i + 1) d _ _ (by omega) (by omega) hg2 r3
        refine ⟨S', g1, g2, ?_⟩
        rw [g3, tb_n (by omega), f2, e3]
      · rw [if_neg h6, show gTf g (n / 2) = 0 by omega, if_pos (by decide), if_pos (by decide), zo2_e, if_pos (by decide)]
        exact ⟨S2, rfl, r2, f2.trans e3⟩
theorem tells_v {po aw : Nat → Bool} {S : St} {m res : Nat} (h : MacT po aw (S.1 4)) (hm : m ≤ 3) (hr : res < 1000) : m_X3_tells S (nI m) (nI res) = some (nI (if ¬ m = 3 ∧ po m = true then (res + 1) % 1000 else res)) := by
  unfold m_X3_tells
  by_cases h1 : m = 3
  · subst h1
    rw [get_hi (k := 4) (by omega) (by show 3 ≤ 3; omega) (by omega), zo_e, if_neg (by decide), if_neg (fun q => q.1 rfl)]
  · rw [tg_4 (by omega) (by omega), zo_e, (h m (by omega)).1]
    simp only [bI_1]
    by_cases h2 : po m = true
    · rw [if_pos h2, if_pos ⟨h1, h2⟩, nI_add, irm_nI (by omega) (by omega) (by omega)]
    · rw [if_neg h2, if_neg (fun q => h2 q.2)]
/-- a machine is put away -/
def putK (g : Gs) (m i : Nat) : Nat → Option Kp := fun j => if j < i then (match gK g j with
      | none => none
      | some q => if gDn g j = 0 ∧ q.2.2.2 = m then none else some q) else gK g j
theorem put_l {b m : Nat} (hb : b < 2) {g : Gs} (hg : WG g) (hm : m < 3) : ∀ (k d i : Nat) (S : St), i + d = 32 → d < k → KepT (putK g m i) (S.1 2) → SeeT g (S.1 (8 + 2 * b)) → ∃ f, zl2 (m_X2_putAway_B23 b (nI m)) k S (nI i) = some (tb S 2 f) ∧ KepT (putK g m 32) f := by
  intro k
  induction k with
  | zero => intro d i S _ h; omega
  | succ k ih =>
    intro d i S h1 h2 h3 h4
    show ∃ f, m_X2_putAway_B23 b (nI m) (zl2 (m_X2_putAway_B23 b (nI m)) k) S (nI i) = _ ∧ _
    unfold m_X2_putAway_B23 m_X2_putAway_J63
    simp only [nI_add, zb_e]
    match d, h1, h2 with
    | 0, h1, h2 =>
      rw [if_pos (by rw [le_nI (by omega) (by omega)]; omega)]
      refine ⟨S.1 2, by rw [tb_id], ?_⟩
      rw [show i = 32 by omega] at h3
      exact h3
    | d + 1, h1, h2 =>
      rw [if_neg (by rw [le_nI (by omega) (by omega)]; omega), tg_s hb (by omega) (by omega), zo_e]
      obtain ⟨s1, s2, s3, s4⟩ := h4 i (by omega)
      rw [s2, tg_2 (by omega) (by omega), zo_e, h3 i (by omega) 51 (by omega)]
      have ki : putK g m i i = gK g i := if_neg (by omega)
      rw [ki]
      have nx : ∀ (f : Nat → Int32), KepT (putK g m (i + 1)) f → ∃ f', zl2 (m_X2_putAway_B23 b (nI m)) k (tb S 2 f) (nI (i + 1)) = some (tb S 2 f') ∧ KepT (putK g m 32) f' := fun f hf => by
        obtain ⟨f', x1, x2⟩ := ih d (i + 1) (tb S 2 f) (by omega) (by omega) (by rw [tb_s]; exact hf) (by rw [tb_n (by omega)]; exact h4)
        exact ⟨f', by rw [x1, tb_tb], x2⟩
      have same : ∀ (_ : putK g m (i + 1) i = gK g i), ∃ f', zl2 (m_X2_putAway_B23 b (nI m)) k S (nI (i + 1)) = some (tb S 2 f') ∧ KepT (putK g m 32) f' := fun hs => by
        have hx := nx (S.1 2) (fun j hj p hp => by
          rw [h3 j hj p hp]
          congr 1
          by_cases h5 : j = i
          · subst h5; rw [hs, ki]
          · unfold putK
            by_cases h6 : j < i
            · rw [if_pos h6, if_pos (by omega)]
            · rw [if_neg h6, if_neg (by omega)])
        rwa [tb_id] at hx
      have pi : putK g m (i + 1) i = (match gK g i with
        | none => none
        | some q => if gDn g i = 0 ∧ q.2.2.2 = m then none else some q) := if_pos (by omega)
      by_cases h5 : gDn g i = 0
      · rw [if_pos (by rw [h5]; decide)]
        cases hk : gK g i with
        | none =>
          rw [show kpC none (i % 2) 51 = -1 from rfl, if_neg (fun q => nI_n1 (by omega) q.symm)]
          exact same (by rw [pi, hk])
        | some q =>
          obtain ⟨q1, q2, q3, q4, q5⟩ := hg.1 i q hk
          rw [show kpC (some q) (i % 2) 51 = nI q.2.2.2 from rfl]
          by_cases h6 : q.2.2.2 = m
          · rw [if_pos (by rw [h6]), clr2_v (by omega), zo_e]
            refine nx _ (fun j hj p hp => ?_)
            have hh := KepT_clr h3 (n := i) j hj p hp
            rw [hh]
            congr 1
            by_cases h7 : j = i
            · subst h7
              rw [fu_s, pi, hk]
              exact (if_pos ⟨h5, h6⟩).symm
            · rw [fu_n h7]
              unfold putK
              by_cases h8 : j < i
              · rw [if_pos h8, if_pos (by omega)]
              · rw [if_neg h8, if_neg (by omega)]
          · rw [if_neg (nI_ne (by omega) (by omega) h6)]
            exact same (by rw [pi, hk]; exact if_neg (fun x => h6 x.2))
      · rw [if_neg (by rw [eq0_nI (by omega)]; exact h5)]
        exact same (by
          rw [pi]
          cases hk : gK g i with
          | none => rfl
          | some q => exact if_neg (fun x => h5 x.1))
