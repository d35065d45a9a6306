/-! comparing what is kept -/
theorem acmp_cons {E : Ev} {L : Nat → Gs → Ans × Gs} {n : Nat} {x : Rd} {t : List Rd} {j : Nat} {g : Gs} :
    acmp E L n (x :: t) j g = if (acmp E L n [x] j g).1 = 0 then acmp E L n t (j + 1) (acmp E L n [x] j g).2 else (10 + j, (acmp E L n [x] j g).2) := by
  rw [acmp, acmp]
  by_cases h1 : x.2.1 = 1
  · rw [if_pos h1, if_pos h1]
    by_cases h2 : fvals (eφ E) x.2.2.1 = x.2.2.2
    · rw [if_pos h2, if_pos h2]; rfl
    · rw [if_neg h2, if_neg h2]
      show (10 + j, g) = if 10 + j = 0 then _ else _
      rw [if_neg (by omega)]
  · rw [if_neg h1, if_neg h1]
    by_cases h3 : x.2.1 = 0 ∨ x.2.1 = 4
    · rw [if_pos h3, if_pos h3]
      by_cases h2 : [eφ E x.2.2.1] = x.2.2.2
      · rw [if_pos h2, if_pos h2]; rfl
      · rw [if_neg h2, if_neg h2]
        show (10 + j, g) = if 10 + j = 0 then _ else _
        rw [if_neg (by omega)]
    · rw [if_neg h3, if_neg h3]
      by_cases h2 : valEq (L (nR n x.2.1 x.2.2.1) g).1 x.2.2.2 = true
      · rw [if_pos h2, if_pos h2]; rfl
      · rw [if_neg h2, if_neg h2]
        show _ = if 10 + j = 0 then _ else _
        rw [if_neg (by omega)]
theorem KepT_rd {K : Nat → Option Kp} {f : Nat → Int32} (h : KepT K f) {n : Nat} (hn : n < 32) {q : Kp} (hq : K n = some q) {j : Nat} (hj : j < q.2.1.length) (hl : q.2.1.length ≤ 5) {i : Nat} (hi : i < 7) : f (n * 53 + (15 + j * 7 + i)) = celX (q.2.1[j]) i := by
  rw [h n hn _ (by omega), hq]
  show rowC _ _ _ _ _ _ _ = _
  rw [rowC_rd (by omega) (by omega), show 15 + j * 7 + i - 15 = 7 * j + i by omega, rdC_at hi, List.getElem?_eq_getElem hj]
  rfl
theorem folB_l {b : Nat} {φ : Nat → Option Nat} {S : St} {n y c : Nat} {vs : List (Option Nat)} (hn : n < 32) (hy : y < 4) (hc : c + 7 ≤ 53) (h0 : FilT φ (S.1 0)) (hφ : FOK φ) (hl : vs.length = 5) (hv : ∀ o ∈ vs, ∀ m, o = some m → m < 1000) (hS : ∀ i, i < 5 → S.1 2 (n * 53 + (c + 2 + i)) = eO (vs[i]?).join) :
    ∀ k d i, i + d = 5 → d < k → zl1 (m_X2_isAsItWas_B65 S (nI y) (nI n) (nI c)) k (nI i) = some (nI (if (fvals φ y).drop i = vs.drop i then 1 else 0), S) := by
  have hl2 := fvals_len φ y
  have hv2 := fvals_lt hφ y
  intro k
  induction k with
  | zero => intro d i _ h; omega
  | succ k ih =>
    intro d i h1 h2
    have hu : zl1 (m_X2_isAsItWas_B65 S (nI y) (nI n) (nI c)) (k + 1) (nI i) = m_X2_isAsItWas_B65 S (nI y) (nI n) (nI c) (zl1 (m_X2_isAsItWas_B65 S (nI y) (nI n) (nI c)) k) (nI i) := rfl
    rw [hu]
    generalize hG : zl1 (m_X2_isAsItWas_B65 S (nI y) (nI n) (nI c)) k = G at ih ⊢
    unfold m_X2_isAsItWas_B65
    simp only [nI_add, zb_e]
    match d, h1, h2 with
    | 0, h1, h2 =>
      rw [if_pos (by rw [le_nI (by omega) (by omega)]; omega), List.drop_of_length_le (by omega), List.drop_of_length_le (by omega), if_pos rfl]
    | d + 1, h1, h2 =>
      rw [if_neg (by rw [le_nI (by omega) (by omega)]; omega), tg_0 hy (by omega), zo_e, tg_2 hn (by omega), zo_e, hS i (by omega), h0 _ (by omega), ih d (i + 1) (by omega) (by omega)]
      have d1 : (fvals φ y).drop i = (fvals φ y)[i] :: (fvals φ y).drop (i + 1) := List.drop_eq_getElem_cons (by omega)
      have d2 : vs.drop i = vs[i] :: vs.drop (i + 1) := List.drop_eq_getElem_cons (by omega)
      have g1 : (fvals φ y)[i]'(by omega) = φ (y * 5 + i) := by
        have h := fvals_get (φ := φ) (k := y) (i := i) (by omega)
        rw [List.getElem?_eq_getElem (by omega)] at h
        rw [Option.some.inj h, Nat.mul_comm]
      have g2 : (vs[i]?).join = vs[i] := by rw [List.getElem?_eq_getElem (by omega)]; rfl
      rw [d1, d2, g1, g2]
      by_cases h4 : φ (y * 5 + i) = vs[i]
      · rw [if_pos (by rw [h4]), h4]
        by_cases h5 : (fvals φ y).drop (i + 1) = vs.drop (i + 1)
        · rw [if_pos h5, if_pos (by rw [h5])]
        · rw [if_neg h5, if_neg (fun q => h5 (List.cons.inj q).2)]
      · rw [if_neg (fun q => h4 (eO_inj (fun m e => Nat.lt_trans (hφ _ m e) (by omega)) (fun m e => Nat.lt_trans (hv _ (List.getElem_mem (by omega)) m e) (by omega)) q)), if_neg (fun q => h4 (List.cons.inj q).1)]
/-- one input that was read is looked at again -/
theorem cmp_x {E : Ev} {b T : Nat} (hE : EvOK E) {L : Nat → Gs → Ans × Gs} (hL : LOK L) {LK : St → Int32 → Int32 → Option (Int32 × St)} {d : Nat} (hLK : LKC (RC E b T) (9 + 2 * b) L LK (d + 1)) {g : Gs} {S : St} {n j sl0 w y : Nat} {vs : List (Option Nat)} (hn : n < 32) (hg : WG g) (hS : RC E b T g S) (hj5 : j < 5)
    (o1 : sl0 ≤ 4) (o2 : w ≤ 4) (h20 : y < 20) (o4 : vs.length = if w = 1 then 5 else 1) (o5 : ∀ o ∈ vs, ∀ n, o = some n → n < 1000) (o6 : ¬ w = 1 → ¬ w = 4 → ∃ v, vs = [some v])
    (hs : (sl0 < 4 ∧ w < 4 ∧ y < lim w) ∨ (sl0 = 4 ∧ w = 4)) (ce : ∀ i, i < 7 → S.1 2 (n * 53 + (15 + j * 7 + i)) = celX (sl0, w, y, vs) i)
    (ce' : ∀ S', RC E b T (acmp E L n [(sl0, w, y, vs)] j g).2 S' → ∀ i, i < 7 → S'.1 2 (n * 53 + (15 + j * 7 + i)) = celX (sl0, w, y, vs) i) :
    ∃ S', m_X2_isAsItWas LK b S (nI n) (nI (15 + j * 7)) (nI d) = some (nI (if (acmp E L n [(sl0, w, y, vs)] j g).1 = 0 then 1 else 0), S') ∧ RC E b T (acmp E L n [(sl0, w, y, vs)] j g).2 S' ∧ FrO (9 + 2 * b) n g S S' := by
  unfold m_X2_isAsItWas
  simp only [nI_add]
  rw [tg_2 hn (by omega), zo_e, tg_2 hn (by omega), zo_e, ce 0 (by omega), ce 1 (by omega)]
  show ∃ S', (if nI w = nI 1 then zl1 (m_X2_isAsItWas_B65 S (nI y) (nI n) (nI (15 + j * 7))) FU (nI 0) else zo2 (m_X2_valueNow LK b S (nI n) (nI w) (nI y) (nI d)) fun x7 S8 => zo (m_X4_get 2 S8 (nI n) (nI (15 + j * 7 + 2))) fun x9 => if x7 = x9 then some (nI 1, S8) else some (nI 0, S8)) = _ ∧ _ ∧ _
  have ea : acmp E L n [(sl0, w, y, vs)] j g = if w = 1 then (if fvals (eφ E) y = vs then (0, g) else (10 + j, g))
    else if w = 0 ∨ w = 4 then (if [eφ E y] = vs then (0, g) else (10 + j, g))
    else if valEq (L (nR n w y) g).1 vs = true then (0, (L (nR n w y) g).2) else (10 + j, (L (nR n w y) g).2) := rfl
  rw [ea] at ce' ⊢
  by_cases h1 : w = 1
  · subst h1
    rw [if_pos rfl] at o4
    have hy : y < 4 := by
      rcases hs with h | h
      · exact h.2.2
      · exact absurd h.2 (by omega)
    rw [if_pos rfl, if_pos rfl]
    have hf := folB_l (b := b) (S := S) (n := n) (y := y) (c := 15 + j * 7) (vs := vs) hn hy (by omega) hS.1 hE.1 o4 o5 (fun i hi => by
      rw [show 15 + j * 7 + 2 + i = 15 + j * 7 + (2 + i) by omega, ce (2 + i) (by omega)]
      show (if 2 + i = 0 then _ else if 2 + i = 1 then _ else _) = _
      rw [if_neg (by omega), if_neg (by omega), Nat.add_sub_cancel_left]) FU 5 0 (by omega) (FU_gt (by omega))
    rw [List.drop_zero, List.drop_zero] at hf
    refine ⟨S, ?_, ?_, FrO_rf⟩
    · rw [hf]
      by_cases h2 : fvals (eφ E) y = vs
      · rw [if_pos h2, if_pos h2]; rfl
      · rw [if_neg h2, if_neg h2, if_neg (by show ¬ 10 + j = 0; omega)]
    · split <;> exact hS
  · rw [if_neg h1] at ce' ⊢
    rw [if_neg h1] at o4
    rw [if_neg (nI_ne (by omega) (by omega) h1)]
    obtain ⟨o, ho⟩ := List.length_eq_one_iff.mp o4
    have c2 : celX (sl0, w, y, vs) 2 = eO o := by rw [ho]; rfl
    by_cases h3 : w = 0 ∨ w = 4
    · rw [if_pos h3] at ce' ⊢
      have hval : m_X2_valueNow LK b S (nI n) (nI w) (nI y) (nI d) = some (if w = 0 ∧ eφ E y = none then -3 else eO (eφ E y), S) := by
        rcases h3 with rfl | rfl
        · rw [valNow_0 h20, hS.1 y h20]
          cases hφ : eφ E y with
          | none => rw [show eO none = -1 from rfl, if_pos rfl, if_pos ⟨rfl, rfl⟩]
          | some v =>
            have hv := hE.1 _ _ hφ
            rw [show eO (some v) = nI v from rfl, if_neg (nI_n1 (by omega)), if_neg (fun q => by cases q.2)]
        · rw [valNow_4 h20, hS.1 y h20, if_neg (fun q => absurd q.1 (by decide))]
      refine ⟨S, ?_, by split <;> exact hS, FrO_rf⟩
      rw [hval, zo2_e, tg_2 hn (by omega), zo_e, ce 2 (by omega), c2]
      have key : ((if w = 0 ∧ eφ E y = none then (-3 : Int32) else eO (eφ E y)) = eO o) ↔ [eφ E y] = vs := by
        rw [ho]
        constructor
        · intro h
          by_cases h4 : w = 0 ∧ eφ E y = none
          · rw [if_pos h4] at h
            exfalso
            cases o with
            | none => exact absurd h (by decide)
            | some v =>
              have hv := o5 (some v) (by rw [ho]; exact List.mem_cons_self) v rfl
              have h6 : (0 : Int32) ≤ nI v := nI_pos' (by omega)
              rw [show eO (some v) = nI v from rfl] at h
              rw [← h] at h6
              exact absurd h6 (by decide)
          · rw [if_neg h4] at h
            rw [eO_inj (fun m e => Nat.lt_trans (hE.1 _ m e) (by omega)) (fun m e => Nat.lt_trans (o5 o (by rw [ho]; exact List.mem_cons_self) m e) (by omega)) h]
        · intro h
          have h4 : eφ E y = o := (List.cons.inj h).1
          rw [if_neg (fun h5 => by
            have h7 : ¬ w = 4 := by omega
            obtain ⟨v, hv⟩ := o6 h1 h7
            rw [ho] at hv
            have h8 : o = some v := (List.cons.inj hv).1
            rw [← h4, h5.2] at h8
            cases h8), h4]
      by_cases h4 : [eφ E y] = vs
      · rw [if_pos (key.mpr h4), if_pos h4]; rfl
      · rw [if_neg (fun h => h4 (key.mp h)), if_neg h4, if_neg (by show ¬ 10 + j = 0; omega)]
    · rw [if_neg h3] at ce' ⊢
      have hw : w = 2 ∨ w = 3 := by omega
      have hy : y < 16 := by
        rcases hs with h | h
        · have := h.2.2
          rwa [lim_16 (by omega) h1] at this
        · omega
      obtain ⟨a1, a2, a3⟩ := hL (nR n w y) g (nR_lt hy) hg
      obtain ⟨S4, c1, c3, c4⟩ := hLK (nR n w y) g S (nR_lt hy) hg hS
      rw [valNow_n hn hw hy, c1, zo2_e, zo2_e]
      have hR4 : RC E b T (if valEq (L (nR n w y) g).1 vs = true then (0, (L (nR n w y) g).2) else (10 + j, (L (nR n w y) g).2)).2 S4 := by
        split <;> exact c3
      rw [tg_2 hn (by omega), zo_e, ce' S4 hR4 2 (by omega), c2]
      refine ⟨S4, ?_, hR4, fun m hm hne hd => c4 m hm hd⟩
      have key : enA (L (nR n w y) g).1 = eO o ↔ valEq (L (nR n w y) g).1 vs = true := by
        rw [ho]
        cases ha : (L (nR n w y) g).1 with
        | inl k =>
          rw [ha] at a3
          refine ⟨fun h => ?_, fun h => by cases h⟩
          exfalso
          cases o with
          | none => exact (enA_l a3).2.2.1 h
          | some v => exact (enA_l a3).2.2.2 v (o5 (some v) (by rw [ho]; exact List.mem_cons_self) v rfl) h
        | inr v =>
          rw [ha] at a3
          have a3 : v < 1000 := a3
          show nI v = eO o ↔ decide ([o] = [some v]) = true
          rw [decide_eq_true_iff]
          constructor
          · intro h
            have h2 : some v = o := eO_inj (a := some v) (fun m e => by cases e; omega) (fun m e => Nat.lt_trans (o5 o (by rw [ho]; exact List.mem_cons_self) m e) (by omega)) h
            rw [h2]
          · intro h
            rw [(List.cons.inj h).1]
            rfl
      by_cases h4 : valEq (L (nR n w y) g).1 vs = true
      · rw [if_pos (key.mpr h4), if_pos h4]; rfl
      · rw [if_neg (fun h => h4 (key.mp h)), if_neg h4, if_neg (by show ¬ 10 + j = 0; omega)]
theorem cmp_one {E : Ev} {b T : Nat} (hE : EvOK E) {L : Nat → Gs → Ans × Gs} (hL : LOK L) {LK : St → Int32 → Int32 → Option (Int32 × St)} {d : Nat} (hLK : LKC (RC E b T) (9 + 2 * b) L LK (d + 1)) {g : Gs} {S : St} {n j : Nat} {q : Kp} (hn : n < 32) (hg : WG g) (h5 : gDn g n = 5) (hS : RC E b T g S) (hq : gK g n = some q) (hj : j < q.2.1.length) :
    ∃ S', m_X2_isAsItWas LK b S (nI n) (nI (15 + j * 7)) (nI d) = some (nI (if (acmp E L n [q.2.1[j]] j g).1 = 0 then 1 else 0), S') ∧ RC E b T (acmp E L n [q.2.1[j]] j g).2 S' ∧ FrO (9 + 2 * b) n g S S' := by
  obtain ⟨k1, k2, k3, k4, k5⟩ := hg.1 n q hq
  have hl := WFr_le k1 k3
  have hx := k2 _ (List.getElem_mem hj)
  have hs := WFr_slot k1 k3 _ (List.getElem_mem hj)
  have hco := cmpOK_of k1 k3 _ (List.getElem_mem hj)
  obtain ⟨⟨o1, o2, o3, o4, o5⟩, o6⟩ := hx
  refine cmp_x hE hL hLK (sl0 := (q.2.1[j]).1) (w := (q.2.1[j]).2.1) (y := (q.2.1[j]).2.2.1) (vs := (q.2.1[j]).2.2.2) hn hg hS (by omega) o1 o2 o3 o4 o5 o6 ?_ (fun i hi => KepT_rd hS.2.2.1 hn hq hj hl (i := i) hi) (fun S' h i hi => ?_)
  · rcases hs with h | h
    · exact Or.inl ⟨h.1, h.2.2.1, h.2.2.2⟩
    · exact Or.inr h
  · have ha := (acmp_c hL (E := E) (n := n) [q.2.1[j]] j g (fun x h => by rw [List.mem_singleton.mp h]; exact hco) hg).2
    exact KepT_rd h.2.2.1 hn ((ha.2.1 n h5).trans hq) hj hl hi
theorem cmp_l {E : Ev} {b T : Nat} (hE : EvOK E) {L : Nat → Gs → Ans × Gs} (hL : LOK L) {LK : St → Int32 → Int32 → Option (Int32 × St)} {d : Nat} (hLK : LKC (RC E b T) (9 + 2 * b) L LK (d + 1)) {n : Nat} {q : Kp} (hn : n < 32) :
    ∀ (k dd j : Nat) (g : Gs) (S : St), j + dd = q.2.1.length → dd < k → WG g → gDn g n = 5 → gK g n = some q → RC E b T g S →
    ∃ S', zl2 (m_X2_whyNotReused_B52 (nI q.2.1.length) LK b (nI n) (nI d)) k S (nI j) = some (nI (acmp E L n (q.2.1.drop j) j g).1, S') ∧ RC E b T (acmp E L n (q.2.1.drop j) j g).2 S' ∧ FrO (9 + 2 * b) n g S S' := by
  intro k
  induction k with
  | zero => intro dd j g S _ h; omega
  | succ k ih =>
    intro dd j g S h1 h2 h3 h4 h5 h6
    obtain ⟨k1, k2, k3, k4, k5⟩ := h3.1 n q h5
    have hl := WFr_le k1 k3
    have hu : zl2 (m_X2_whyNotReused_B52 (nI q.2.1.length) LK b (nI n) (nI d)) (k + 1) S (nI j) = m_X2_whyNotReused_B52 (nI q.2.1.length) LK b (nI n) (nI d) (zl2 (m_X2_whyNotReused_B52 (nI q.2.1.length) LK b (nI n) (nI d)) k) S (nI j) := rfl
    rw [hu]
    generalize hG : zl2 (m_X2_whyNotReused_B52 (nI q.2.1.length) LK b (nI n) (nI d)) k = G at ih ⊢
    unfold m_X2_whyNotReused_B52
    simp only [nI_add, pk_mul, zb_e]
    match dd, h1, h2 with
    | 0, h1, h2 =>
      rw [if_pos (by rw [le_nI (by omega) (by omega)]; omega), List.drop_of_length_le (by omega)]
      exact ⟨S, rfl, h6, FrO_rf⟩
    | dd + 1, h1, h2 =>
      have hj : j < q.2.1.length := by omega
      rw [if_neg (by rw [le_nI (by omega) (by omega)]; omega), if_neg (by rw [le_nI (by omega) (by omega)]; omega)]
      obtain ⟨S', e1, e2, e3⟩ := cmp_one hE hL hLK hn h3 h4 h6 h5 hj
      have hc := acmp_c hL (E := E) (n := n) [q.2.1[j]] j g (fun x h => by
        rw [List.mem_singleton.mp h]; exact cmpOK_of k1 k3 _ (List.getElem_mem hj)) h3
      rw [e1, zo2_e, List.drop_eq_getElem_cons hj, acmp_cons (x := q.2.1[j]) (t := q.2.1.drop (j + 1))]
      by_cases h7 : (acmp E L n [q.2.1[j]] j g).1 = 0
      · simp only [if_pos h7]
        rw [if_neg (by decide)]
        obtain ⟨S2, f1, f2, f3⟩ := ih dd (j + 1) _ S' (by omega) (by omega) hc.1 ((hc.2.1 n).mpr h4) ((hc.2.2.1 n h4).trans h5) e2
        exact ⟨S2, f1, f2, FrO_tr e3 f3 hc.2⟩
      · simp only [if_neg h7]
        rw [if_pos (by decide)]
        exact ⟨S', rfl, e2, e3⟩
theorem ruC_all {r s : Rul} (hr : RulOK r) (hs : RulOK s) (h : ∀ p, 0 ≤ p → p < 13 → ruC r p = ruC s p) : r = s :=
  Rul_ext (ruC_time hr hs (h 0 (by omega) (by omega))) (ruC_inj hr hs (fun p _ p2 => h p (by omega) p2))
theorem why_v {E : Ev} {b T : Nat} (hE : EvOK E) {L : Nat → Gs → Ans × Gs} (hL : LOK L) {LK : St → Int32 → Int32 → Option (Int32 × St)} {d : Nat} (hLK : LKC (RC E b T) (9 + 2 * b) L LK (d + 1)) {n : Nat} {g : Gs} {S : St} (hn : n < 32) (hg : WG g) (h5 : gDn g n = 5) (hS : RC E b T g S) :
    ∃ S', m_X2_whyNotReused LK b S (nI n) (nI d) = some (nI (awhy E L n g).1, S') ∧ RC E b T (awhy E L n g).2 S' ∧ FrO (9 + 2 * b) n g S S' := by
  unfold m_X2_whyNotReused awhy
  rw [tg_2 hn (by omega), zo_e, hS.2.2.1 n hn 1 (by omega)]
  cases hk : gK g n with
  | none =>
    rw [show kpC none (n % 2) 1 = -1 from rfl, if_pos rfl]
    exact ⟨S, rfl, hS, FrO_rf⟩
  | some q =>
    obtain ⟨k1, k2, k3, k4, k5⟩ := hg.1 n q hk
    have hl := WFr_le k1 k3
    have e1 : kpC (some q) (n % 2) 1 = nI (kd q.1) := rfl
    rw [e1, if_neg (nI_n1 (by have := k1.1; omega)), div_nI (by omega) (by omega) (by omega)]
    have kc : ∀ p, p < 13 → S.1 2 (n * 53 + p) = ruC q.1 p := fun p hp => by
      rw [hS.2.2.1 n hn p (by omega), hk]
      exact rowC_ru hp
    show ∃ S', _ = some (nI (if dcP (eρ E (n / 2) = some q.1) = true then acmp E L n q.2.1 0 g else (2, g)).1, S') ∧ RC E b T (if dcP (eρ E (n / 2) = some q.1) = true then acmp E L n q.2.1 0 g else (2, g)).2 S' ∧ _
    by_cases h1 : eρ E (n / 2) = some q.1
    · have hs := isSame_t (k := 2) (k2 := 1) (by omega) (by omega) (S := S) (r := n) (r2 := n / 2) (a := 0) (e := 13) hn (by show n / 2 < 16; omega) (by show 13 ≤ 53; omega) (by show 13 ≤ 13; omega) (by omega) (fun p _ hp => by
        show S.1 2 (n * 53 + p) = S.1 1 (n / 2 * 13 + p)
        rw [kc p hp, hS.2.1 (n / 2) (by omega) p hp, h1]
        rfl)
      rw [hs, zo_e, if_neg (by decide), tg_2 hn (by omega), zo_e, hS.2.2.1 n hn 14 (by omega), hk]
      rw [if_pos (dcP_t.mpr h1)]
      obtain ⟨S', f1, f2, f3⟩ := cmp_l hE hL hLK (q := q) hn FU q.2.1.length 0 g S (by omega) (FU_gt (by omega)) hg h5 hk hS
      rw [List.drop_zero] at f1 f2
      exact ⟨S', f1, f2, f3⟩
    · have hs := isSame_f (k := 2) (k2 := 1) (by omega) (by omega) (S := S) (r := n) (r2 := n / 2) (a := 0) (e := 13) hn (by show n / 2 < 16; omega) (by show 13 ≤ 53; omega) (by show 13 ≤ 13; omega) (by omega) (fun h => by
        have h2 : ∀ p, p < 13 → ruC q.1 p = rlC (eρ E (n / 2)) p := fun p hp => by
          rw [← kc p hp, ← hS.2.1 (n / 2) (by omega) p hp]
          exact h p (by omega) hp
        cases hr : eρ E (n / 2) with
        | none =>
          have h3 := h2 1 (by omega)
          rw [hr] at h3
          exact nI_n1 (by have := k1.1; omega) h3
        | some r =>
          refine h1 ?_
          rw [hr, ruC_all k1 (hE.2 _ _ hr) (fun p _ hp => by
            have h3 := h2 p hp
            rw [hr] at h3
            exact h3)])
      rw [hs, zo_e, if_pos (by decide), if_neg (fun h => h1 (dcP_t.mp h))]
      exact ⟨S, rfl, hS, FrO_rf⟩
