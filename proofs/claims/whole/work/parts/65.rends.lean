/-! behind all inputs: the sum, what is found, a leak, the result -/
theorem sumOf_l {S : St} {φ : Nat → Option Nat} (hφ : FOK φ) (h0 : FilT φ (S.1 0)) {y : Nat} (hy : y < 4) : ∀ (k d i s : Nat), i + d = 5 → d < k → s ≤ 1000 * i → zl2 (m_X7_sumOf_B4 (nI y) S) k (nI s) (nI i) = some (nI ((s + sumO ((fvals φ y).drop i)) % 1000)) := by
  intro k
  induction k with
  | zero => intro d i s _ h; omega
  | succ k ih =>
    intro d i s h1 h2 h3
    show m_X7_sumOf_B4 (nI y) S (zl2 (m_X7_sumOf_B4 (nI y) S) k) (nI s) (nI i) = _
    generalize zl2 (m_X7_sumOf_B4 (nI y) S) k = G at ih ⊢
    unfold m_X7_sumOf_B4
    simp only [nI_add, pk_mul, zb_e]
    match d, h1, h2 with
    | 0, h1, h2 =>
      rw [if_pos (by rw [le_nI (by omega) (by omega)]; omega), irm_nI (by omega) (by omega) (by omega), List.drop_of_length_le (by rw [fvals_len]; omega)]
      rfl
    | d + 1, h1, h2 =>
      rw [if_neg (by rw [le_nI (by omega) (by omega)]; omega), zg_in (show 5 * y + i < 20 by omega) (by omega), ri_n (by omega), h0 _ (by omega)]
      have hj := sumO_drop (fvals φ y) i
      have e : (((fvals φ y)[i]?).join) = φ (5 * y + i) := by rw [fvals_get (by omega)]; rfl
      rw [e] at hj
      cases ho : φ (5 * y + i) with
      | none =>
        rw [ho] at hj
        rw [show eO none = -1 from rfl, if_pos rfl, ih d (i + 1) (s + 0) (by omega) (by omega) (by omega), hj]
        show some (nI ((s + 0 + _) % 1000)) = some (nI ((s + (0 + _)) % 1000))
        rw [Nat.add_assoc]
      | some m =>
        have hm := hφ _ _ ho
        rw [ho] at hj
        rw [show eO (some m) = nI m from rfl, if_neg (nI_n1 (by omega)), zg_in (show 5 * y + i < 20 by omega) (by omega), nI_add, ih d (i + 1) (s + m) (by omega) (by omega) (by omega), hj]
        show some (nI ((s + m + _) % 1000)) = some (nI ((s + (m + _)) % 1000))
        rw [Nat.add_assoc]
theorem sumOf_v {S : St} {φ : Nat → Option Nat} (hφ : FOK φ) (h0 : FilT φ (S.1 0)) {y : Nat} (hy : y < 4) : m_X7_sumOf S (nI y) = some (nI (sumO (fvals φ y) % 1000)) := by
  have h := sumOf_l hφ h0 hy FU 5 0 0 (by omega) (FU_gt (by omega)) (by omega)
  rw [Nat.zero_add, List.drop_zero] at h
  exact h
theorem vread_v {E : Ev} {S : St} {n i k : Nat} {r : Rul} {acc : List Rd} {x : Rd} (hE : EvOK E) (hn : n < 32) (hr : RulOK r) (h0 : FilT (eφ E) (S.1 0)) (hM : RrM S (n / 2) r) (hI : IP n i acc S) (hl : acc.length ≤ 5) (hx : acc[k]? = some x) (hA : AC E x) (hs : x.1 < 4 ∧ (ip r)[x.1]? = some (x.2.1, x.2.2.1)) :
    m_X7_valueRead S (nI n) (nI k) = some (nI (sumO x.2.2.2 % 1000)) := by
  have hk := (List.getElem?_eq_some_iff.mp hx).1
  obtain ⟨i1, i2, i3, i4⟩ := hI
  obtain ⟨e1, e2, e3⟩ := i4 k x hx
  obtain ⟨m1, m2, m3, m4, m5, m6⟩ := hM
  obtain ⟨g6, g7⟩ := m6 x.1 _ hs.2
  obtain ⟨q1, q2, q3⟩ := hr.get hs.2
  have q2 : x.2.1 < 4 := q2
  have q3 : x.2.2.1 < lim x.2.1 := q3
  unfold m_X7_valueRead
  simp only [pk_mul, nI_add]
  rw [zg_in (show 5 * n + k < 160 by omega) (by omega), ri_n (by omega), e1, div_nI (by omega) (by omega) (by omega), pk_mul, nI_add, zb_e, zg_in (show 4 * (n / 2) + x.1 < 64 by omega) (by omega), ri_n (by omega), g6]
  by_cases h1 : x.2.1 = 1
  · have hy : x.2.2.1 < 4 := by rw [h1] at q3; exact q3
    rw [if_pos (by rw [h1]), zg_in (show 4 * (n / 2) + x.1 < 64 by omega) (by omega), ri_n (by omega), g7, sumOf_v hE.1 h0 hy, zo_e, hA.2 h1]
  · rw [if_neg (nI_ne (by omega) (by omega) h1), zg_in (show 5 * n + k < 160 by omega) (by omega), rj_n (by omega), e3]
    obtain ⟨v, hv⟩ := hA.1.2 h1 (by omega)
    have hv2 : v < 1000 := hA.1.1.2.2.2.2 (some v) (by rw [hv]; exact List.mem_cons_self) v rfl
    unfold encV
    rw [if_neg h1, hv]
    show some (lN v).toInt32 = some (nI ((v + 0) % 1000))
    rw [lN_i, Nat.add_zero, Nat.mod_eq_of_lt hv2]
theorem seen_l {S : St} {t f : Nat} {r : Rul} (ht : t < 16) (hr : RulOK r) (hM : RrM S t r) (hf : f < 20) : ∀ (k d i : Nat) (b : Bool), i + d = (ip r).length → d < k → zl2 (m_X7_isSeen_B5 (nI t) S (nI f)) k (bI b) (nI i) = some (bI (b || ((ip r).drop i).any (seesP f))) := by
  obtain ⟨m1, m2, m3, m4, m5, m6⟩ := hM
  have h6 := hr.2.2.2.2.2.1
  intro k
  induction k with
  | zero => intro d i b _ h; omega
  | succ k ih =>
    intro d i b h1 h2
    show m_X7_isSeen_B5 (nI t) S (nI f) (zl2 (m_X7_isSeen_B5 (nI t) S (nI f)) k) (bI b) (nI i) = _
    generalize zl2 (m_X7_isSeen_B5 (nI t) S (nI f)) k = G at ih ⊢
    unfold m_X7_isSeen_B5 m_X7_isSeen_J57 m_X7_isSeen_J71 m_X7_isSeen_J75 m_X7_isSeen_J76
    simp only [nI_add, pk_mul, zb_e]
    rw [zg_in ht (by omega), ri_n (by omega), m5]
    match d, h1, h2 with
    | 0, h1, h2 =>
      rw [if_pos (by rw [le_nI (by omega) (by omega)]; omega), List.drop_of_length_le (by omega)]
      cases b <;> rfl
    | d + 1, h1, h2 =>
      have hi : i < (ip r).length := by omega
      obtain ⟨q1, q2, q3⟩ := hr.get (List.getElem?_eq_getElem hi)
      have q4 := lim_le (ip r)[i].1
      obtain ⟨g6, g7⟩ := m6 i _ (List.getElem?_eq_getElem hi)
      rw [if_neg (by rw [le_nI (by omega) (by omega)]; omega), zg_in (show 4 * t + i < 64 by omega) (by omega), zg_in (show 4 * t + i < 64 by omega) (by omega), ri_n (by omega), ri_n (by omega), g6, g7, div_nI (by omega) (by omega) (by omega), List.drop_eq_getElem_cons hi, List.any_cons]
      have i1 := ih d (i + 1) true (by omega) (by omega)
      have i0 := ih d (i + 1) false (by omega) (by omega)
      have i1 : G (nI 1) (nI (i + 1)) = some (bI true) := i1
      have i0 : G (nI 0) (nI (i + 1)) = some (bI (((ip r).drop (i + 1)).any (seesP f))) := i0
      rw [i1, i0]
      have c1 : (nI (ip r)[i].1 = 0) = ((ip r)[i].1 = 0) := eq0_nI (by omega)
      have c2 : (nI (ip r)[i].1 = nI 1) = ((ip r)[i].1 = 1) := eq_nI (by omega) (by omega)
      have c3 : (nI (ip r)[i].2 = nI f) = ((ip r)[i].2 = f) := eq_nI (by omega) (by omega)
      have c4 : (nI (ip r)[i].2 = nI (f / 5)) = ((ip r)[i].2 = f / 5) := eq_nI (by omega) (by omega)
      simp only [c1, c2, c3, c4]
      generalize (ip r)[i] = q
      generalize ((ip r).drop (i + 1)).any (seesP f) = tl
      unfold seesP
      cases b with
      | true => rw [if_neg (by decide)]; rfl
      | false =>
        rw [if_pos (by decide)]
        by_cases d1 : q.1 = 0
        · have d2 : ¬ q.1 = 1 := by omega
          by_cases d3 : q.2 = f <;> simp [d1, d3]
        · by_cases d2 : q.1 = 1
          · by_cases d4 : q.2 = f / 5 <;> simp [d2, d4]
          · simp [d1, d2]
theorem seen_v {S : St} {t f : Nat} {r : Rul} (ht : t < 16) (hr : RulOK r) (hM : RrM S t r) (hf : f < 20) : m_X7_isSeen S (nI t) (nI f) = some (bI (sees r f)) :=
  seen_l ht hr hM hf FU (ip r).length 0 false (by omega) (FU_gt (by have := hr.2.2.2.2.2.1; omega))
theorem sum_l {E : Ev} {S : St} {n i : Nat} {r : Rul} {acc : List Rd} (hE : EvOK E) (hn : n < 32) (hr : RulOK r) (h0 : FilT (eφ E) (S.1 0)) (hM : RrM S (n / 2) r) (hI : IP n i acc S) (hl : acc.length ≤ 5) (hA : ∀ x ∈ acc, AC E x) (hs : ∀ x ∈ acc, x.1 < 4 ∧ (ip r)[x.1]? = some (x.2.1, x.2.2.1)) {x1 : Int32} :
    ∀ (k d j s : Nat), j + d = acc.length → d < k → zl2 (m_X7_endsReading_B17 (nI n) S (nI (kd r)) x1) k (nI s) (nI j) = (if nI (kd r) = nI 3 then m_X7_endsReading_J68 S (nI (kd r)) (nI n) (nI (s + sumR (acc.drop j))) x1 (irm (nI (s + sumR (acc.drop j))) (nI 20)) else zg (inb x1 16) (m_X7_endsReading_J68 S (nI (kd r)) (nI n) (nI (s + sumR (acc.drop j))) x1 (irm (ri S 2 x1) (nI 20)))) := by
  intro k
  induction k with
  | zero => intro d i s _ h; omega
  | succ k ih =>
    intro d j s h1 h2
    show m_X7_endsReading_B17 (nI n) S (nI (kd r)) x1 (zl2 (m_X7_endsReading_B17 (nI n) S (nI (kd r)) x1) k) (nI s) (nI j) = _
    generalize zl2 (m_X7_endsReading_B17 (nI n) S (nI (kd r)) x1) k = G at ih ⊢
    unfold m_X7_endsReading_B17
    simp only [nI_add, zb_e]
    rw [zg_in hn (by omega), ri_n (by omega), hI.2.2.1]
    match d, h1, h2 with
    | 0, h1, h2 =>
      rw [if_pos (by rw [le_nI (by omega) (by omega)]; omega), List.drop_of_length_le (by omega)]
      rfl
    | d + 1, h1, h2 =>
      have hj : j < acc.length := by omega
      have hx := List.getElem?_eq_getElem hj
      rw [if_neg (by rw [le_nI (by omega) (by omega)]; omega), vread_v hE hn hr h0 hM hI hl hx (hA _ (List.getElem_mem hj)) (hs _ (List.getElem_mem hj)), zo_e, nI_add, ih d (j + 1) _ (by omega) (by omega), sumR_drop acc hj, Nat.add_assoc]
theorem sumR_app (acc : List Rd) (x : Rd) : sumR (acc ++ [x]) = sumR acc + sumO x.2.2.2 % 1000 := by
  induction acc with
  | nil => simp [sumR]
  | cons y t ih => simp only [List.cons_append, sumR, ih, Nat.add_assoc]
/-- the state behind what is found and a leak -/
noncomputable def eLK (n : Nat) (r : Rul) (S9 : St) : St := if (kd r = 4 ∧ ¬ sees r (nb r % 20) = true) ∧ S9.1 43 0 = 0 then wi S9 14 0 (S9.1 14 0 ||| (nI 1 <<< (nI (n / 2) &&& 31))) else S9
theorem er_v {E : Ev} {S : St} {n i : Nat} {r : Rul} {acc : List Rd} (hE : EvOK E) (hn : n < 32) (hr : RulOK r) (h0 : FilT (eφ E) (S.1 0)) (hM : RrM S (n / 2) r) (hI : IP n i acc S) (hl : acc.length ≤ 4) (hA : ∀ x ∈ acc, AC E x) (hs : ∀ x ∈ acc, x.1 < 4 ∧ (ip r)[x.1]? = some (x.2.1, x.2.2.1)) :
    ∃ S9, DIF n S S9 ∧ IP n i (afnd E r acc) S9 ∧ m_X7_endsReading S (nI n) = (if S.1 43 0 = 0 then
      (zo (m_X7_laysKey (eLK n r S9) (nI n)) fun S13 => zo (m_X7_entryOf S13) fun x14 =>
        if x14 = (-1) then m_X7_endsReading_J258 (nI n) (nI (ares E r (afnd E r acc))) S13 x14
        else if (rs S13 13) ≤ 0 then m_X7_endsReading_J258 (nI n) (nI (ares E r (afnd E r acc))) S13 x14
        else zo (m_X7_drops (wi S13 13 0 (rs S13 13 - (nI 1))) x14) fun S22 => m_X7_endsReading_J258 (nI n) (nI (ares E r (afnd E r acc))) S22 (-1))
      else zo (m_X7_finishes (eLK n r S9) (nI n) (nI (ares E r (afnd E r acc))) (nI 3)) fun s => some s) := by
  obtain ⟨m1, m2, m3, m4, m5, m6⟩ := hM
  have hM2 : RrM S (n / 2) r := ⟨m1, m2, m3, m4, m5, m6⟩
  obtain ⟨r1, r2, r3, r4, r5, r6, r7⟩ := hr
  have hr2 : RulOK r := ⟨r1, r2, r3, r4, r5, r6, r7⟩
  have hsR := sumR_le (acc := acc)
  have ht : n / 2 < 16 := by omega
  have hsum := sum_l hE hn hr2 h0 hM2 hI (by omega) hA hs (x1 := nI (n / 2)) FU acc.length 0 0 (by omega) (FU_gt (by omega))
  rw [Nat.zero_add, List.drop_zero, zg_in ht (by omega), ri_n (by omega), m2, irm_nI (by omega) (by omega) (by omega), irm_nI (by omega) (by omega) (by omega)] at hsum
  have hrun : m_X7_endsReading S (nI n) = zl2 (m_X7_endsReading_B17 (nI n) S (nI (kd r)) (nI (n / 2))) FU (nI 0) (nI 0) := by
    unfold m_X7_endsReading
    rw [div_nI (by omega) (by omega) (by omega), zb_e, zg_in ht (by omega), ri_n (by omega), m1, zb_e]
  rw [hrun, hsum]
  clear hrun hsum
  have c3 : (nI (kd r) = nI 3) = (kd r = 3) := eq_nI (by omega) (by omega)
  have c4 : (nI (kd r) = nI 4) = (kd r = 4) := eq_nI (by omega) (by omega)
  have c1 : (nI (kd r) = nI 1) = (kd r = 1) := eq_nI (by omega) (by omega)
  -- the tail: division, salt
  have tail : ∀ (S10 : St) (s : Nat), s < 20000 → S10.1 3 (n / 2) = nI (sl r) → S10.1 43 0 = S.1 43 0 → m_X7_endsReading_J171 (nI (kd r)) (nI (n / 2)) (nI n) S10 (nI s) = (if S.1 43 0 = 0 then
      (zo (m_X7_laysKey S10 (nI n)) fun S13 => zo (m_X7_entryOf S13) fun x14 =>
        if x14 = (-1) then m_X7_endsReading_J258 (nI n) (nI (((if kd r = 1 then s / 10 else s) + sl r) % 1000)) S13 x14
        else if (rs S13 13) ≤ 0 then m_X7_endsReading_J258 (nI n) (nI (((if kd r = 1 then s / 10 else s) + sl r) % 1000)) S13 x14
        else zo (m_X7_drops (wi S13 13 0 (rs S13 13 - (nI 1))) x14) fun S22 => m_X7_endsReading_J258 (nI n) (nI (((if kd r = 1 then s / 10 else s) + sl r) % 1000)) S22 (-1))
      else zo (m_X7_finishes S10 (nI n) (nI (((if kd r = 1 then s / 10 else s) + sl r) % 1000)) (nI 3)) fun s => some s) := by
    intro S10 s hs2 e3 e43
    unfold m_X7_endsReading_J171 m_X7_endsReading_J186
    simp only [c1]
    by_cases h1 : kd r = 1
    · simp only [if_pos h1]
      rw [div_nI (by omega) (by omega) (by omega), zg_in ht (by omega), ri_n (by omega), e3, nI_add, irm_nI (by omega) (by omega) (by omega), zb_e, show rs S10 43 = S.1 43 0 from e43]
      by_cases h2 : S.1 43 0 = 0
      · rw [if_pos h2, if_pos h2]
        rfl
      · rw [if_neg h2, if_neg h2]
    · simp only [if_neg h1]
      rw [zg_in ht (by omega), ri_n (by omega), e3, nI_add, irm_nI (by omega) (by omega) (by omega), zb_e, show rs S10 43 = S.1 43 0 from e43]
      by_cases h2 : S.1 43 0 = 0
      · rw [if_pos h2, if_pos h2]
        rfl
      · rw [if_neg h2, if_neg h2]
  have j68 : ∀ (f s : Nat), f < 20 → m_X7_endsReading_J68 S (nI (kd r)) (nI n) (nI s) (nI (n / 2)) (nI f) = m_X7_endsReading_J92 (nI (kd r)) (nI f) S (nI n) (nI s) (nI (n / 2)) (nI ((eφ E f).getD 0)) := by
    intro f s hf
    unfold m_X7_endsReading_J68
    rw [zg_in hf (by omega), ri_n (by omega), h0 f hf]
    cases ho : eφ E f with
    | none => rw [show eO none = -1 from rfl, if_pos rfl]; rfl
    | some v =>
      have hv := hE.1 _ _ ho
      rw [show eO (some v) = nI v from rfl, if_neg (nI_n1 (by omega)), zg_in hf (by omega)]
      rfl
  simp only [c3]
  by_cases h3 : kd r = 3
  · have hf : sumR acc % 20 < 20 := Nat.mod_lt _ (by omega)
    rw [if_pos h3, j68 _ _ hf]
    have hgd : (eφ E (sumR acc % 20)).getD 0 < 1000 := by
      cases ho : eφ E (sumR acc % 20) with
      | none => show 0 < 1000; omega
      | some v => exact hE.1 _ _ ho
    have ea : afnd E r acc = acc ++ [(4, 4, sumR acc % 20, [eφ E (sumR acc % 20)])] := if_pos h3
    have es : sumR (afnd E r acc) = sumR acc + (eφ E (sumR acc % 20)).getD 0 := by
      rw [ea, sumR_app]
      show sumR acc + ((eφ E (sumR acc % 20)).getD 0 + 0) % 1000 = _
      rw [Nat.add_zero, Nat.mod_eq_of_lt hgd]
    have er : ares E r (afnd E r acc) = ((if kd r = 1 then (sumR acc + (eφ E (sumR acc % 20)).getD 0) / 10 else sumR acc + (eφ E (sumR acc % 20)).getD 0) + sl r) % 1000 := by
      unfold ares
      rw [es, if_neg (show ¬ (kd r = 4 ∧ sees r (nb r % 20) = true) from fun q => by omega), Nat.add_zero]
    obtain ⟨S9, n1, n2, n3⟩ := note_go (x := (4, 4, sumR acc % 20, [eφ E (sumR acc % 20)])) (p2 := nI 4) (p3 := nI (sumR acc % 20)) (p4 := eO64 (eφ E (sumR acc % 20))) hn (by omega) hI rfl rfl rfl
    refine ⟨S9, n2, by rw [ea]; exact n3, ?_⟩
    unfold m_X7_endsReading_J92 m_X7_endsReading_J122 m_X7_endsReading_J147
    simp only [c3, c4]
    have h4 : ¬ kd r = 4 := by omega
    have eL : eLK n r S9 = S9 := if_neg (fun q => h4 q.1.1)
    simp only [if_pos h3, if_neg h4]
    rw [zg_in hf (by omega), ri_n (by omega), h0 _ hf, eO_64 (fun n q => Nat.lt_trans (hE.1 _ n q) (by omega)), n1, zo_e, nI_add, zb_e, eL, er]
    exact tail S9 _ (by omega) (by rw [DIF_lo n2 (by omega)]; exact m3) (DIF_lo n2 (by omega))
  · have hf : nb r % 20 < 20 := Nat.mod_lt _ (by omega)
    rw [if_neg h3, j68 _ _ hf]
    have ea : afnd E r acc = acc := if_neg h3
    have hgd : (eφ E (nb r % 20)).getD 0 < 1000 := by
      cases ho : eφ E (nb r % 20) with
      | none => show 0 < 1000; omega
      | some v => exact hE.1 _ _ ho
    refine ⟨S, DIF_rf, by rw [ea]; exact hI, ?_⟩
    rw [ea]
    unfold m_X7_endsReading_J92 m_X7_endsReading_J122 m_X7_endsReading_J147
    simp only [c3, c4, if_neg h3]
    by_cases h4 : kd r = 4
    · have h1 : ¬ kd r = 1 := by omega
      simp only [if_pos h4]
      rw [seen_v ht hr2 hM2 hf, zo_e]
      by_cases h5 : sees r (nb r % 20) = true
      · have eL : eLK n r S = S := if_neg (fun q => q.1.2 h5)
        have er : ares E r acc = ((if kd r = 1 then (sumR acc + (eφ E (nb r % 20)).getD 0) / 10 else sumR acc + (eφ E (nb r % 20)).getD 0) + sl r) % 1000 := by
          unfold ares
          rw [if_neg h1, if_neg h1, if_pos ⟨h4, h5⟩]
        rw [h5, if_neg (by decide), nI_add, zb_e, eL, er]
        exact tail S _ (by omega) m3 rfl
      · have h5f : sees r (nb r % 20) = false := (Bool.not_eq_true _).mp h5
        have er : ares E r acc = ((if kd r = 1 then sumR acc / 10 else sumR acc) + sl r) % 1000 := by
          unfold ares
          rw [if_neg (show ¬ (kd r = 4 ∧ sees r (nb r % 20) = true) from fun q => h5 q.2), Nat.add_zero]
        rw [h5f, if_pos (by decide), er]
        by_cases h6 : S.1 43 0 = 0
        · have eL : eLK n r S = wi S 14 0 (S.1 14 0 ||| (nI 1 <<< (nI (n / 2) &&& 31))) := if_pos ⟨⟨h4, h5⟩, h6⟩
          rw [show rs S 43 = S.1 43 0 from rfl, if_pos h6, zb_e, eL]
          exact tail _ _ (by omega) (by rw [wi_ne (by omega)]; exact m3) (wi_ne (by omega))
        · have eL : eLK n r S = S := if_neg (fun q => h6 q.2)
          rw [show rs S 43 = S.1 43 0 from rfl, if_neg h6, eL]
          exact tail _ _ (by omega) m3 rfl
    · have eL : eLK n r S = S := if_neg (fun q => h4 q.1.1)
      have er : ares E r acc = ((if kd r = 1 then sumR acc / 10 else sumR acc) + sl r) % 1000 := by
        unfold ares
        rw [if_neg (show ¬ (kd r = 4 ∧ sees r (nb r % 20) = true) from fun q => h4 q.1), Nat.add_zero]
      simp only [if_neg h4]
      rw [eL, er]
      exact tail S _ (by omega) m3 rfl
