def inpL (r : Rul) (i d : Nat) : List (Nat × Nat × Nat) := (List.range' i d).map (fun j => (j, (((ip r)[j]?).getD (0, 0)).1, (((ip r)[j]?).getD (0, 0)).2))
theorem inpL_s {r : Rul} {i d : Nat} (h : i < (ip r).length) : inpL r i (d + 1) = (i, (ip r)[i].1, (ip r)[i].2) :: inpL r (i + 1) d := by
  have e : inpL r i (d + 1) = (i, (((ip r)[i]?).getD (0, 0)).1, (((ip r)[i]?).getD (0, 0)).2) :: inpL r (i + 1) d := rfl
  rw [e, List.getElem?_eq_getElem h]
  rfl
theorem expIn_a {r : Rul} {cf : Nat} (h : ¬ kd r = 2) : expIn r cf = inpL r 0 (ip r).length := by
  unfold expIn
  rw [if_neg h]
  apply List.ext_getElem
  · simp [inpL]
  · intro i h1 h2
    have hi : i < (ip r).length := by simpa using h1
    simp [inpL, List.getElem?_eq_getElem hi]
theorem expIn_b {r : Rul} {cf : Nat} (h : kd r = 2) : expIn r cf = if cf < (ip r).length then inpL r cf 1 else [] := by
  unfold expIn
  rw [if_pos h]
  by_cases h1 : cf < (ip r).length
  · rw [if_pos h1, inpL_s h1, List.getElem?_eq_getElem h1]
    rfl
  · rw [if_neg h1, List.getElem?_eq_none (by omega)]
theorem ardl_cons {E : Ev} {L : Nat → Gs → Ans × Gs} {n : Nat} {q : Nat × Nat × Nat} {t : List (Nat × Nat × Nat)} {acc : List Rd} {g : Gs} :
    ardl E L n (q :: t) acc g = match ardl E L n [q] acc g with
      | (.inl k, g1) => (.inl k, g1)
      | (.inr a, g1) => ardl E L n t a g1 := by
  rw [ardl, ardl]
  by_cases h1 : q.2.1 = 1
  · rw [if_pos h1, if_pos h1]; rfl
  · rw [if_neg h1, if_neg h1]
    by_cases h2 : q.2.1 = 0
    · rw [if_pos h2, if_pos h2]
      cases eφ E q.2.2 <;> rfl
    · rw [if_neg h2, if_neg h2]
      cases (L (nR n q.2.1 q.2.2) g).1 <;> rfl
def aread2 (E : Ev) (L : Nat → Gs → Ans × Gs) (n : Nat) (r : Rul) (l : List (Nat × Nat × Nat)) (acc : List Rd) (g : Gs) : (Nat ⊕ List Rd) × Gs :=
  match ardl E L n l acc g with
  | (.inl k, g1) => (.inl k, g1)
  | (.inr a, g1) => (.inr (afnd E r a), g1)
theorem RDO_tr {R : Gs → St → Prop} {E : Ev} {b n : Nat} {r : Rul} {g g1 : Gs} {S S1 : St} {x : Option (Int32 × St)} {p : (Nat ⊕ List Rd) × Gs} (h : RDO R E b n r g1 S1 x p) (ha : AF g g1) (hS : FrO (9 + 2 * b) n g S S1) : RDO R E b n r g S x p := by
  unfold RDO at h ⊢
  obtain ⟨o, g2⟩ := p
  cases o with
  | inl k =>
    obtain ⟨S', h1, h2, h3⟩ := h
    exact ⟨S', h1, h2, FrO_tr hS h3 ha⟩
  | inr acc =>
    obtain ⟨S', h1, h2, h3, h4⟩ := h
    exact ⟨S', h1, h2, FrO_tr hS h3 ha, h4⟩
/-- behind all inputs: a FOLLOW reads on -/
theorem read_end {R : Gs → St → Prop} {E : Ev} {b : Nat} (hb : b < 2) (hE : EvOK E) (hR : RPH R E b) {LK : St → Int32 → Int32 → Option (Int32 × St)} {d : Nat} {g : Gs} {S : St} {n : Nat} {r : Rul} {acc : List Rd} (hn : n < 32) (hr : RulOK r) (h5 : gDn g n = 5) (hS : R g S) (hF : FrR S (9 + 2 * b) n r acc) (ha : ∀ x ∈ acc, RdOK x) (hl : acc.length < 5) :
    RDO R E b n r g S (if nI (kd r) = nI 3 then (zo (m_X2_sumOfReads b S (nI n)) fun x12 => zo2 (m_X2_read LK b S (nI n) (nI 4) (irm x12 (nI 20)) (nI d)) fun x13 S14 => some (x13, S14)) else some (nI 0, S)) (.inr (afnd E r acc), g) := by
  have hk := hr.1
  have hs := sumR_le (acc := acc)
  unfold afnd
  by_cases h3 : kd r = 3
  · rw [if_pos (by rw [h3]), if_pos h3, sor_v hb hn hF ha (by omega), zo_e, irm_nI (by omega) (by omega) (by omega)]
    have hy : sumR acc % 20 < 20 := Nat.mod_lt _ (by omega)
    generalize sumR acc % 20 = y at hy ⊢
    obtain ⟨S5, a1, a2, a3, a4, a5⟩ := read_go hb hR (LK := LK) (d := d) (w := 4) (y := y) hn h5 hS hF hl
    have h0 : FilT (eφ E) (S5.1 0) := (hR.1 g S5 a1).1
    rw [if_neg (by decide), valNow_4 hy, zo2_e, h0 y hy] at a5
    have h6 := read_val hb hR (i := 4) hn (by omega) (by omega) (AF_rf g) h5 hF hl a3 a4 a1 (fun _ _ _ _ _ => rfl) (o := eφ E y) rfl (eO_le (hE.1 y)) a5
    obtain ⟨S', e1, e2, e3, e4⟩ := h6
    refine ⟨S', ?_, e2, e3, e4⟩
    rw [e1, zo2_e]
  · rw [if_neg (nI_ne (by omega) (by omega) h3), if_neg h3]
    exact ⟨S, rfl, hS, FrO_rf, hF⟩
theorem readI_l {R : Gs → St → Prop} {E : Ev} {b : Nat} (hb : b < 2) (hE : EvOK E) (hR : RPH R E b) {L : Nat → Gs → Ans × Gs} (hL : LOK L) {LK : St → Int32 → Int32 → Option (Int32 × St)} {d : Nat} (hLK : LKC R (9 + 2 * b) L LK (d + 1)) {n e : Nat} {r : Rul} (hn : n < 32) (hr : RulOK r) (he : e ≤ (ip r).length) :
    ∀ (k dd i : Nat) (acc : List Rd) (g : Gs) (S : St), i + dd = e → dd < k → acc.length ≤ i → (∀ x ∈ acc, RdOK x) → WG g → gDn g n = 5 → R g S → FrR S (9 + 2 * b) n r acc →
    RDO R E b n r g S (zl2 (m_X2_readInputs_B122 (nI e) (nI (kd r)) b (nI n) LK (nI d)) k S (nI i)) (aread2 E L n r (inpL r i dd) acc g) := by
  have h6 := hr.2.2.2.2.2.1
  intro k
  induction k with
  | zero => intro dd i acc g S _ h; omega
  | succ k ih =>
    intro dd i acc g S h1 h2 h3 h4 h5 h7 h8 h9
    have hu : zl2 (m_X2_readInputs_B122 (nI e) (nI (kd r)) b (nI n) LK (nI d)) (k + 1) S (nI i) = m_X2_readInputs_B122 (nI e) (nI (kd r)) b (nI n) LK (nI d) (zl2 (m_X2_readInputs_B122 (nI e) (nI (kd r)) b (nI n) LK (nI d)) k) S (nI i) := rfl
    rw [hu]
    generalize hG : zl2 (m_X2_readInputs_B122 (nI e) (nI (kd r)) b (nI n) LK (nI d)) k = G at ih ⊢
    unfold m_X2_readInputs_B122
    match dd, h1, h2 with
    | 0, h1, h2 =>
      rw [if_pos (by rw [le_nI (by omega) (by omega)]; omega)]
      exact read_end hb hE hR hn hr h7 h8 h9 h4 (by omega)
    | dd + 1, h1, h2 =>
      have hi : i < (ip r).length := by omega
      obtain ⟨q1, q2, q3⟩ := hr.get (List.getElem?_eq_getElem hi)
      have q4 := lim_le (ip r)[i].1
      rw [if_neg (by rw [le_nI (by omega) (by omega)]; omega), if_neg (by rw [le_nI (by omega) (by omega)]; omega)]
      simp only [nI_add, pk_mul, zb_e]
      have e1 : S.1 (9 + 2 * b) (n * 53 + (5 + i * 2 + 0)) = nI (ip r)[i].1 := by
        rw [FrR_ru h9 (by omega), show 5 + i * 2 + 0 = 5 + 2 * i by omega, ruC_in.1, List.getElem?_eq_getElem hi]
      have e2 : S.1 (9 + 2 * b) (n * 53 + (5 + i * 2 + 1)) = nI (ip r)[i].2 := by
        rw [FrR_ru h9 (by omega), show 5 + i * 2 + 1 = 6 + 2 * i by omega, ruC_in.2, List.getElem?_eq_getElem hi]
      rw [tg_f hb hn (by omega), zo_e, tg_f hb hn (by omega), zo_e, e1, e2]
      have h10 := read_one hb hE hR hL hLK (q := (i, (ip r)[i].1, (ip r)[i].2)) hn ⟨q2, q3⟩ h5 h7 h8 h9 (by omega)
      have h11 := ardl_c hE hL (n := n) [(i, (ip r)[i].1, (ip r)[i].2)] acc g (fun q hq => by
        rw [List.mem_singleton.mp hq]; exact ⟨q1, q2, q3⟩) h5
      have e3 : aread2 E L n r (inpL r i (dd + 1)) acc g = match ardl E L n [(i, (ip r)[i].1, (ip r)[i].2)] acc g with
          | (.inl k, g1) => (.inl k, g1)
          | (.inr a, g1) => aread2 E L n r (inpL r (i + 1) dd) a g1 := by
        unfold aread2
        rw [inpL_s hi, ardl_cons]
        cases hp : ardl E L n [(i, (ip r)[i].1, (ip r)[i].2)] acc g with
        | mk o g1 => cases o <;> rfl
      rw [e3]
      cases hp : ardl E L n [(i, (ip r)[i].1, (ip r)[i].2)] acc g with
      | mk o g1 =>
        rw [hp] at h10 h11
        obtain ⟨w1, w2, w3, w4⟩ := h11
        cases o with
        | inl k2 =>
          obtain ⟨S', x1, x2, x3⟩ := h10
          have x1 : m_X2_read LK b S (nI n) (nI (ip r)[i].1) (nI (ip r)[i].2) (nI d) = some (enA (.inl k2), S') := x1
          rw [x1, zo2_e, if_neg (enA_l (w3 k2 rfl)).2.1]
          exact ⟨S', rfl, x2, x3⟩
        | inr a =>
          obtain ⟨S', x1, x2, x3, x4⟩ := h10
          have x1 : m_X2_read LK b S (nI n) (nI (ip r)[i].1) (nI (ip r)[i].2) (nI d) = some (nI 0, S') := x1
          obtain ⟨new, y1, y2, y3⟩ := w4 a rfl
          have y4 : new.length = 1 := by
            have := congrArg List.length y2
            simpa using this
          rw [x1, zo2_e, if_pos (by decide)]
          refine RDO_tr (ih dd (i + 1) a g1 S' (by omega) (by omega) (by rw [y1, List.length_append]; omega) (fun x hx => ?_) w1 ((w2.1 n).mpr h7) x2 x4) w2 x3
          rw [y1] at hx
          rcases List.mem_append.mp hx with z | z
          · exact h4 x z
          · exact (y3 x z).1
theorem aread_eq {E : Ev} {L : Nat → Gs → Ans × Gs} {n : Nat} {r : Rul} {g : Gs} : aread E L n r g = aread2 E L n r (expIn r (n % 2)) [] g := rfl
theorem readI_j {R : Gs → St → Prop} {E : Ev} {b : Nat} (hb : b < 2) (hE : EvOK E) (hR : RPH R E b) {L : Nat → Gs → Ans × Gs} (hL : LOK L) {LK : St → Int32 → Int32 → Option (Int32 × St)} {d : Nat} (hLK : LKC R (9 + 2 * b) L LK (d + 1)) {n : Nat} {r : Rul} {g : Gs} {S : St} (hn : n < 32) (hr : RulOK r) (hg : WG g) (h5 : gDn g n = 5) (hS : R g S) (hF : FrR S (9 + 2 * b) n r []) :
    RDO R E b n r g S (if nI (kd r) = nI 2 then m_X2_readInputs_J91 (nI (kd r)) (nI (ip r).length) b (nI n) LK (nI d) S (nI (n % 2)) else m_X2_readInputs_J91 (nI (kd r)) (nI (ip r).length) b (nI n) LK (nI d) S (nI 0)) (aread E L n r g) := by
  have h6 := hr.2.2.2.2.2.1
  have hk := hr.1
  have hm : n % 2 < 2 := Nat.mod_lt _ (by omega)
  have lp := fun e i dd (he : e ≤ (ip r).length) (h : i + dd = e) => readI_l hb hE hR hL hLK (e := e) hn hr he FU dd i [] g S h (FU_gt (by omega)) (Nat.zero_le _) (fun x hx => by simp at hx) hg h5 hS hF
  rw [aread_eq]
  unfold m_X2_readInputs_J91 m_X2_readInputs_J114 m_X2_readInputs_J116
  by_cases h2 : kd r = 2
  · have c2 : nI (kd r) = nI 2 := by rw [h2]
    simp only [if_pos c2, nI_add]
    rw [expIn_b h2]
    by_cases h7 : n % 2 < (ip r).length
    · rw [if_pos h7]
      by_cases h8 : (ip r).length ≤ n % 2 + 1
      · rw [if_pos (by rw [le_nI (by omega) (by omega)]; exact h8)]
        exact lp (ip r).length (n % 2) 1 (by omega) (by omega)
      · rw [if_neg (by rw [le_nI (by omega) (by omega)]; exact h8)]
        exact lp (n % 2 + 1) (n % 2) 1 (by omega) (by omega)
    · rw [if_neg h7, if_pos (by rw [le_nI (by omega) (by omega)]; omega)]
      have hu : zl2 (m_X2_readInputs_B122 (nI (ip r).length) (nI (kd r)) b (nI n) LK (nI d)) FU S (nI (n % 2)) = m_X2_readInputs_B122 (nI (ip r).length) (nI (kd r)) b (nI n) LK (nI d) (zl2 (m_X2_readInputs_B122 (nI (ip r).length) (nI (kd r)) b (nI n) LK (nI d)) 8191) S (nI (n % 2)) := rfl
      rw [hu]
      generalize zl2 (m_X2_readInputs_B122 (nI (ip r).length) (nI (kd r)) b (nI n) LK (nI d)) 8191 = G
      unfold m_X2_readInputs_B122
      rw [if_pos (by rw [le_nI (by omega) (by omega)]; omega)]
      exact read_end hb hE hR hn hr h5 hS hF (fun x hx => by simp at hx) (by simp)
  · have c2 : ¬ nI (kd r) = nI 2 := nI_ne (by omega) (by omega) h2
    simp only [if_neg c2]
    rw [expIn_a h2]
    exact lp (ip r).length 0 (ip r).length (by omega) (by omega)
theorem readI_v {R : Gs → St → Prop} {E : Ev} {b : Nat} (hb : b < 2) (hE : EvOK E) (hR : RPH R E b) {L : Nat → Gs → Ans × Gs} (hL : LOK L) {LK : St → Int32 → Int32 → Option (Int32 × St)} {d : Nat} (hLK : LKC R (9 + 2 * b) L LK (d + 1)) {n : Nat} {g : Gs} {S : St} (hn : n < 32) (hg : WG g) (h5 : gDn g n = 5) (hS : R g S) :
    (eρ E (n / 2) = none → ∃ S', m_X2_readInputs LK b S (nI n) (nI d) = some (-2, S') ∧ R g S' ∧ FrO (9 + 2 * b) n g S S') ∧
    ∀ r, eρ E (n / 2) = some r → RDO R E b n r g S (m_X2_readInputs LK b S (nI n) (nI d)) (aread E L n r g) := by
  have hk9 : (9 + 2 * b) < 12 := by omega
  have e53 : wdN (9 + 2 * b) = 53 := by rcases lt2 hb with rfl | rfl <;> rfl
  have em : mnN (9 + 2 * b) = 32 := by rcases lt2 hb with rfl | rfl <;> rfl
  have eb : blk (9 + 2 * b) = -1 := by rcases lt2 hb with rfl | rfl <;> rfl
  have hc : m_X4_clear (9 + 2 * b) S (nI n) = some (tb S (9 + 2 * b) (clrF (S.1 (9 + 2 * b)) (n * 53) 53 (-1))) := by
    have h := clear_v hk9 (S := S) (r := n) (by rw [em]; exact hn)
    rwa [e53, eb] at h
  have hT := (hR.1 g S hS).2
  obtain ⟨S2, hS2, e2, o2, r2⟩ : ∃ S2, m_X4_copy (9 + 2 * b) 1 (tb S (9 + 2 * b) (clrF (S.1 (9 + 2 * b)) (n * 53) 53 (-1))) (nI n) (nI (n / 2)) = some (tb S (9 + 2 * b) S2) ∧ (∀ p, p < 13 → S2 (n * 53 + p) = rlC (eρ E (n / 2)) p) ∧ (∀ i, i < n * 53 ∨ n * 53 + 53 ≤ i → S2 i = S.1 (9 + 2 * b) i) ∧ ∀ p, 13 ≤ p → p < 53 → S2 (n * 53 + p) = -1 := by
    have h := copy_v hk9 (k2 := 1) (by omega) (by omega) (S := tb S (9 + 2 * b) (clrF (S.1 (9 + 2 * b)) (n * 53) 53 (-1))) (r := n) (r2 := n / 2) (w := 13) (by rw [em]; exact hn) (by show n / 2 < 16; omega) (by rw [e53]; rfl)
    rw [e53, tb_tb, tb_s, tb_1, if_neg (by omega)] at h
    refine ⟨_, h, fun p hp => ?_, fun i hi => ?_, fun p hp hp2 => ?_⟩
    · unfold cpyF
      rw [if_pos (by omega), ← hT (n / 2) (by omega) p hp, Nat.add_sub_cancel_left]
      rfl
    · unfold cpyF clrF
      rw [if_neg (by omega), if_neg (by omega)]
    · unfold cpyF clrF
      rw [if_neg (by omega), if_pos (by omega)]
  have hg1 : m_X4_get (9 + 2 * b) (tb S (9 + 2 * b) S2) (nI n) (nI 1) = some (rlC (eρ E (n / 2)) 1) := by
    rw [tg_f hb hn (by omega), tb_s, e2 1 (by omega)]
  unfold m_X2_readInputs
  rw [hc, zo_e, div_nI (by omega) (by omega) (by omega), hS2, zo_e, hg1, zo_e]
  constructor
  · intro hr
    rw [hr, show rlC none 1 = -1 from rfl, if_pos rfl]
    exact ⟨_, rfl, hR.2 g S n _ hS h5 o2, FrO_tb o2⟩
  · intro r hr
    have hr2 := hE.2 _ _ hr
    have r1 := hr2.1
    rw [hr, show rlC (some r) 1 = nI (kd r) from rfl, if_neg (nI_n1 (by omega)), irm_nI (by omega) (by omega) (by omega), zb_e, ts_f hb hn (by omega), zo_e, tb_tb, tb_s, ts_f hb hn (by omega), zo_e, tb_tb, tb_s, tg_f hb hn (by omega), zo_e, tb_s]
    rw [pk_un (by omega), pk_un (by omega), e2 4 (by omega), hr, show rlC (some r) 4 = nI (ip r).length from rfl]
    have o3 : ∀ i, i < n * 53 ∨ n * 53 + 53 ≤ i → upd (upd S2 (n * 53 + 13) (nI (n % 2))) (n * 53 + 14) (nI 0) i = S.1 (9 + 2 * b) i := fun i hi => by
      rw [pk_un (by omega), pk_un (by omega), o2 i hi]
    have h7 := readI_j hb hE hR hL hLK (S := tb S (9 + 2 * b) (upd (upd S2 (n * 53 + 13) (nI (n % 2))) (n * 53 + 14) (nI 0))) hn hr2 hg h5 (hR.2 g S n _ hS h5 o3) (fun p hp => by
      rw [tb_s]
      unfold rowC
      by_cases h1 : p < 13
      · rw [if_pos h1, pk_un (by omega), pk_un (by omega), e2 p h1, hr]
        rfl
      · rw [if_neg h1]
        by_cases h2 : p = 13
        · rw [if_pos h2, h2, pk_un (by omega), pk_us]
        · rw [if_neg h2]
          by_cases h3 : p = 14
          · rw [if_pos h3, h3, pk_us]; rfl
          · rw [if_neg h3, if_pos hp, pk_un (by omega), pk_un (by omega), r2 p (by omega) (by omega)]
            rfl)
    exact RDO_tr h7 (AF_rf g) (FrO_tb o3)
