/-! the reference's cache -/
def tbL (S : St) (k : Nat) (f : Nat → Int64) : St := (S.1, va_up S.2 k f)
theorem tbL_1 {S : St} {k : Nat} {f : Nat → Int64} : (tbL S k f).1 = S.1 := rfl
theorem tbL_2 {S : St} {k : Nat} {f : Nat → Int64} {k2 : Nat} : (tbL S k f).2 k2 = if k2 = k then f else S.2 k2 := by
  simp only [tbL, va_up]
theorem tbL_s {S : St} {k : Nat} {f : Nat → Int64} : (tbL S k f).2 k = f := by simp [tbL_2]
theorem tbL_n {S : St} {k k2 : Nat} {f : Nat → Int64} (h : ¬ k2 = k) : (tbL S k f).2 k2 = S.2 k2 := by rw [tbL_2, if_neg h]
theorem tbL_tbL {S : St} {k : Nat} {f g : Nat → Int64} : tbL (tbL S k f) k g = tbL S k g := by
  simp only [tbL]
  congr 1
  funext j
  simp only [va_up]
  split <;> rfl
theorem wj_tbL {S : St} {k i : Nat} {v : Int64} : wj S k i v = tbL S k (vp_updL (S.2 k) i v) := rfl
theorem tbL_id {S : St} {k : Nat} : tbL S k (S.2 k) = S := by
  have h : va_up S.2 k (S.2 k) = S.2 := by
    funext j
    simp only [va_up]
    split
    · subst j; rfl
    · rfl
  simp only [tbL, h]
/-- the key that is asked by -/
def KEY (r : Rul) (cf : Nat) (rs : List Rd) (S : St) : Prop := S.2 42 0 = lN (2 * encR r + cf) ∧ ∀ j, j < 5 → S.2 42 (1 + j) = keyJ rs j
theorem key_l {S0 : St} {n i : Nat} {rs : List Rd} (hn : n < 32) (hl : rs.length ≤ 5) : ∀ (k d j : Nat) (S : St), j + d = 5 → d < k → IP n i rs S → (∀ a, a < j → S.2 42 (1 + a) = keyJ rs a) → S.1 = S0.1 → (∀ k, ¬ k = 42 → S.2 k = S0.2 k) → S.2 42 0 = S0.2 42 0 →
    ∃ S', zl2 (m_X7_laysKey_B24 (nI n)) k S (nI j) = some S' ∧ (∀ a, a < 5 → S'.2 42 (1 + a) = keyJ rs a) ∧ S'.1 = S0.1 ∧ (∀ k, ¬ k = 42 → S'.2 k = S0.2 k) ∧ S'.2 42 0 = S0.2 42 0 := by
  intro k
  induction k with
  | zero => intro d j S _ h; omega
  | succ k ih =>
    intro d j S h1 h2 h3 h4 h5 h6 h7
    show ∃ S', m_X7_laysKey_B24 (nI n) (zl2 (m_X7_laysKey_B24 (nI n)) k) S (nI j) = _ ∧ _
    generalize zl2 (m_X7_laysKey_B24 (nI n)) k = G at ih ⊢
    unfold m_X7_laysKey_B24
    simp only [nI_add, pk_mul, zb_e]
    match d, h1, h2 with
    | 0, h1, h2 =>
      rw [if_pos (by rw [le_nI (by omega) (by omega)]; omega)]
      exact ⟨S, rfl, fun a ha => h4 a (by omega), h5, h6, h7⟩
    | d + 1, h1, h2 =>
      rw [if_neg (by rw [le_nI (by omega) (by omega)]; omega), zg_in hn (by omega), ri_n (by omega), h3.2.2.1]
      have go : ∀ v, v = keyJ rs j → ∃ S', G (wj S 42 (j + 1) v) (nI (j + 1)) = some S' ∧ (∀ a, a < 5 → S'.2 42 (1 + a) = keyJ rs a) ∧ S'.1 = S0.1 ∧ (∀ k, ¬ k = 42 → S'.2 k = S0.2 k) ∧ S'.2 42 0 = S0.2 42 0 := fun v hv => by
        refine ih d (j + 1) _ (by omega) (by omega) ?_ (fun a ha => ?_) h5 (fun k2 hk => ?_) ?_
        · obtain ⟨i1, i2, i3, i4⟩ := h3
          refine ⟨i1, i2, i3, fun b x hx => ?_⟩
          rw [wj_1, wj_ne (by omega)]
          exact i4 b x hx
        · by_cases h8 : a = j
          · subst h8
            rw [show a + 1 = 1 + a by omega, wj_at, hv]
          · rw [wj_ne (by omega)]; exact h4 a (by omega)
        · rw [← h6 k2 hk, wj_tbL, tbL_n hk]
        · rw [wj_ne (by omega)]; exact h7
      by_cases h8 : rs.length ≤ j
      · rw [if_pos (by rw [le_nI (by omega) (by omega)]; exact h8), zg_in (show j + 1 < 6 by omega) (by omega), tn (by omega)]
        exact go _ (by unfold keyJ; rw [List.getElem?_eq_none h8])
      · have hj : j < rs.length := by omega
        rw [if_neg (by rw [le_nI (by omega) (by omega)]; exact h8), zg_in (show 5 * n + j < 160 by omega) (by omega), zg_in (show j + 1 < 6 by omega) (by omega), tn (by omega), rj_n (by omega), (h3.2.2.2 j _ (List.getElem?_eq_getElem hj)).2.2]
        exact go _ (by unfold keyJ; rw [List.getElem?_eq_getElem hj])
theorem key_v {S : St} {n i : Nat} {r : Rul} {rs : List Rd} (hn : n < 32) (hr : RulOK r) (hM : RrM S (n / 2) r) (hl : rs.length ≤ 5) (hI : IP n i rs S) : ∃ S', m_X7_laysKey S (nI n) = some S' ∧ KEY r (n % 2) rs S' ∧ S'.1 = S.1 ∧ ∀ k, ¬ k = 42 → S'.2 k = S.2 k := by
  have hb := encR_le hr
  unfold m_X7_laysKey
  rw [div_nI (by omega) (by omega) (by omega), ruleOf_v (by omega) hr hM, zo_e, zg_in (by omega) (by omega), tn (by omega), zb_e, irm_nI (by omega) (by omega) (by omega), nI_l (by omega), show (2 : Int64) = lN 2 from rfl, lN_mul, lN_add]
  obtain ⟨S', a1, a2, a3, a4, a5⟩ := key_l (S0 := wj S 42 0 (lN (2 * encR r + n % 2))) (n := n) (i := i) (rs := rs) hn hl FU 5 0 (wj S 42 0 (lN (2 * encR r + n % 2))) (by omega) (FU_gt (by omega)) (by
    obtain ⟨i1, i2, i3, i4⟩ := hI
    refine ⟨i1, i2, i3, fun b x hx => ?_⟩
    rw [wj_1, wj_ne (by omega)]
    exact i4 b x hx) (fun a ha => by omega) rfl (fun _ _ => rfl) rfl
  refine ⟨S', a1, ⟨by rw [a5, wj_at], a2⟩, by rw [a3]; rfl, fun k h => ?_⟩
  rw [a4 k h, wj_tbL, tbL_n h]
def MTc (S : St) (i k : Nat) : Prop := ∀ a, k ≤ a → a < 6 → S.2 26 (6 * i + a) = S.2 42 a
theorem eo_in {S : St} {i : Nat} (hi : i < 101) {rec2 : Int32 → Option Int32} : ∀ (k d a : Nat), a + d = 6 → d < k →
    (MTc S i a → zl2 (m_X7_entryOf_B14 (nI i) rec2 S) k (nI 1) (nI a) = some (nI i)) ∧ (¬ MTc S i a → zl2 (m_X7_entryOf_B14 (nI i) rec2 S) k (nI 1) (nI a) = rec2 (nI (i + 1))) := by
  intro k
  induction k with
  | zero => intro d a _ h; omega
  | succ k ih =>
    intro d a h1 h2
    show (_ → m_X7_entryOf_B14 (nI i) rec2 S (zl2 (m_X7_entryOf_B14 (nI i) rec2 S) k) (nI 1) (nI a) = _) ∧ (_ → m_X7_entryOf_B14 (nI i) rec2 S (zl2 (m_X7_entryOf_B14 (nI i) rec2 S) k) (nI 1) (nI a) = _)
    have z0 : 1 ≤ k → a + 1 ≤ 6 → zl2 (m_X7_entryOf_B14 (nI i) rec2 S) k (nI 0) (nI (a + 1)) = rec2 (nI (i + 1)) := fun hk ha => by
      obtain ⟨k2, rfl⟩ : ∃ k2, k = k2 + 1 := ⟨k - 1, by omega⟩
      show m_X7_entryOf_B14 (nI i) rec2 S (zl2 (m_X7_entryOf_B14 (nI i) rec2 S) k2) (nI 0) (nI (a + 1)) = _
      generalize zl2 (m_X7_entryOf_B14 (nI i) rec2 S) k2 = G
      unfold m_X7_entryOf_B14 m_X7_entryOf_J57
      by_cases h6 : nI 6 ≤ nI (a + 1)
      · rw [if_pos h6, if_pos (by decide), nI_add, zb_e]
      · rw [if_neg h6, if_pos (by decide), if_pos (by decide), nI_add, zb_e]
    generalize zl2 (m_X7_entryOf_B14 (nI i) rec2 S) k = G at ih z0 ⊢
    unfold m_X7_entryOf_B14 m_X7_entryOf_J57
    simp only [nI_add, pk_mul, zb_e]
    match d, h1, h2 with
    | 0, h1, h2 =>
      rw [if_pos (by rw [le_nI (by omega) (by omega)]; omega), if_neg (by decide)]
      exact ⟨fun _ => rfl, fun q => absurd (fun b h3 h4 => by omega) q⟩
    | d + 1, h1, h2 =>
      rw [if_neg (by rw [le_nI (by omega) (by omega)]; omega), if_neg (by decide), zg_in (show 6 * i + a < 606 by omega) (by omega), zg_in (show a < 6 by omega) (by omega), rj_n (by omega), rj_n (by omega)]
      obtain ⟨i1, i2⟩ := ih d (a + 1) (by omega) (by omega)
      by_cases h3 : S.2 26 (6 * i + a) = S.2 42 a
      · rw [if_pos ((lg_cmp_eq _ _).mpr h3)]
        refine ⟨fun q => i1 (fun b b1 b2 => q b (by omega) b2), fun q => i2 (fun q2 => q (fun b b1 b2 => ?_))⟩
        by_cases h4 : b = a
        · subst h4; exact h3
        · exact q2 b (by omega) b2
      · rw [if_neg (fun z => h3 ((lg_cmp_eq _ _).mp z)), z0 (by omega) (by omega)]
        exact ⟨fun q => absurd (q a (Nat.le_refl _) (by omega)) h3, fun _ => rfl⟩
theorem mt_iff {S : St} {r : Rul} {cf i : Nat} {rs : List Rd} {e : En} (hr : RulOK r) (hc : cf < 2) (hx : ∀ x ∈ rs, RdOK x) (hw : WFr r cf rs) (hK : KEY r cf rs S) (he : EOK e) (hE : EnR S i e) : MTc S i 0 ↔ sameK r cf rs e = true := by
  obtain ⟨e1, e2, e3, e4, e5, e6⟩ := he
  obtain ⟨f1, f2, f3, f4⟩ := hE
  obtain ⟨g1, g2⟩ := hK
  have key := key_iff e1 hr e2 hc e3 hx e4 hw
  have hs : sameK r cf rs e = true ↔ keyOf e.1 e.2.1 e.2.2.1 = keyOf r cf rs := dcP_t
  rw [hs, key]
  constructor
  · intro h
    refine ⟨?_, fun j hj => ?_⟩
    · have h0 := h 0 (by omega) (by omega)
      rw [Nat.add_zero, f1, g1] at h0
      exact h0
    · have h1 := h (1 + j) (by omega) (by omega)
      rw [show 6 * i + (1 + j) = 6 * i + 1 + j by omega, f2 j hj, g2 j hj] at h1
      exact h1
  · rintro ⟨h1, h2⟩ a _ ha
    by_cases h3 : a = 0
    · subst h3
      rw [Nat.add_zero, f1, g1]; exact h1
    · have h4 := h2 (a - 1) (by omega)
      rw [← f2 (a - 1) (by omega), ← g2 (a - 1) (by omega)] at h4
      rw [show 6 * i + a = 6 * i + 1 + (a - 1) by omega, show a = 1 + (a - 1) by omega]
      rw [show 1 + (a - 1) - 1 = a - 1 by omega]
      exact h4
def EOF (p : En → Bool) (L : List En) (i : Nat) (o : Option En) (x : Option Int32) : Prop := match o with
  | none => x = some (-1)
  | some e => ∃ k, L[k]? = some e ∧ i ≤ k ∧ p e = true ∧ x = some (nI k)
theorem eo_l {S : St} {r : Rul} {cf : Nat} {ws : List Rd} {L : List En} (hr : RulOK r) (hc : cf < 2) (hx : ∀ x ∈ ws, RdOK x) (hw : WFr r cf ws) (hK : KEY r cf ws S) (hC : CaR L S) (hL : L.length ≤ 100) (hE : ∀ e ∈ L, EOK e) : ∀ (l : List En) (i k : Nat), L.drop i = l → i ≤ L.length → l.length < k → EOF (sameK r cf ws) L i (l.find? (sameK r cf ws)) (zl1 (m_X7_entryOf_B2 S) k (nI i))
  | l, i, 0, _, _, h => by omega
  | [], i, k + 1, h1, h2, h3 => by
    show m_X7_entryOf_B2 S (zl1 (m_X7_entryOf_B2 S) k) (nI i) = some (-1)
    generalize zl1 (m_X7_entryOf_B2 S) k = G
    have hi := List.drop_eq_nil_iff.mp h1
    unfold m_X7_entryOf_B2
    rw [show rs S 25 = nI L.length from hC.1, if_pos (by rw [le_nI (by omega) (by omega)]; exact hi)]
  | e :: t, i, k + 1, h1, h2, h3 => by
    obtain ⟨d1, d2, -, d4⟩ := drop_cons h1
    have ih := eo_l hr hc hx hw hK hC hL hE t (i + 1) k d2 (by omega) (by simp only [List.length_cons] at h3; omega)
    have hmt := mt_iff hr hc hx hw hK (hE e (List.mem_of_getElem? d1)) (hC.2 i e d1)
    obtain ⟨i1, i2⟩ := eo_in (S := S) (i := i) (rec2 := zl1 (m_X7_entryOf_B2 S) k) (by omega) FU 6 0 (by omega) (FU_gt (by omega))
    have hstep : zl1 (m_X7_entryOf_B2 S) (k + 1) (nI i) = zl2 (m_X7_entryOf_B14 (nI i) (zl1 (m_X7_entryOf_B2 S) k) S) FU (nI 1) (nI 0) := by
      show m_X7_entryOf_B2 S (zl1 (m_X7_entryOf_B2 S) k) (nI i) = _
      generalize zl1 (m_X7_entryOf_B2 S) k = G
      unfold m_X7_entryOf_B2
      rw [show rs S 25 = nI L.length from hC.1, if_neg (by rw [le_nI (by omega) (by omega)]; omega)]
    rw [hstep, List.find?_cons]
    cases hs : sameK r cf ws e with
    | true =>
      rw [i1 (hmt.mpr hs)]
      exact ⟨i, d1, Nat.le_refl _, hs, rfl⟩
    | false =>
      rw [i2 (fun z => by rw [hmt.mp z] at hs; cases hs)]
      show EOF (sameK r cf ws) L i (t.find? (sameK r cf ws)) _
      unfold EOF at ih ⊢
      cases hf : t.find? (sameK r cf ws) with
      | none => rw [hf] at ih; exact ih
      | some e2 =>
        rw [hf] at ih
        obtain ⟨k2, q1, q2, q3, q4⟩ := ih
        exact ⟨k2, q1, by omega, q3, q4⟩
theorem erase_filter {p : En → Bool} : ∀ (L : List En) (k : Nat) (e : En), L.Pairwise (fun a b => ¬ keyE a = keyE b) → (∀ a b, a ∈ L → b ∈ L → p a = true → p b = true → keyE a = keyE b) → L[k]? = some e → p e = true → L.eraseIdx k = L.filter (fun x => !p x)
  | [], k, e, _, _, h, _ => by simp at h
  | a :: t, 0, e, hp, hk, h, he => by
    rw [List.pairwise_cons] at hp
    have h : a = e := by simpa using h
    subst h
    rw [List.eraseIdx_cons_zero, List.filter_cons_of_neg (by rw [he]; decide)]
    refine (List.filter_eq_self.mpr (fun x hx => ?_)).symm
    cases hpx : p x with
    | false => rfl
    | true => exact absurd (hk a x List.mem_cons_self (List.mem_cons_of_mem _ hx) he hpx) (hp.1 x hx)
  | a :: t, k + 1, e, hp, hk, h, he => by
    rw [List.pairwise_cons] at hp
    have h : t[k]? = some e := by simpa using h
    have hmem := List.mem_of_getElem? h
    have ha : p a = false := by
      cases hpa : p a with
      | false => rfl
      | true => exact absurd (hk a e List.mem_cons_self (List.mem_cons_of_mem _ hmem) hpa he) (hp.1 e hmem)
    rw [List.eraseIdx_cons_succ, List.filter_cons_of_pos (by rw [ha]; decide), erase_filter t k e hp.2 (fun x y hx hy => hk x y (List.mem_cons_of_mem _ hx) (List.mem_cons_of_mem _ hy)) h he]
/-! an entry is dropped -/
def shF (f : Nat → Int64) (a k : Nat) : Nat → Int64 := fun j => if a ≤ j ∧ j < k then f (j + 6) else f j
def sh1 (f : Nat → Int32) (a k : Nat) : Nat → Int32 := fun j => if a ≤ j ∧ j < k then f (j + 1) else f j
theorem sh1_s {f : Nat → Int32} {i a : Nat} (h : i ≤ a) : upd (sh1 f i a) a (sh1 f i a (a + 1)) = sh1 f i (a + 1) := by
  funext j
  unfold sh1
  by_cases hj : j = a
  · subst hj
    rw [pk_us, if_neg (by omega), if_pos (by omega)]
  · rw [pk_un hj]
    by_cases h5 : i ≤ j ∧ j < a
    · rw [if_pos h5, if_pos (by omega)]
    · rw [if_neg h5, if_neg (by omega)]
theorem shF_s {f : Nat → Int64} {i a : Nat} (h : i ≤ a) : vp_updL (shF f i a) a (shF f i a (a + 6)) = shF f i (a + 1) := by
  funext j
  unfold shF
  by_cases hj : j = a
  · subst hj
    rw [pk_uLs, if_neg (by omega), if_pos (by omega)]
  · rw [pk_uLn hj]
    by_cases h5 : i ≤ j ∧ j < a
    · rw [if_pos h5, if_pos (by omega)]
    · rw [if_neg h5, if_neg (by omega)]
theorem sh1_0 {f : Nat → Int32} {i : Nat} : sh1 f i i = f := by
  funext j
  unfold sh1
  rw [if_neg (by omega)]
theorem shF_0 {f : Nat → Int64} {i : Nat} : shF f i i = f := by
  funext j
  unfold shF
  rw [if_neg (by omega)]
theorem dr2_l {S0 : St} {f g : Nat → Int32} {i len : Nat} (hl : len ≤ 100) (h25 : S0.1 25 0 = nI len) : ∀ (k d a : Nat) (S : St), a + d = len → d < k → i ≤ a → S.1 27 = sh1 f i a → S.1 28 = sh1 g i a → S.2 = S0.2 → (∀ k, ¬ k = 27 → ¬ k = 28 → S.1 k = S0.1 k) →
    ∃ S', zl2 m_X7_drops_B49 k S (nI a) = some S' ∧ S'.1 27 = sh1 f i len ∧ S'.1 28 = sh1 g i len ∧ S'.2 = S0.2 ∧ ∀ k, ¬ k = 27 → ¬ k = 28 → S'.1 k = S0.1 k := by
  intro k
  induction k with
  | zero => intro d a S _ h; omega
  | succ k ih =>
    intro d a S h1 h2 h3 h4 h5 h6 h7
    show ∃ S', m_X7_drops_B49 (zl2 m_X7_drops_B49 k) S (nI a) = _ ∧ _
    generalize zl2 m_X7_drops_B49 k = G at ih ⊢
    unfold m_X7_drops_B49
    have e25 : rs S 25 = nI len := by
      show S.1 25 0 = _
      rw [h7 25 (by omega) (by omega)]; exact h25
    rw [e25]
    simp only [nI_add, zb_e]
    match d, h1, h2 with
    | 0, h1, h2 =>
      rw [if_pos (by rw [le_nI (by omega) (by omega)]; omega)]
      rw [show a = len by omega] at h4 h5
      exact ⟨S, rfl, h4, h5, h6, h7⟩
    | d + 1, h1, h2 =>
      rw [if_neg (by rw [le_nI (by omega) (by omega)]; omega), zg_in (show a + 1 < 101 by omega) (by omega), zg_in (show a < 101 by omega) (by omega), zg_in (show a + 1 < 101 by omega) (by omega), zg_in (show a < 101 by omega) (by omega), tn (by omega), ri_n (by omega), ri_n (by omega)]
      refine ih d (a + 1) _ (by omega) (by omega) (by omega) ?_ ?_ h6 (fun k2 q1 q2 => ?_)
      · rw [wi_tb, tb_n (by omega), wi_tb, tb_s, h4, sh1_s h3]
      · rw [wi_tb, tb_s, wi_tb, tb_n (by omega), h5, sh1_s h3]
      · rw [wi_tb, tb_n q2, wi_tb, tb_n q1, h7 k2 q1 q2]
theorem dr1_l {S0 : St} {f : Nat → Int64} {i len : Nat} (hl : len ≤ 100) (hi : i ≤ len) (h25 : S0.1 25 0 = nI len) : ∀ (k d a : Nat) (S : St), a + d = 6 * len → d < k → 6 * i ≤ a → S.2 26 = shF f (6 * i) a → S.1 = S0.1 → (∀ k, ¬ k = 26 → S.2 k = S0.2 k) →
    ∃ S', zl2 (m_X7_drops_B15 (nI i)) k S (nI a) = zl2 m_X7_drops_B49 FU S' (nI i) ∧ S'.2 26 = shF f (6 * i) (6 * len) ∧ S'.1 = S0.1 ∧ ∀ k, ¬ k = 26 → S'.2 k = S0.2 k := by
  intro k
  induction k with
  | zero => intro d a S _ h; omega
  | succ k ih =>
    intro d a S h1 h2 h3 h4 h5 h6
    show ∃ S', m_X7_drops_B15 (nI i) (zl2 (m_X7_drops_B15 (nI i)) k) S (nI a) = _ ∧ _
    generalize zl2 (m_X7_drops_B15 (nI i)) k = G at ih ⊢
    unfold m_X7_drops_B15
    have e25 : rs S 25 = nI len := by
      show S.1 25 0 = _
      rw [h5]; exact h25
    rw [e25]
    simp only [nI_add, pk_mul, zb_e]
    match d, h1, h2 with
    | 0, h1, h2 =>
      rw [if_pos (by rw [le_nI (by omega) (by omega)]; omega)]
      rw [show a = 6 * len by omega] at h4
      exact ⟨S, rfl, h4, h5, h6⟩
    | d + 1, h1, h2 =>
      rw [if_neg (by rw [le_nI (by omega) (by omega)]; omega), zg_in (show a + 6 < 606 by omega) (by omega), zg_in (show a < 606 by omega) (by omega), tn (by omega), rj_n (by omega)]
      refine ih d (a + 1) _ (by omega) (by omega) (by omega) ?_ h5 (fun k2 q1 => ?_)
      · rw [wj_tbL, tbL_s, h4, shF_s h3]
      · rw [wj_tbL, tbL_n q1, h6 k2 q1]
theorem drops_v {L : List En} {S : St} {i : Nat} (hC : CaR L S) (hL : L.length ≤ 101) (hi : i < L.length) : ∃ S', m_X7_drops S (nI i) = some S' ∧ CaR (L.eraseIdx i) S' ∧ (∀ k j, ¬ k = 25 → ¬ k = 27 → ¬ k = 28 → S'.1 k j = S.1 k j) ∧ ∀ k j, ¬ k = 26 → S'.2 k j = S.2 k j := by
  obtain ⟨c1, c2⟩ := hC
  unfold m_X7_drops
  rw [show rs S 25 = nI L.length from c1, pk_sub (by omega), zb_e, pk_mul, zb_e]
  have n25 : (wi S 25 0 (nI (L.length - 1))).1 25 0 = nI (L.length - 1) := wi_at
  have n27 : (wi S 25 0 (nI (L.length - 1))).1 27 = S.1 27 := by rw [wi_tb, tb_n (by omega)]
  have n28 : (wi S 25 0 (nI (L.length - 1))).1 28 = S.1 28 := by rw [wi_tb, tb_n (by omega)]
  obtain ⟨S1, a1, a2, a3, a4⟩ := dr1_l (S0 := wi S 25 0 (nI (L.length - 1))) (f := S.2 26) (i := i) (len := L.length - 1) (by omega) (by omega) n25 FU (6 * (L.length - 1) - 6 * i) (6 * i) (wi S 25 0 (nI (L.length - 1))) (by omega) (FU_gt (by omega)) (Nat.le_refl _) (by rw [shF_0]; rfl) rfl (fun _ _ => rfl)
  obtain ⟨S2, b1, b2, b3, b4, b5⟩ := dr2_l (S0 := S1) (f := S.1 27) (g := S.1 28) (i := i) (len := L.length - 1) (by omega) (by rw [a3]; exact n25) FU (L.length - 1 - i) i S1 (by omega) (FU_gt (by omega)) (Nat.le_refl _) (by rw [sh1_0, a3, n27]) (by rw [sh1_0, a3, n28]) rfl (fun _ _ _ => rfl)
  have hlen : (L.eraseIdx i).length = L.length - 1 := List.length_eraseIdx_of_lt hi
  refine ⟨S2, a1.trans b1, ⟨?_, fun j e he => ?_⟩, fun k j k1 k2 k3 => ?_, fun k j k1 => ?_⟩
  · rw [b5 25 (by omega) (by omega), a3, n25, hlen]
  · have hj := (List.getElem?_eq_some_iff.mp he).1
    rw [hlen] at hj
    rw [List.getElem?_eraseIdx] at he
    have e26 : S2.2 26 = shF (S.2 26) (6 * i) (6 * (L.length - 1)) := by rw [b4, a2]
    by_cases h1 : j < i
    · rw [if_pos h1] at he
      obtain ⟨q1, q2, q3, q4⟩ := c2 j e he
      unfold EnR
      rw [e26, b2, b3]
      unfold shF sh1
      rw [if_neg (by omega), if_neg (by omega), if_neg (by omega)]
      refine ⟨q1, fun a ha => ?_, q3, q4⟩
      rw [if_neg (by omega)]
      exact q2 a ha
    · rw [if_neg h1] at he
      obtain ⟨q1, q2, q3, q4⟩ := c2 (j + 1) e he
      unfold EnR
      rw [e26, b2, b3]
      unfold shF sh1
      rw [if_pos (by omega), if_pos (by omega), if_pos (by omega), show 6 * j + 6 = 6 * (j + 1) by omega]
      refine ⟨q1, fun a ha => ?_, q3, q4⟩
      rw [if_pos (by omega), show 6 * j + 1 + a + 6 = 6 * (j + 1) + 1 + a by omega]
      exact q2 a ha
  · rw [b5 k k2 k3, a3, wi_ne (by omega)]
  · rw [b4, a4 k k1]
    rfl
