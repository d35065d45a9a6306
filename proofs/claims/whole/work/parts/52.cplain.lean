/-! the class's plain look -/
def SeeP (g : Gs) (f : Nat → Int32) : Prop := ∀ n, n < 32 → gDn g n ≤ 5 ∧ f (n * 3 + 0) = nI (gDn g n) ∧ (¬ gDn g n = 0 → ¬ gDn g n = 5 → f (n * 3 + 1) = enA (gAn g n))
def FreT (E : Ev) (g : Gs) (f : Nat → Int32) : Prop := ∀ n, n < 32 → gDn g n = 3 → ∃ r, eρ E (n / 2) = some r ∧ ∀ p, p < 50 → f (n * 53 + p) = rowC r (n % 2) (gRd g n) (-1) (-1) (-1) p
def RP1 (E : Ev) (S0 : St) (g : Gs) (S : St) : Prop := (∀ k, ¬ k = 10 → ¬ k = 11 → S.1 k = S0.1 k) ∧ FilT (eφ E) (S0.1 0) ∧ RulT (eρ E) (S0.1 1) ∧ SeeP g (S.1 (8 + 2 * 1)) ∧ FreT E g (S.1 (9 + 2 * 1))
theorem RP1_RPH {E : Ev} {S0 : St} : RPH (RP1 E S0) E 1 := by
  refine ⟨fun g S h => ?_, fun g S n f h h5 hf => ?_⟩
  · rw [h.1 0 (by omega) (by omega), h.1 1 (by omega) (by omega)]
    exact ⟨h.2.1, h.2.2.1⟩
  · obtain ⟨a1, a2, a3, a4, a5⟩ := h
    refine ⟨fun k k1 k2 => ?_, a2, a3, ?_, ?_⟩
    · rw [tb_n (by omega)]; exact a1 k k1 k2
    · rw [tb_n (by omega)]; exact a4
    · rw [tb_s]
      intro m hm hd
      obtain ⟨r, e1, e2⟩ := a5 m hm hd
      have hne : ¬ m = n := fun q => by subst q; omega
      exact ⟨r, e1, fun p hp => by rw [hf _ (by omega)]; exact e2 p hp⟩
theorem RP1_end {E : Ev} {S0 : St} {g : Gs} {S : St} {n how : Nat} {a : Ans} (hn : n < 32) (hh : how ≤ 5) (h : RP1 E S0 g S) (hF : how = 3 → ∃ r, eρ E (n / 2) = some r ∧ FrR S (9 + 2 * 1) n r (gRd g n)) : ∃ S', m_X2_end 1 S (nI n) (nI how) (enA a) = some (enA a, S') ∧ RP1 E S0 (sEnd g n how a) S' ∧ S'.1 (9 + 2 * 1) = S.1 (9 + 2 * 1) := by
  obtain ⟨f, h1, h2, h3, h4, h6⟩ := end_v (b := 1) (by omega) (S := S) (how := how) (a := enA a) hn
  obtain ⟨a1, a2, a3, a4, a5⟩ := h
  refine ⟨_, h1, ⟨fun k k1 k2 => ?_, a2, a3, ?_, ?_⟩, tb_n (by omega)⟩
  · rw [tb_n (by omega)]; exact a1 k k1 k2
  · rw [tb_s]
    intro m hm
    obtain ⟨s1, s2, s3⟩ := a4 m hm
    show fu (gDn g) n how m ≤ 5 ∧ f (m * 3 + 0) = nI (fu (gDn g) n how m) ∧ (¬ fu (gDn g) n how m = 0 → ¬ fu (gDn g) n how m = 5 → f (m * 3 + 1) = enA (fu (gAn g) n a m))
    by_cases hmn : m = n
    · subst hmn
      rw [fu_s, fu_s]
      exact ⟨hh, h3, fun _ _ => h4⟩
    · rw [fu_n hmn, fu_n hmn, h2 m hmn 0 (by omega), h2 m hmn 1 (by omega)]
      exact ⟨s1, s2, s3⟩
  · rw [tb_n (by omega)]
    intro m hm hd
    have hd : fu (gDn g) n how m = 3 := hd
    by_cases hmn : m = n
    · subst hmn
      rw [fu_s] at hd
      exact hF hd
    · rw [fu_n hmn] at hd
      exact a5 m hm hd
theorem plain_v {E : Ev} {n d : Nat} {S0 : St} (hE : EvOK E) {L : Nat → Gs → Ans × Gs} (hL : LOK L) {LK : St → Int32 → Int32 → Option (Int32 × St)} (hLK : LKC (RP1 E S0) (9 + 2 * 1) L LK (d + 1)) {g : Gs} {S : St} (hn : n < 32) (hg : WG g) (h5 : gDn g n = 5) (h : RP1 E S0 g S) :
    ∃ S', m_X2_answerPlainly LK 1 S (nI n) (nI d) = some (enA (aplain E L n g).1, S') ∧ RP1 E S0 (aplain E L n g).2 S' ∧ FrO (9 + 2 * 1) n g S S' := by
  obtain ⟨i1, i2⟩ := readI_v (b := 1) (by omega) hE RP1_RPH hL hLK hn hg h5 h
  unfold m_X2_answerPlainly aplain
  cases hr : eρ E (n / 2) with
  | none =>
    obtain ⟨S1, a1, a2, a3⟩ := i1 hr
    rw [a1, zo2_e, if_neg (by decide)]
    obtain ⟨S', b1, b2, b3⟩ := RP1_end (how := 4) (a := .inl 2) hn (by omega) a2 (fun q => absurd q (by omega))
    have b1 : m_X2_end 1 S1 (nI n) (nI 4) (-2) = some (enA (.inl 2), S') := b1
    rw [b1, zo2_e]
    exact ⟨S', rfl, b2, FrO_tr a3 (OUT_O (OUT_eq b3)) (AF_rf g)⟩
  | some r =>
    have hr2 := hE.2 _ _ hr
    have i3 := i2 r hr
    obtain ⟨w1, w2, w3, w4⟩ := aread_c hE hL (n := n) hr2 hg
    show ∃ S', _ = some (enA (match aread E L n r g with
      | (.inl k, g1) => ((.inl k : Ans), sEnd g1 n 4 (.inl k))
      | (.inr rs, g1) => ((.inr (ares E r rs) : Ans), sEnd (sRd g1 n rs) n 3 (.inr (ares E r rs)))).1, S') ∧ RP1 E S0 (match aread E L n r g with
      | (.inl k, g1) => ((.inl k : Ans), sEnd g1 n 4 (.inl k))
      | (.inr rs, g1) => ((.inr (ares E r rs) : Ans), sEnd (sRd g1 n rs) n 3 (.inr (ares E r rs)))).2 S' ∧ _
    cases hp : aread E L n r g with
    | mk o g1 =>
      rw [hp] at i3 w1 w2 w3 w4
      have d5 : gDn g1 n = 5 := AF_dn w2 h5
      cases o with
      | inl k =>
        obtain ⟨S1, a1, a2, a3⟩ := i3
        rw [a1, zo2_e, if_neg (enA_l (w3 k rfl)).2.1]
        obtain ⟨S', b1, b2, b3⟩ := RP1_end (how := 4) (a := .inl k) hn (by omega) a2 (fun q => absurd q (by omega))
        rw [b1, zo2_e]
        exact ⟨S', rfl, b2, FrO_tr a3 (OUT_O (OUT_eq b3)) (AF_rf g)⟩
      | inr rs =>
        obtain ⟨S1, a1, a2, a3, a4⟩ := i3
        obtain ⟨x1, x2⟩ := w4 rs rfl
        have h0 : FilT (eφ E) (S1.1 0) := by rw [a2.1 0 (by omega) (by omega)]; exact a2.2.1
        rw [a1, zo2_e, if_pos (by decide), res_v (b := 1) (by omega) hn hE.1 h0 a4 hr2 (fun x q => (x2 x q).1) (WFr_le hr2 x1), zo_e]
        have a2' : RP1 E S0 (sRd g1 n rs) S1 := by
          obtain ⟨c1, c2, c3, c4, c5⟩ := a2
          refine ⟨c1, c2, c3, c4, fun m hm hd => ?_⟩
          have hd : gDn g1 m = 3 := hd
          have hne : ¬ m = n := fun q => by subst q; omega
          obtain ⟨r2, e1, e2⟩ := c5 m hm hd
          refine ⟨r2, e1, fun p hp => ?_⟩
          show _ = rowC r2 (m % 2) (fu (gRd g1) n rs m) (-1) (-1) (-1) p
          rw [fu_n hne]
          exact e2 p hp
        obtain ⟨S', b1, b2, b3⟩ := RP1_end (how := 3) (a := .inr (ares E r rs)) (g := sRd g1 n rs) hn (by omega) a2' (fun _ => ⟨r, hr, by
          show FrR S1 (9 + 2 * 1) n r (fu (gRd g1) n rs n)
          rw [fu_s]
          exact a4⟩)
        have b1 : m_X2_end 1 S1 (nI n) (nI 3) (nI (ares E r rs)) = some (enA (.inr (ares E r rs)), S') := b1
        rw [b1, zo2_e]
        exact ⟨S', rfl, b2, FrO_tr a3 (OUT_O (OUT_eq b3)) (AF_rf g)⟩
theorem RP1_being {E : Ev} {S0 : St} {n : Nat} {g : Gs} {S : St} (hn : n < 32) (h0 : gDn g n = 0) (h : RP1 E S0 g S) : ∃ S', m_X4_set (8 + 2 * 1) S (nI n) (nI 0) (nI 5) = some S' ∧ RP1 E S0 (sDn g n 5) S' ∧ S'.1 (9 + 2 * 1) = S.1 (9 + 2 * 1) := by
  rw [ts_s (b := 1) (by omega) hn (by omega)]
  obtain ⟨a1, a2, a3, a4, a5⟩ := h
  refine ⟨_, rfl, ⟨fun k k1 k2 => ?_, a2, a3, ?_, ?_⟩, tb_n (by omega)⟩
  · rw [tb_n (by omega)]; exact a1 k k1 k2
  · rw [tb_s]
    intro m hm
    obtain ⟨s1, s2, s3⟩ := a4 m hm
    show fu (gDn g) n 5 m ≤ 5 ∧ _ = nI (fu (gDn g) n 5 m) ∧ (¬ fu (gDn g) n 5 m = 0 → ¬ fu (gDn g) n 5 m = 5 → _)
    by_cases h1 : m = n
    · subst h1
      rw [fu_s, pk_us]
      exact ⟨by omega, rfl, fun _ q => absurd rfl q⟩
    · rw [fu_n h1, pk_un (by omega), pk_un (by omega)]
      exact ⟨s1, s2, s3⟩
  · rw [tb_n (by omega)]
    intro m hm hd
    have hd : fu (gDn g) n 5 m = 3 := hd
    by_cases h1 : m = n
    · subst h1; rw [fu_s] at hd; omega
    · rw [fu_n h1] at hd
      exact a5 m hm hd
theorem lookP_v {E : Ev} {S0 : St} (hE : EvOK E) : ∀ (f j : Nat), f ≤ 32 → LKC (RP1 E S0) (9 + 2 * 1) (alook true E f) (zl3 (fun LK => m_X2_look LK 1) (f + 1 + j)) (32 - f) := by
  intro f
  induction f with
  | zero =>
    intro j _ n g S hn hg h
    have hu : zl3 (fun LK => m_X2_look LK 1) (0 + 1 + j) S (nI n) (nI (32 - 0)) = m_X2_look (zl3 (fun LK => m_X2_look LK 1) j) 1 S (nI n) (nI 32) := by
      rw [show 0 + 1 + j = j + 1 by omega]; rfl
    rw [hu]
    refine ⟨S, ?_, h, fun _ _ _ _ _ => rfl⟩
    unfold m_X2_look
    rw [tg_s (b := 1) (by omega) hn (by omega), zo_e]
    rw [if_neg (show ¬ nI 32 < nI 32 by decide)]
    split <;> rfl
  | succ f ih =>
    intro j hf n g S hn hg h
    have hu : zl3 (fun LK => m_X2_look LK 1) (f + 1 + 1 + j) S (nI n) (nI (32 - (f + 1))) = m_X2_look (zl3 (fun LK => m_X2_look LK 1) (f + 1 + j)) 1 S (nI n) (nI (31 - f)) := by
      rw [show f + 1 + 1 + j = (f + 1 + j) + 1 by omega, show 32 - (f + 1) = 31 - f by omega]; rfl
    have ih2 := ih j (by omega)
    rw [hu, alook]
    clear ih hu
    generalize zl3 (fun LK => m_X2_look LK 1) (f + 1 + j) = KK at ih2 ⊢
    obtain ⟨s1, s2, s3⟩ := h.2.2.2.1 n hn
    unfold m_X2_look
    rw [tg_s (b := 1) (by omega) hn (by omega), zo_e, s2]
    by_cases h5 : gDn g n = 5
    · rw [if_pos (by rw [h5]), if_pos h5]
      exact ⟨S, rfl, h, fun _ _ _ _ _ => rfl⟩
    · rw [if_neg (nI_ne (by omega) (by omega) h5), if_neg h5, if_pos (by rw [lt_nI (by omega) (by omega)]; omega)]
      by_cases h0 : gDn g n = 0
      · rw [if_pos (by rw [h0]; decide), if_neg (by omega), if_pos (by decide)]
        obtain ⟨S2, a1, a2, a4⟩ := RP1_being hn h0 h
        rw [a1, zo_e, if_neg (by decide)]
        rw [show 32 - f = 31 - f + 1 by omega] at ih2
        have d5 : gDn (sDn g n 5) n = 5 := fu_s
        obtain ⟨S', b1, b2, b3⟩ := plain_v hE (alook_c hE true f) ih2 hn (WG_sDn5 hg n) d5 a2
        rw [b1, zo2_e]
        refine ⟨S', rfl, b2, fun m hm hd p hp => ?_⟩
        have hne : ¬ m = n := fun q => by subst q; omega
        rw [b3 m hm hne (by show fu (gDn g) n 5 m = 5; rw [fu_n hne]; exact hd) p hp, a4]
      · rw [if_neg (by rw [eq0_nI (by omega)]; exact h0), if_pos h0, tg_s (b := 1) (by omega) hn (by omega), zo_e, s3 h0 h5]
        exact ⟨S, rfl, h, fun _ _ _ _ _ => rfl⟩
