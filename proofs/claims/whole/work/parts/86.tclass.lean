/-! the class measures the ways -/
theorem le_m1 {a : Nat} (h : a < 2147483648) : ¬ nI a ≤ -1 := fun q => by
  have h2 := Int32.le_iff_toInt_le.mp q
  rw [nT h] at h2
  have h3 : ((-1 : Int32)).toInt = -1 := by decide
  omega
theorem PA_ok {E : Ev} {g : Gs} {rk : Nat → Nat} {n x L : Nat} (hT : TDO E g rk) (hn : n < 32) (hd : gDn g n = 3) (h : PA E g n x L) : x < 32 ∧ gDn g x = 3 ∧ L ≤ 640 ∧ 1 ≤ L := by
  obtain ⟨k, hk⟩ := h
  have := Pt_ok hT hn hd k x L hk
  exact ⟨this.1, this.2.1, by omega, this.2.2.2.2⟩
theorem mwl_l {E : Ev} {g : Gs} {rk : Nat → Nat} {S0 : St} {n m : Nat} (hT : TDO E g rk) (hF : FreT E g (S0.1 (9 + 2 * 1))) (hn : n < 32) (hd : gDn g n = 3) (hm : m < 32) {W0 : Nat → Option Nat} (hw : ∃ v, W0 m = some v) : ∀ (k d j : Nat) (W : Nat → Option Nat) (S : St) (b : Bool), j + d = 5 → d < k → WC W S → K7 S0 S → SdW E g n W → MoW W0 W → (b = false → W = W0) → (∀ j2, j2 < j → ∀ x, er g m j2 = some x → ∀ L, geW W0 m L → geW W x (L + tv E x)) →
    ∃ W' b' S', zl3 (m_X5_makesWaysLonger_B4 (nI m)) k S (bI b) (nI j) = some (bI b', S') ∧ WC W' S' ∧ K7 S0 S' ∧ SdW E g n W' ∧ MoW W0 W' ∧ (b' = false → W' = W0) ∧ ∀ x, EDG g m x → ∀ L, geW W0 m L → geW W' x (L + tv E x) := by
  intro k
  induction k with
  | zero => intro d j W S b _ h; omega
  | succ k ih =>
    intro d j W S b h1 h2 h3 h4 h5 h6 h7 h8
    show ∃ W' b' S', m_X5_makesWaysLonger_B4 (nI m) (zl3 (m_X5_makesWaysLonger_B4 (nI m)) k) S (bI b) (nI j) = _ ∧ _
    generalize zl3 (m_X5_makesWaysLonger_B4 (nI m)) k = G at ih ⊢
    unfold m_X5_makesWaysLonger_B4 m_X5_makesWaysLonger_J43 m_X5_makesWaysLonger_J80
    simp only [nI_add, zb_e]
    match d, h1, h2 with
    | 0, h1, h2 =>
      rw [if_pos (by rw [le_nI (by omega) (by omega)]; omega), show bz (bI b) = true from by cases b <;> decide, zg_tr]
      exact ⟨W, b, S, rfl, h3, h4, h5, h6, h7, fun x ⟨j2, q1, q2⟩ => h8 j2 (by omega) x q2⟩
    | d + 1, h1, h2 =>
      obtain ⟨Lm, l1, -⟩ : geW W m 0 := by
        obtain ⟨v, hv⟩ := hw
        exact h6 m 0 ⟨v, hv, Nat.zero_le _⟩
      obtain ⟨-, dm, lm1, lm2⟩ := PA_ok hT hn hd (h5 m Lm hm l1)
      have hF' : FreT E g (S.1 (9 + 2 * 1)) := by rw [h4.2 _ (by omega)]; exact hF
      rw [if_neg (by rw [le_nI (by omega) (by omega)]; omega), nra_v hT hF' hm dm (by omega), zo_e]
      cases he : er g m j with
      | none =>
        rw [show eO none = -1 from rfl, if_pos rfl, if_pos rfl]
        exact ih d (j + 1) W S b (by omega) (by omega) h3 h4 h5 h6 h7 (fun j2 q x q2 => by
          by_cases hj : j2 = j
          · subst hj; rw [he] at q2; cases q2
          · exact h8 j2 (by omega) x q2)
      | some x =>
        have hedge : EDG g m x := ⟨j, by omega, he⟩
        obtain ⟨x1, x2, x3⟩ := (hT m hm dm).2.2.2.2 x hedge
        obtain ⟨-, t1, t2, -⟩ := hT x x1 x2
        rw [show eO (some x) = nI x from rfl, if_neg (nI_n1 (by omega)), tg_7 hm (by omega), zo_e, h3 m hm, l1, tim_v hF' x1 x2, zo_e, if_neg (nI_n1 (by omega)), tg_7 x1 (by omega), zo_e, h3 x x1, show eO (some Lm) = nI Lm from rfl, nI_add]
        have hcmp : (nI (Lm + tv E x) ≤ eO (W x)) ↔ geW W x (Lm + tv E x) := by
          cases hx : W x with
          | none => exact ⟨fun q => absurd q (le_m1 (by omega)), fun ⟨v, v1, _⟩ => by rw [hx] at v1; cases v1⟩
          | some v =>
            have hv := (PA_ok hT hn hd (h5 x v x1 hx)).2.2.1
            rw [show eO (some v) = nI v from rfl, le_nI (by omega) (by omega)]
            exact ⟨fun q => ⟨v, hx, q⟩, fun ⟨u, u1, u2⟩ => by rw [hx] at u1; cases u1; exact u2⟩
        by_cases hge : geW W x (Lm + tv E x)
        · rw [if_pos (hcmp.mpr hge)]
          refine ih d (j + 1) W S b (by omega) (by omega) h3 h4 h5 h6 h7 (fun j2 q y q2 L hL => ?_)
          by_cases hj : j2 = j
          · subst hj
            rw [he] at q2
            cases q2
            obtain ⟨u, u1, u2⟩ := h6 m L hL
            rw [l1] at u1
            cases u1
            obtain ⟨v, v1, v2⟩ := hge
            exact ⟨v, v1, by omega⟩
          · exact h8 j2 (by omega) y q2 L hL
        · rw [if_neg (fun q => hge (hcmp.mp q)), ts_7 x1 (by omega), zo_e]
          obtain ⟨r1, r2, r3⟩ := rlx h5 hm l1 hedge hge
          obtain ⟨W', b', S', p1, p2, p3, p4, p5, p6, p7⟩ := ih d (j + 1) _ _ true (by omega) (by omega) (WC_set h3 (x := x) (v := Lm + tv E x)) (K7_set h4) r1 (MoW_tr h6 r2) (fun q => by cases q) (fun j2 q y q2 L hL => by
            by_cases hj : j2 = j
            · subst hj
              rw [he] at q2
              cases q2
              obtain ⟨u, u1, u2⟩ := h6 m L hL
              rw [l1] at u1
              cases u1
              obtain ⟨v, v1, v2⟩ := r3
              exact ⟨v, v1, by omega⟩
            · exact r2 y _ (h8 j2 (by omega) y q2 L hL))
          exact ⟨W', b', S', p1, p2, p3, p4, p5, p6, p7⟩
theorem mwl_v {E : Ev} {g : Gs} {rk : Nat → Nat} {S0 S : St} {n m : Nat} (hT : TDO E g rk) (hF : FreT E g (S0.1 (9 + 2 * 1))) (hn : n < 32) (hd : gDn g n = 3) (hm : m < 32) {W : Nat → Option Nat} (hw : ∃ v, W m = some v) (h3 : WC W S) (h4 : K7 S0 S) (h5 : SdW E g n W) :
    ∃ W' b' S', m_X5_makesWaysLonger S (nI m) = some (bI b', S') ∧ WC W' S' ∧ K7 S0 S' ∧ SdW E g n W' ∧ MoW W W' ∧ (b' = false → W' = W) ∧ ∀ x, EDG g m x → ∀ L, geW W m L → geW W' x (L + tv E x) :=
  mwl_l hT hF hn hd hm hw FU 5 0 W S false (by omega) (FU_gt (by omega)) h3 h4 h5 MoW_rf (fun _ => rfl) (fun j2 q => by omega)
theorem mw55_l {E : Ev} {g : Gs} {rk : Nat → Nat} {S0 : St} {n : Nat} (hT : TDO E g rk) (hF : FreT E g (S0.1 (9 + 2 * 1))) (hn : n < 32) (hd : gDn g n = 3) {W0 : Nat → Option Nat} {x7 : Int32} {rec40 : St → Int32 → Int32 → Option St} : ∀ (k d m : Nat) (W : Nat → Option Nat) (S : St) (b : Bool), m + d = 32 → d < k → WC W S → K7 S0 S → SdW E g n W → MoW W0 W → (b = false → W = W0) → (∀ m2 x, m2 < m → EDG g m2 x → ∀ L, geW W0 m2 L → geW W x (L + tv E x)) →
    ∃ W' b' S', zl3 (m_X5_measureWaysUp_B55 x7 rec40) k S (bI b) (nI m) = rec40 S' (bI b') (x7 + nI 1) ∧ WC W' S' ∧ K7 S0 S' ∧ SdW E g n W' ∧ MoW W0 W' ∧ (b' = false → W' = W0) ∧ CLW E g W0 W' := by
  intro k
  induction k with
  | zero => intro d m W S b _ h; omega
  | succ k ih =>
    intro d m W S b h1 h2 h3 h4 h5 h6 h7 h8
    show ∃ W' b' S', m_X5_measureWaysUp_B55 x7 rec40 (zl3 (m_X5_measureWaysUp_B55 x7 rec40) k) S (bI b) (nI m) = _ ∧ _
    generalize zl3 (m_X5_measureWaysUp_B55 x7 rec40) k = G at ih ⊢
    unfold m_X5_measureWaysUp_B55
    match d, h1, h2 with
    | 0, h1, h2 =>
      rw [if_pos (by rw [le_nI (by omega) (by omega)]; omega), zb_e]
      exact ⟨W, b, S, rfl, h3, h4, h5, h6, h7, fun m2 x q1 q2 => h8 m2 x (by omega) q2⟩
    | d + 1, h1, h2 =>
      have hm : m < 32 := by omega
      rw [if_neg (by rw [le_nI (by omega) (by omega)]; omega), tg_7 hm (by omega), zo_e, h3 m hm]
      cases hw : W m with
      | none =>
        rw [show eO none = -1 from rfl, if_pos rfl, zb_e, zb_e, nI_add, show bI b ||| nI 0 = bI b from Int32.or_zero]
        refine ih d (m + 1) W S b (by omega) (by omega) h3 h4 h5 h6 h7 (fun m2 x q1 q2 L hL => ?_)
        by_cases hmm : m2 = m
        · subst hmm
          obtain ⟨v, v1, -⟩ := h6 m2 L hL
          rw [hw] at v1; cases v1
        · exact h8 m2 x (by omega) q2 L hL
      | some Lm =>
        have hb := (PA_ok hT hn hd (h5 m Lm hm hw)).2.2.1
        rw [show eO (some Lm) = nI Lm from rfl, if_neg (nI_n1 (by omega))]
        obtain ⟨W', b', S', p1, p2, p3, p4, p5, p6, p7⟩ := mwl_v hT hF hn hd hm ⟨Lm, hw⟩ h3 h4 h5
        rw [p1, zo2_e]
        have hrel : ∀ m2 x, m2 < m + 1 → EDG g m2 x → ∀ L, geW W0 m2 L → geW W' x (L + tv E x) := fun m2 x q1 q2 L hL => by
          by_cases hmm : m2 = m
          · subst hmm
            exact p7 x q2 L (h6 m2 L hL)
          · exact p5 x _ (h8 m2 x (by omega) q2 L hL)
        cases b' with
        | false =>
          rw [if_pos (by decide), zb_e, zb_e, nI_add, show bI b ||| nI 0 = bI b from Int32.or_zero]
          exact ih d (m + 1) W' S' b (by omega) (by omega) p2 p3 p4 (MoW_tr h6 p5) (fun q => by rw [p6 rfl]; exact h7 q) hrel
        | true =>
          rw [if_neg (by decide), zb_e, zb_e, nI_add, show bI b ||| nI 1 = bI true from by cases b <;> decide]
          exact ih d (m + 1) W' S' true (by omega) (by omega) p2 p3 p4 (MoW_tr h6 p5) (fun q => by cases q) hrel
theorem mw40_l {E : Ev} {g : Gs} {rk : Nat → Nat} {S0 : St} {n : Nat} (hT : TDO E g rk) (hF : FreT E g (S0.1 (9 + 2 * 1))) (hn : n < 32) (hd : gDn g n = 3) : ∀ (k d i : Nat) (W : Nat → Option Nat) (S : St) (b : Bool), i + d = 32 → d < k → WC W S → K7 S0 S → SdW E g n W → FKW E g n i W → (b = false → CLW E g W W) →
    ∃ W' S', zl3 m_X5_measureWaysUp_B40 k S (bI b) (nI i) = some S' ∧ WC W' S' ∧ K7 S0 S' ∧ SdW E g n W' ∧ CPW E g n W' := by
  intro k
  induction k with
  | zero => intro d i W S b _ h; omega
  | succ k ih =>
    intro d i W S b h1 h2 h3 h4 h5 h6 h7
    show ∃ W' S', m_X5_measureWaysUp_B40 (zl3 m_X5_measureWaysUp_B40 k) S (bI b) (nI i) = _ ∧ _
    generalize zl3 m_X5_measureWaysUp_B40 k = G at ih ⊢
    unfold m_X5_measureWaysUp_B40
    match d, h1, h2 with
    | 0, h1, h2 =>
      rw [if_pos (by rw [le_nI (by omega) (by omega)]; omega)]
      exact ⟨W, S, rfl, h3, h4, h5, FKW_31 hT hn hd (by omega) h6⟩
    | d + 1, h1, h2 =>
      rw [if_neg (by rw [le_nI (by omega) (by omega)]; omega)]
      cases b with
      | false =>
        rw [if_pos (by decide)]
        exact ⟨W, S, rfl, h3, h4, h5, FKW_cl h6 (h7 rfl)⟩
      | true =>
        rw [if_neg (by decide)]
        obtain ⟨W', b', S', p1, p2, p3, p4, p5, p6, p7⟩ := mw55_l hT hF hn hd (x7 := nI i) (rec40 := G) FU 32 0 W S false (by omega) (FU_gt (by omega)) h3 h4 h5 MoW_rf (fun _ => rfl) (fun m2 x q => by omega)
        show ∃ W' S', zl3 (m_X5_measureWaysUp_B55 (nI i) G) FU S (nI 0) (nI 0) = _ ∧ _
        have p1 : zl3 (m_X5_measureWaysUp_B55 (nI i) G) FU S (nI 0) (nI 0) = _ := p1
        rw [p1, nI_add]
        exact ih d (i + 1) W' S' b' (by omega) (by omega) p2 p3 p4 (FKW_s h6 p5 p7) (fun q => by
          have := p6 q
          subst this
          exact p7)
theorem mw2_l {E : Ev} {g : Gs} {rk : Nat → Nat} {S0 : St} {n : Nat} (hT : TDO E g rk) (hF : FreT E g (S0.1 (9 + 2 * 1))) (hn : n < 32) (hd : gDn g n = 3) : ∀ (k d i : Nat) (S : St), i + d = 32 → d < k → (∀ m, m < i → S.1 7 (m * 2 + 0) = -1 ∧ S.1 7 (m * 2 + 1) = -1) → (∀ k, ¬ k = 7 → S.1 k = S0.1 k) →
    ∃ W' S', zl2 (m_X5_measureWaysUp_B2 (nI n)) k S (nI i) = some S' ∧ WC W' S' ∧ K7 S0 S' ∧ SdW E g n W' ∧ CPW E g n W' := by
  intro k
  induction k with
  | zero => intro d i S _ h; omega
  | succ k ih =>
    intro d i S h1 h2 h3 h4
    show ∃ W' S', m_X5_measureWaysUp_B2 (nI n) (zl2 (m_X5_measureWaysUp_B2 (nI n)) k) S (nI i) = _ ∧ _
    generalize zl2 (m_X5_measureWaysUp_B2 (nI n)) k = G at ih ⊢
    unfold m_X5_measureWaysUp_B2
    match d, h1, h2 with
    | 0, h1, h2 =>
      have hF' : FreT E g (S.1 (9 + 2 * 1)) := by rw [h4 _ (by omega)]; exact hF
      rw [if_pos (by rw [le_nI (by omega) (by omega)]; omega), tim_v hF' hn hd, zo_e, ts_7 hn (by omega), zo_e]
      have hp0 : PA E g n n (tv E n) := ⟨0, rfl, rfl⟩
      refine mw40_l hT hF hn hd FU 32 0 (fu (fun _ => none) n (some (tv E n))) _ true (by omega) (FU_gt (by omega)) (WC_set (fun m hm => (h3 m (by omega)).1)) (K7_set ⟨fun m hm => (h3 m (by omega)).2, h4⟩) (SdW_fu (fun x v _ q => by cases q) hp0) (fun k hk x L hp => ?_) (fun q => by cases q)
      rw [show k = 0 by omega] at hp
      obtain ⟨q1, q2⟩ := hp
      subst q1
      exact ⟨_, fu_s, by omega⟩
    | d + 1, h1, h2 =>
      have hcl : m_X4_clear 7 S (nI i) = some (tb S 7 (clrF (S.1 7) (i * 2) 2 (-1))) := clear_v (k := 7) (by omega) (S := S) (r := i) (by show i < 32; omega)
      rw [if_neg (by rw [le_nI (by omega) (by omega)]; omega), hcl, zo_e, zb_e, nI_add]
      refine ih d (i + 1) _ (by omega) (by omega) (fun m hm => ?_) (fun k q => by rw [tb_n q]; exact h4 k q)
      rw [tb_s]
      unfold clrF
      by_cases hmi : m = i
      · subst hmi
        exact ⟨if_pos (by omega), if_pos (by omega)⟩
      · rw [if_neg (by omega), if_neg (by omega)]
        exact h3 m (by omega)
theorem mw_v {E : Ev} {g : Gs} {rk : Nat → Nat} {S : St} {n : Nat} (hT : TDO E g rk) (hF : FreT E g (S.1 (9 + 2 * 1))) (hn : n < 32) (hd : gDn g n = 3) : ∃ W' S', m_X5_measureWaysUp S (nI n) = some S' ∧ WC W' S' ∧ K7 S S' ∧ SdW E g n W' ∧ CPW E g n W' :=
  mw2_l hT hF hn hd FU 32 0 S (by omega) (FU_gt (by omega)) (fun m hm => by omega) (fun _ _ => rfl)
