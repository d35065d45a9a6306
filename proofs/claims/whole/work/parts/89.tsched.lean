/-! who may begin, who begins -/
def wvo (W : Nat → Option Nat) (m : Nat) : Nat := (W m).getD 0
def canB (g : Gs) (W : Nat → Option Nat) (c : Nat → Nat) (T m : Nat) : Prop := (∃ v, W m = some v) ∧ c m = 0 ∧ ∀ x, EDG g m x → ¬ c x = 0 ∧ c x ≤ T
def BSd (g : Gs) (W : Nat → Option Nat) (c : Nat → Nat) (T i : Nat) (o : Option Nat) : Prop := (o = none ∧ ∀ m, m < i → ¬ canB g W c T m) ∨ ∃ b, o = some b ∧ b < i ∧ canB g W c T b ∧ ∀ m, m < i → canB g W c T m → wvo W m ≤ wvo W b ∧ (wvo W m = wvo W b → b ≤ m)
def DSd (g : Gs) (W : Nat → Option Nat) (c : Nat → Nat) (T i : Nat) (o : Option Nat) : Prop := (o = none ∧ ∀ m, i ≤ m → m < 32 → ¬ canB g W c T m) ∨ ∃ b, o = some b ∧ i ≤ b ∧ b < 32 ∧ canB g W c T b ∧ ∀ m, i ≤ m → m < 32 → canB g W c T m → wvo W m ≤ wvo W b ∧ (wvo W m = wvo W b → b ≤ m)
theorem BSd_u {g : Gs} {W : Nat → Option Nat} {c : Nat → Nat} {T i : Nat} {o o2 : Option Nat} (h1 : BSd g W c T i o) (h2 : BSd g W c T i o2) : o = o2 := by
  rcases h1 with ⟨rfl, a⟩ | ⟨b, rfl, b1, b2, b3⟩
  · rcases h2 with ⟨rfl, _⟩ | ⟨b, _, b1, b2, _⟩
    · rfl
    · exact absurd b2 (a b b1)
  · rcases h2 with ⟨_, a⟩ | ⟨d, rfl, d1, d2, d3⟩
    · exact absurd b2 (a b b1)
    · obtain ⟨x1, x2⟩ := b3 d d1 d2
      obtain ⟨y1, y2⟩ := d3 b b1 b2
      have := x2 (by omega)
      have := y2 (by omega)
      rw [show b = d by omega]
theorem DSd_B {g : Gs} {W : Nat → Option Nat} {c : Nat → Nat} {T : Nat} {o : Option Nat} (h : DSd g W c T 0 o) : BSd g W c T 32 o := by
  rcases h with ⟨e, a⟩ | ⟨b, e, _, b1, b2, b3⟩
  · exact Or.inl ⟨e, fun m hm => a m (Nat.zero_le _) hm⟩
  · exact Or.inr ⟨b, e, b1, b2, fun m hm => b3 m (Nat.zero_le _) hm⟩
def TX (E : Ev) (g : Gs) (rk : Nat → Nat) (n : Nat) (W : Nat → Option Nat) : Prop := TDO E g rk ∧ n < 32 ∧ gDn g n = 3 ∧ (∀ m, m < 32 → (gDn g m = 3 ↔ ∃ v, W m = some v)) ∧ (∀ m v, m < 32 → W m = some v → 1 ≤ v ∧ v ≤ 640) ∧ N4 g
def eE (v : Nat) : Int32 := if v = 0 then -1 else nI v
def CB (c : Nat → Nat) : Prop := ∀ m, c m ≤ 2000
def CS (W : Nat → Option Nat) (c : Nat → Nat) (S0 S : St) : Prop := WC W S ∧ (∀ m, m < 32 → S.1 7 (m * 2 + 1) = eE (c m)) ∧ ∀ k, ¬ k = 7 → S.1 k = S0.1 k
def rc (c : Nat → Nat) (T : Nat) : Nat := cntB (fun m => decide (T < c m)) 32
/-! the class -/
theorem eE_le {v T : Nat} (hv : v ≤ 2000) (hT : T ≤ 2000) : (eE v ≤ nI T) ↔ v ≤ T := by
  unfold eE
  by_cases h : v = 0
  · rw [if_pos h]
    refine ⟨fun _ => by omega, fun _ => ?_⟩
    rw [i_le (by omega)]
    have : ((-1 : Int32)).toInt = -1 := by decide
    omega
  · rw [if_neg h, le_nI (by omega) (by omega)]
theorem hmr_l {c : Nat → Nat} {S : St} {T : Nat} (hb : CB c) (hT : T ≤ 2000) (hE : ∀ m, m < 32 → S.1 7 (m * 2 + 1) = eE (c m)) : ∀ (k d i : Nat), i + d = 32 → d < k → zl2 (m_X5_howManyRunning_B4 S (nI T)) k (nI (cntB (fun m => decide (T < c m)) i)) (nI i) = some (nI (rc c T)) := by
  intro k
  induction k with
  | zero => intro d i _ h; omega
  | succ k ih =>
    intro d i h1 h2
    show m_X5_howManyRunning_B4 S (nI T) (zl2 (m_X5_howManyRunning_B4 S (nI T)) k) (nI (cntB (fun m => decide (T < c m)) i)) (nI i) = _
    generalize zl2 (m_X5_howManyRunning_B4 S (nI T)) k = G at ih ⊢
    unfold m_X5_howManyRunning_B4
    simp only [nI_add, zb_e]
    match d, h1, h2 with
    | 0, h1, h2 =>
      rw [if_pos (by rw [le_nI (by omega) (by omega)]; omega)]
      have e : i = 32 := by omega
      subst e
      rfl
    | d + 1, h1, h2 =>
      rw [if_neg (by rw [le_nI (by omega) (by omega)]; omega), tg_7 (by omega) (by omega), zo_e, hE i (by omega)]
      have ih2 := ih d (i + 1) (by omega) (by omega)
      have e : cntB (fun m => decide (T < c m)) (i + 1) = cntB (fun m => decide (T < c m)) i + (if decide (T < c i) = true then 1 else 0) := rfl
      rw [e] at ih2
      have hle := eE_le (hb i) hT
      by_cases hc : c i ≤ T
      · rw [if_pos (hle.mpr hc)]
        rw [decide_eq_false (by omega), if_neg (by decide), Nat.add_zero] at ih2
        exact ih2
      · rw [if_neg (fun q => hc (hle.mp q))]
        rw [decide_eq_true (by omega), if_pos rfl] at ih2
        exact ih2
theorem hmr_v {c : Nat → Nat} {S : St} {T : Nat} (hb : CB c) (hT : T ≤ 2000) (hE : ∀ m, m < 32 → S.1 7 (m * 2 + 1) = eE (c m)) : m_X5_howManyRunning S (nI T) = some (nI (rc c T)) := hmr_l hb hT hE FU 32 0 (by omega) (FU_gt (by omega))
theorem cb30_l {E : Ev} {g : Gs} {rk : Nat → Nat} {n T m : Nat} {W : Nat → Option Nat} {c : Nat → Nat} {S0 S : St} (hX : TX E g rk n W) (hF : FreT E g (S0.1 (9 + 2 * 1))) (hS : CS W c S0 S) (hb : CB c) (hT : T ≤ 2000) (hm : m < 32) (hd : gDn g m = 3) : ∀ (k d j : Nat), j + d = 5 → d < k →
    ((∀ j2, j ≤ j2 → j2 < 5 → ∀ x, er g m j2 = some x → ¬ c x = 0 ∧ c x ≤ T) → zl1 (m_X5_canBegin_B30 S (nI m) (nI T)) k (nI j) = some (nI 1)) ∧
    (¬ (∀ j2, j ≤ j2 → j2 < 5 → ∀ x, er g m j2 = some x → ¬ c x = 0 ∧ c x ≤ T) → zl1 (m_X5_canBegin_B30 S (nI m) (nI T)) k (nI j) = some (nI 0)) := by
  intro k
  induction k with
  | zero => intro d j _ h; omega
  | succ k ih =>
    intro d j h1 h2
    show (_ → m_X5_canBegin_B30 S (nI m) (nI T) (zl1 (m_X5_canBegin_B30 S (nI m) (nI T)) k) (nI j) = _) ∧ (_ → m_X5_canBegin_B30 S (nI m) (nI T) (zl1 (m_X5_canBegin_B30 S (nI m) (nI T)) k) (nI j) = _)
    generalize zl1 (m_X5_canBegin_B30 S (nI m) (nI T)) k = G at ih ⊢
    unfold m_X5_canBegin_B30
    simp only [nI_add, zb_e]
    match d, h1, h2 with
    | 0, h1, h2 =>
      rw [if_pos (by rw [le_nI (by omega) (by omega)]; omega)]
      exact ⟨fun _ => rfl, fun q => absurd (fun j2 q1 q2 => by omega) q⟩
    | d + 1, h1, h2 =>
      have hF' : FreT E g (S.1 (9 + 2 * 1)) := by rw [hS.2.2 _ (by omega)]; exact hF
      obtain ⟨i1, i2⟩ := ih d (j + 1) (by omega) (by omega)
      rw [if_neg (by rw [le_nI (by omega) (by omega)]; omega), nra_v hX.1 hF' hm hd (by omega), zo_e]
      cases he : er g m j with
      | none =>
        rw [show eO none = -1 from rfl, if_pos rfl, if_pos (by rw [le_nI (by omega) (by omega)]; omega)]
        have tr : (∀ j2, j ≤ j2 → j2 < 5 → ∀ x, er g m j2 = some x → ¬ c x = 0 ∧ c x ≤ T) ↔ (∀ j2, j + 1 ≤ j2 → j2 < 5 → ∀ x, er g m j2 = some x → ¬ c x = 0 ∧ c x ≤ T) := ⟨fun q j2 q1 => q j2 (by omega), fun q j2 q1 q2 x q3 => by
          by_cases hj : j2 = j
          · subst hj; rw [he] at q3; cases q3
          · exact q j2 (by omega) q2 x q3⟩
        exact ⟨fun q => i1 (tr.mp q), fun q => i2 (fun z => q (tr.mpr z))⟩
      | some x =>
        obtain ⟨x1, x2, x3⟩ := (hX.1 m hm hd).2.2.2.2 x ⟨j, by omega, he⟩
        rw [show eO (some x) = nI x from rfl, if_neg (nI_n1 (by omega)), tg_7 x1 (by omega), zo_e, hS.2.1 x x1]
        have hcx := hb x
        by_cases h0 : c x = 0
        · rw [show eE (c x) = -1 by unfold eE; rw [if_pos h0], if_pos rfl]
          exact ⟨fun q => absurd h0 (q j (Nat.le_refl _) (by omega) x he).1, fun _ => rfl⟩
        · rw [show eE (c x) = nI (c x) by unfold eE; rw [if_neg h0], if_neg (nI_n1 (by omega))]
          by_cases hc : c x ≤ T
          · rw [if_pos (by rw [le_nI (by omega) (by omega)]; exact hc)]
            have tr : (∀ j2, j ≤ j2 → j2 < 5 → ∀ x, er g m j2 = some x → ¬ c x = 0 ∧ c x ≤ T) ↔ (∀ j2, j + 1 ≤ j2 → j2 < 5 → ∀ x, er g m j2 = some x → ¬ c x = 0 ∧ c x ≤ T) := ⟨fun q j2 q1 => q j2 (by omega), fun q j2 q1 q2 y q3 => by
              by_cases hj : j2 = j
              · subst hj; rw [he] at q3; cases q3; exact ⟨h0, hc⟩
              · exact q j2 (by omega) q2 y q3⟩
            exact ⟨fun q => i1 (tr.mp q), fun q => i2 (fun z => q (tr.mpr z))⟩
          · rw [if_neg (by rw [le_nI (by omega) (by omega)]; exact hc)]
            exact ⟨fun q => absurd (q j (Nat.le_refl _) (by omega) x he).2 hc, fun _ => rfl⟩
theorem cb_v {E : Ev} {g : Gs} {rk : Nat → Nat} {n T m : Nat} {W : Nat → Option Nat} {c : Nat → Nat} {S0 S : St} (hX : TX E g rk n W) (hF : FreT E g (S0.1 (9 + 2 * 1))) (hS : CS W c S0 S) (hb : CB c) (hT : T ≤ 2000) (hm : m < 32) : (canB g W c T m → m_X5_canBegin S (nI m) (nI T) = some (nI 1)) ∧ (¬ canB g W c T m → m_X5_canBegin S (nI m) (nI T) = some (nI 0)) := by
  unfold m_X5_canBegin
  rw [tg_7 hm (by omega), zo_e, hS.1 m hm, tg_7 hm (by omega), zo_e, hS.2.1 m hm]
  have hcm := hb m
  cases hw : W m with
  | none =>
    rw [show eO none = -1 from rfl, if_pos rfl]
    exact ⟨fun ⟨⟨v, q⟩, _⟩ => (by rw [hw] at q; cases q), fun _ => rfl⟩
  | some v =>
    have hv := hX.2.2.2.2.1 m v hm hw
    have hd := (hX.2.2.2.1 m hm).mpr ⟨v, hw⟩
    rw [show eO (some v) = nI v from rfl, if_neg (nI_n1 (by omega))]
    by_cases h0 : c m = 0
    · rw [show eE (c m) = -1 by unfold eE; rw [if_pos h0], if_pos rfl]
      obtain ⟨i1, i2⟩ := cb30_l hX hF hS hb hT hm hd FU 5 0 (by omega) (FU_gt (by omega))
      exact ⟨fun q => i1 (fun j2 _ q2 x q3 => q.2.2 x ⟨j2, q2, q3⟩), fun q => i2 (fun z => q ⟨⟨v, hw⟩, h0, fun x ⟨j2, q2, q3⟩ => z j2 (Nat.zero_le _) q2 x q3⟩)⟩
    · rw [show eE (c m) = nI (c m) by unfold eE; rw [if_neg h0], if_neg (nI_n1 (by omega))]
      exact ⟨fun q => absurd q.2.1 h0, fun _ => rfl⟩
def eW (W : Nat → Option Nat) : Option Nat → Int32
  | none => -1
  | some b => nI (wvo W b)
theorem bb_l {E : Ev} {g : Gs} {rk : Nat → Nat} {n T : Nat} {W : Nat → Option Nat} {c : Nat → Nat} {S0 S : St} (hX : TX E g rk n W) (hF : FreT E g (S0.1 (9 + 2 * 1))) (hS : CS W c S0 S) (hb : CB c) (hT : T ≤ 2000) : ∀ (k d i : Nat) (o : Option Nat), i + d = 32 → d < k → BSd g W c T i o →
    ∃ o2, zl3 (m_X5_bestToBegin_B7 S (nI T)) k (eO o) (eW W o) (nI i) = some (eO o2) ∧ BSd g W c T 32 o2 := by
  intro k
  induction k with
  | zero => intro d i o _ h; omega
  | succ k ih =>
    intro d i o h1 h2 h3
    show ∃ o2, m_X5_bestToBegin_B7 S (nI T) (zl3 (m_X5_bestToBegin_B7 S (nI T)) k) (eO o) (eW W o) (nI i) = _ ∧ _
    generalize zl3 (m_X5_bestToBegin_B7 S (nI T)) k = G at ih ⊢
    unfold m_X5_bestToBegin_B7 m_X5_bestToBegin_J52
    simp only [nI_add, zb_e]
    match d, h1, h2 with
    | 0, h1, h2 =>
      rw [if_pos (by rw [le_nI (by omega) (by omega)]; omega)]
      have e : i = 32 := by omega
      subst e
      exact ⟨o, rfl, h3⟩
    | d + 1, h1, h2 =>
      have hi : i < 32 := by omega
      obtain ⟨p1, p2⟩ := cb_v hX hF hS hb hT hi
      rw [if_neg (by rw [le_nI (by omega) (by omega)]; omega)]
      by_cases hc : canB g W c T i
      · obtain ⟨v, hv⟩ := hc.1
        have hvb := hX.2.2.2.2.1 i v hi hv
        have ewv : wvo W i = v := by unfold wvo; rw [hv]; rfl
        rw [p1 hc, zo_e, if_neg (by decide), tg_7 hi (by omega), zo_e, zo_e, hS.1 i hi, hv, show eO (some v) = nI v from rfl]
        have keepI : BSd g W c T (i + 1) (some i) → ∃ o2, G (nI i) (nI v) (nI (i + 1)) = some (eO o2) ∧ BSd g W c T 32 o2 := fun q => by
          have := ih d (i + 1) (some i) (by omega) (by omega) q
          have e : eW W (some i) = nI v := by show nI (wvo W i) = _; rw [ewv]
          rwa [e] at this
        rcases h3 with ⟨rfl, a⟩ | ⟨b, rfl, b1, b2, b3⟩
        · rw [show eW W none = -1 from rfl, if_neg (le_m1 (by omega))]
          refine keepI (Or.inr ⟨i, rfl, by omega, hc, fun m hm q => ?_⟩)
          by_cases hmi : m = i
          · subst hmi; exact ⟨Nat.le_refl _, fun _ => Nat.le_refl _⟩
          · exact absurd q (a m (by omega))
        · obtain ⟨u, hu⟩ := b2.1
          have hub := hX.2.2.2.2.1 b u (by omega) hu
          have ewb : wvo W b = u := by unfold wvo; rw [hu]; rfl
          rw [show eW W (some b) = nI u by show nI (wvo W b) = _; rw [ewb]]
          by_cases hle : v ≤ u
          · rw [if_pos (by rw [le_nI (by omega) (by omega)]; exact hle)]
            have := ih d (i + 1) (some b) (by omega) (by omega) (Or.inr ⟨b, rfl, by omega, b2, fun m hm q => by
              by_cases hmi : m = i
              · subst hmi; exact ⟨by omega, fun _ => by omega⟩
              · exact b3 m (by omega) q⟩)
            rwa [show eW W (some b) = nI u by show nI (wvo W b) = _; rw [ewb]] at this
          · rw [if_neg (by rw [le_nI (by omega) (by omega)]; exact hle)]
            refine keepI (Or.inr ⟨i, rfl, by omega, hc, fun m hm q => ?_⟩)
            by_cases hmi : m = i
            · subst hmi; exact ⟨Nat.le_refl _, fun _ => Nat.le_refl _⟩
            · have := (b3 m (by omega) q).1
              exact ⟨by omega, fun _ => by omega⟩
      · rw [p2 hc, zo_e, if_pos (by decide)]
        refine ih d (i + 1) o (by omega) (by omega) ?_
        rcases h3 with ⟨rfl, a⟩ | ⟨b, rfl, b1, b2, b3⟩
        · refine Or.inl ⟨rfl, fun m hm q => ?_⟩
          by_cases hmi : m = i
          · subst hmi; exact hc q
          · exact a m (by omega) q
        · refine Or.inr ⟨b, rfl, by omega, b2, fun m hm q => ?_⟩
          by_cases hmi : m = i
          · subst hmi; exact absurd q hc
          · exact b3 m (by omega) q
theorem bb_v {E : Ev} {g : Gs} {rk : Nat → Nat} {n T : Nat} {W : Nat → Option Nat} {c : Nat → Nat} {S0 S : St} (hX : TX E g rk n W) (hF : FreT E g (S0.1 (9 + 2 * 1))) (hS : CS W c S0 S) (hb : CB c) (hT : T ≤ 2000) : ∃ o2, m_X5_bestToBegin S (nI T) = some (eO o2) ∧ BSd g W c T 32 o2 :=
  bb_l hX hF hS hb hT FU 32 0 none (by omega) (FU_gt (by omega)) (Or.inl ⟨rfl, fun m hm => by omega⟩)
/-! the reference -/
def RS (c : Nat → Nat) (S0 S : St) : Prop := (∀ m, m < 32 → S.1 46 m = nI (c m)) ∧ FKn 46 S0 S
theorem ga_l {c : Nat → Nat} {S0 S : St} {T : Nat} (hb : CB c) (hT : T ≤ 2000) (hE : RS c S0 S) : ∀ (k d i : Nat), i + d = 32 → d < k → zl2 (m_X7_goingAt_B4 S (nI T)) k (nI (cntB (fun m => decide (T < c m)) i)) (nI i) = some (nI (rc c T)) := by
  intro k
  induction k with
  | zero => intro d i _ h; omega
  | succ k ih =>
    intro d i h1 h2
    show m_X7_goingAt_B4 S (nI T) (zl2 (m_X7_goingAt_B4 S (nI T)) k) (nI (cntB (fun m => decide (T < c m)) i)) (nI i) = _
    generalize zl2 (m_X7_goingAt_B4 S (nI T)) k = G at ih ⊢
    unfold m_X7_goingAt_B4
    simp only [nI_add, zb_e]
    match d, h1, h2 with
    | 0, h1, h2 =>
      rw [if_pos (by rw [le_nI (by omega) (by omega)]; omega)]
      have e : i = 32 := by omega
      subst e
      rfl
    | d + 1, h1, h2 =>
      have hci := hb i
      rw [if_neg (by rw [le_nI (by omega) (by omega)]; omega), zg_in (show i < 32 by omega) (by omega), ri_n (by omega), hE.1 i (by omega)]
      have ih2 := ih d (i + 1) (by omega) (by omega)
      have e : cntB (fun m => decide (T < c m)) (i + 1) = cntB (fun m => decide (T < c m)) i + (if decide (T < c i) = true then 1 else 0) := rfl
      rw [e] at ih2
      by_cases hc : c i ≤ T
      · rw [if_pos (by rw [le_nI (by omega) (by omega)]; exact hc)]
        rw [decide_eq_false (by omega), if_neg (by decide), Nat.add_zero] at ih2
        exact ih2
      · rw [if_neg (by rw [le_nI (by omega) (by omega)]; exact hc)]
        rw [decide_eq_true (by omega), if_pos rfl] at ih2
        exact ih2
theorem ga_v {c : Nat → Nat} {S0 S : St} {T : Nat} (hb : CB c) (hT : T ≤ 2000) (hE : RS c S0 S) : m_X7_goingAt S (nI T) = some (nI (rc c T)) := ga_l hb hT hE FU 32 0 (by omega) (FU_gt (by omega))
def finN (S : St) (j : Nat) (x1 : Int32) (rec5 : Int32 → Int32 → Option Int32) : Option Int32 :=
  if x1 = (-1) then rec5 (nI j) (nI j + (-1)) else zg (inb x1 32) (if S.1 45 j < ri S 45 x1 then rec5 x1 (nI j + (-1)) else rec5 (nI j) (nI j + (-1)))
theorem b38_f {S : St} {j T : Nat} {x1 : Int32} {rec5 : Int32 → Int32 → Option Int32} : ∀ (k d i : Nat), i + d = 32 → d < k → zl2 (m_X7_beginsNext_B38 (nI j) rec5 x1 S (nI T)) k (nI 0) (nI i) = rec5 x1 (nI j + (-1)) := by
  intro k
  induction k with
  | zero => intro d i _ h; omega
  | succ k ih =>
    intro d i h1 h2
    show m_X7_beginsNext_B38 (nI j) rec5 x1 S (nI T) (zl2 (m_X7_beginsNext_B38 (nI j) rec5 x1 S (nI T)) k) (nI 0) (nI i) = _
    generalize zl2 (m_X7_beginsNext_B38 (nI j) rec5 x1 S (nI T)) k = G at ih ⊢
    unfold m_X7_beginsNext_B38 m_X7_beginsNext_J127 m_X7_beginsNext_J123 m_X7_beginsNext_J128 m_X7_beginsNext_J89 m_X7_beginsNext_J85 m_X7_beginsNext_J90
    simp only [nI_add, zb_e]
    match d, h1, h2 with
    | 0, h1, h2 =>
      rw [if_pos (by rw [le_nI (by omega) (by omega)]; omega), if_pos (by decide)]
    | d + 1, h1, h2 =>
      rw [if_neg (by rw [le_nI (by omega) (by omega)]; omega), if_pos (by decide)]
      exact ih d (i + 1) (by omega) (by omega)
theorem b38_t {E : Ev} {g : Gs} {rk : Nat → Nat} {n T j : Nat} {W : Nat → Option Nat} {c : Nat → Nat} {S0 S : St} (hX : TX E g rk n W) (hG : RG E g S0) (hS : RS c S0 S) (hb : CB c) (hT : T ≤ 2000) (hj : j < 32) (hd : gDn g j = 3) {x1 : Int32} {rec5 : Int32 → Int32 → Option Int32} : ∀ (k d i : Nat), i + d = 32 → d < k →
    ((∀ x, i ≤ x → x < 32 → EDG g j x → ¬ c x = 0 ∧ c x ≤ T) → zl2 (m_X7_beginsNext_B38 (nI j) rec5 x1 S (nI T)) k (nI 1) (nI i) = finN S j x1 rec5) ∧
    (¬ (∀ x, i ≤ x → x < 32 → EDG g j x → ¬ c x = 0 ∧ c x ≤ T) → zl2 (m_X7_beginsNext_B38 (nI j) rec5 x1 S (nI T)) k (nI 1) (nI i) = rec5 x1 (nI j + (-1))) := by
  intro k
  induction k with
  | zero => intro d i _ h; omega
  | succ k ih =>
    intro d i h1 h2
    have hf := fun i d h1 h2 => b38_f (S := S) (j := j) (T := T) (x1 := x1) (rec5 := rec5) k d i h1 h2
    show (_ → m_X7_beginsNext_B38 (nI j) rec5 x1 S (nI T) (zl2 (m_X7_beginsNext_B38 (nI j) rec5 x1 S (nI T)) k) (nI 1) (nI i) = _) ∧ (_ → m_X7_beginsNext_B38 (nI j) rec5 x1 S (nI T) (zl2 (m_X7_beginsNext_B38 (nI j) rec5 x1 S (nI T)) k) (nI 1) (nI i) = _)
    generalize zl2 (m_X7_beginsNext_B38 (nI j) rec5 x1 S (nI T)) k = G at ih hf ⊢
    unfold m_X7_beginsNext_B38 m_X7_beginsNext_J127 m_X7_beginsNext_J123 m_X7_beginsNext_J128 m_X7_beginsNext_J89 m_X7_beginsNext_J85 m_X7_beginsNext_J90
    simp only [nI_add, zb_e]
    match d, h1, h2 with
    | 0, h1, h2 =>
      rw [if_pos (by rw [le_nI (by omega) (by omega)]; omega), if_neg (by decide), zg_in hj (by omega), ri_n (by omega)]
      exact ⟨fun _ => rfl, fun q => absurd (fun x q1 q2 => by omega) q⟩
    | d + 1, h1, h2 =>
      have hi : i < 32 := by omega
      obtain ⟨i1, i2⟩ := ih d (i + 1) (by omega) (by omega)
      have f0 := hf (i + 1) d (by omega) (by omega)
      obtain ⟨p1, p2⟩ := has_n (S := S) hi (hG.2.2 j hj hd)
      have hci := hb i
      rw [if_neg (by rw [le_nI (by omega) (by omega)]; omega), if_neg (by decide), zg_in hj (by omega), ri_n (by omega), hS.2.1 44 j (by omega), zg_in hi (by omega), zg_in hi (by omega), ri_n (by omega), hS.1 i hi]
      by_cases he : EDG g j i
      · rw [p1 he, zo_e, if_neg (by decide)]
        by_cases h0 : c i = 0
        · rw [if_pos (by rw [h0]; decide), f0]
          exact ⟨fun q => absurd h0 (q i (Nat.le_refl _) hi he).1, fun _ => rfl⟩
        · rw [if_neg (by rw [show (0 : Int32) = nI 0 from rfl, le_nI (by omega) (by omega)]; omega)]
          by_cases hc : c i ≤ T
          · rw [if_neg (by rw [lt_nI (by omega) (by omega)]; omega)]
            have tr : (∀ x, i ≤ x → x < 32 → EDG g j x → ¬ c x = 0 ∧ c x ≤ T) ↔ (∀ x, i + 1 ≤ x → x < 32 → EDG g j x → ¬ c x = 0 ∧ c x ≤ T) := ⟨fun q x q1 => q x (by omega), fun q x q1 q2 q3 => by
              by_cases hxi : x = i
              · subst hxi; exact ⟨h0, hc⟩
              · exact q x (by omega) q2 q3⟩
            exact ⟨fun q => i1 (tr.mp q), fun q => i2 (fun z => q (tr.mpr z))⟩
          · rw [if_pos (by rw [lt_nI (by omega) (by omega)]; omega), f0]
            exact ⟨fun q => absurd (q i (Nat.le_refl _) hi he).2 hc, fun _ => rfl⟩
      · rw [p2 he, zo_e, if_pos (by decide)]
        have tr : (∀ x, i ≤ x → x < 32 → EDG g j x → ¬ c x = 0 ∧ c x ≤ T) ↔ (∀ x, i + 1 ≤ x → x < 32 → EDG g j x → ¬ c x = 0 ∧ c x ≤ T) := ⟨fun q x q1 => q x (by omega), fun q x q1 q2 q3 => by
          by_cases hxi : x = i
          · subst hxi; exact absurd q3 he
          · exact q x (by omega) q2 q3⟩
        exact ⟨fun q => i1 (tr.mp q), fun q => i2 (fun z => q (tr.mpr z))⟩
theorem bn_l {E : Ev} {g : Gs} {rk : Nat → Nat} {n T : Nat} {W : Nat → Option Nat} {c : Nat → Nat} {S0 S : St} (hX : TX E g rk n W) (hG : RG E g S0) (hW : RW W S0) (hS : RS c S0 S) (hb : CB c) (hT : T ≤ 2000) : ∀ (j k : Nat) (o : Option Nat), j ≤ 32 → j < k → DSd g W c T j o →
    ∃ o2, zl2 (m_X7_beginsNext_B5 S (nI T)) k (eO o) (nI j + (-1)) = some (eO o2) ∧ DSd g W c T 0 o2
  | j, 0, o, _, h, _ => by omega
  | 0, k + 1, o, _, _, h3 => by
    show ∃ o2, m_X7_beginsNext_B5 S (nI T) (zl2 (m_X7_beginsNext_B5 S (nI T)) k) (eO o) (nI 0 + (-1)) = _ ∧ _
    generalize zl2 (m_X7_beginsNext_B5 S (nI T)) k = G
    unfold m_X7_beginsNext_B5
    rw [if_pos (by decide)]
    exact ⟨o, rfl, h3⟩
  | j + 1, k + 1, o, h1, h2, h3 => by
    have ih := fun o h3 => bn_l hX hG hW hS hb hT j k o (by omega) (by omega) h3
    have hj : j < 32 := by omega
    rw [nI_m1]
    show ∃ o2, m_X7_beginsNext_B5 S (nI T) (zl2 (m_X7_beginsNext_B5 S (nI T)) k) (eO o) (nI j) = _ ∧ _
    generalize zl2 (m_X7_beginsNext_B5 S (nI T)) k = G at ih ⊢
    unfold m_X7_beginsNext_B5 m_X7_beginsNext_J32 m_X7_beginsNext_J33
    rw [if_neg (nI_pos (by omega)), zg_in hj (by omega), zg_in hj (by omega), ri_n (by omega), ri_n (by omega), hS.2.1 29 j (by omega), hS.1 j hj]
    have hcj := hb j
    have skip : ¬ canB g W c T j → ∃ o2, G (eO o) (nI j + (-1)) = some (eO o2) ∧ DSd g W c T 0 o2 := fun hn => by
      refine ih o ?_
      rcases h3 with ⟨rfl, a⟩ | ⟨b, rfl, b0, b1, b2, b3⟩
      · refine Or.inl ⟨rfl, fun m q1 q2 q => ?_⟩
        by_cases hmj : m = j
        · subst hmj; exact hn q
        · exact a m (by omega) q2 q
      · refine Or.inr ⟨b, rfl, by omega, b1, b2, fun m q1 q2 q => ?_⟩
        by_cases hmj : m = j
        · subst hmj; exact absurd q hn
        · exact b3 m (by omega) q2 q
    have f0 : zl2 (m_X7_beginsNext_B38 (nI j) G (eO o) S (nI T)) FU (nI 0) (nI 0) = G (eO o) (nI j + (-1)) := b38_f FU 32 0 (by omega) (FU_gt (by omega))
    by_cases hd : gDn g j = 3
    · rw [if_pos ((hG.2.1 j hj).2.2.2 (by omega) (by omega)).1]
      obtain ⟨v, hv⟩ := (hX.2.2.2.1 j hj).mp hd
      have hvb := hX.2.2.2.2.1 j v hj hv
      have ewv : wvo W j = v := by unfold wvo; rw [hv]; rfl
      by_cases h0 : c j = 0
      · rw [if_pos (by rw [h0]; decide)]
        obtain ⟨t1, t2⟩ := b38_t hX hG hS hb hT hj hd (x1 := eO o) (rec5 := G) FU 32 0 (by omega) (FU_gt (by omega))
        have t1 : (∀ x, 0 ≤ x → x < 32 → EDG g j x → ¬ c x = 0 ∧ c x ≤ T) → zl2 (m_X7_beginsNext_B38 (nI j) G (eO o) S (nI T)) FU (nI 1) (nI 0) = finN S j (eO o) G := t1
        have t2 : ¬ (∀ x, 0 ≤ x → x < 32 → EDG g j x → ¬ c x = 0 ∧ c x ≤ T) → zl2 (m_X7_beginsNext_B38 (nI j) G (eO o) S (nI T)) FU (nI 1) (nI 0) = G (eO o) (nI j + (-1)) := t2
        by_cases hc : canB g W c T j
        · rw [t1 (fun x _ _ q => hc.2.2 x q)]
          unfold finN
          have takeJ : DSd g W c T j (some j) → ∃ o2, G (nI j) (nI j + (-1)) = some (eO o2) ∧ DSd g W c T 0 o2 := fun q => ih (some j) q
          rcases h3 with ⟨rfl, a⟩ | ⟨b, rfl, b0, b1, b2, b3⟩
          · rw [show eO none = -1 from rfl, if_pos rfl]
            refine takeJ (Or.inr ⟨j, rfl, Nat.le_refl _, hj, hc, fun m q1 q2 q => ?_⟩)
            by_cases hmj : m = j
            · subst hmj; exact ⟨Nat.le_refl _, fun _ => Nat.le_refl _⟩
            · exact absurd q (a m (by omega) q2)
          · obtain ⟨u, hu⟩ := b2.1
            have hub := hX.2.2.2.2.1 b u b1 hu
            have ewb : wvo W b = u := by unfold wvo; rw [hu]; rfl
            rw [show eO (some b) = nI b from rfl, if_neg (nI_n1 (by omega)), zg_in b1 (by omega), ri_n (by omega), hS.2.1 45 j (by omega), hS.2.1 45 b (by omega), hW j hj, hW b b1, hv, hu, show zO (some v) = nI v from rfl, show zO (some u) = nI u from rfl]
            by_cases hlt : v < u
            · rw [if_pos (by rw [lt_nI (by omega) (by omega)]; exact hlt)]
              refine ih (some b) (Or.inr ⟨b, rfl, by omega, b1, b2, fun m q1 q2 q => ?_⟩)
              by_cases hmj : m = j
              · subst hmj; exact ⟨by omega, fun _ => by omega⟩
              · exact b3 m (by omega) q2 q
            · rw [if_neg (by rw [lt_nI (by omega) (by omega)]; exact hlt)]
              refine takeJ (Or.inr ⟨j, rfl, Nat.le_refl _, hj, hc, fun m q1 q2 q => ?_⟩)
              by_cases hmj : m = j
              · subst hmj; exact ⟨Nat.le_refl _, fun _ => Nat.le_refl _⟩
              · have := (b3 m (by omega) q2 q).1
                exact ⟨by omega, fun _ => by omega⟩
        · rw [t2 (fun z => hc ⟨⟨v, hv⟩, h0, fun x q => z x (Nat.zero_le _) ((hX.1 j hj hd).2.2.2.2 x q).1 q⟩)]
          exact skip hc
      · rw [if_neg (by rw [eq0_nI (by omega)]; exact h0), f0]
        exact skip (fun q => h0 q.2.1)
    · have h29 : ¬ S0.1 29 j = nI 2 := by
        rcases hX.2.2.2.2.2 j with q | q | q
        · rw [(hG.2.1 j hj).2.1 q]; decide
        · exact absurd q hd
        · rw [(hG.2.1 j hj).2.2.1 q]; decide
      rw [if_neg h29, f0]
      exact skip (fun q => hd ((hX.2.2.2.1 j hj).mpr q.1))
theorem bn_v {E : Ev} {g : Gs} {rk : Nat → Nat} {n T : Nat} {W : Nat → Option Nat} {c : Nat → Nat} {S0 S : St} (hX : TX E g rk n W) (hG : RG E g S0) (hW : RW W S0) (hS : RS c S0 S) (hb : CB c) (hT : T ≤ 2000) : ∃ o2, m_X7_beginsNext S (nI T) = some (eO o2) ∧ BSd g W c T 32 o2 := by
  obtain ⟨o2, a1, a2⟩ := bn_l hX hG hW hS hb hT 32 FU none (Nat.le_refl _) (FU_gt (by omega)) (Or.inl ⟨rfl, fun m q1 q2 => by omega⟩)
  refine ⟨o2, ?_, DSd_B a2⟩
  have e31 : nI 31 = nI 32 + (-1) := by decide
  unfold m_X7_beginsNext
  rw [e31]
  exact a1
