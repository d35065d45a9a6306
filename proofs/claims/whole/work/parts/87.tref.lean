/-! the reference: who needs whom -/
def SEn (x : Int32) (P : Nat → Prop) : Prop := ∀ i, i < 32 → (bt x i = true ↔ P i)
theorem SEn_if {x : Int32} {P Q : Nat → Prop} (h : SEn x P) (e : ∀ i, i < 32 → (P i ↔ Q i)) : SEn x Q := fun i hi => (h i hi).trans (e i hi)
theorem SEn_0 : SEn (nI 0) (fun _ => False) := fun i hi => by
  rw [show bt (nI 0) i = false from b_0 i]
  exact ⟨fun q => (by cases q), fun q => q.elim⟩
theorem SEn_add {x : Int32} {P : Nat → Prop} {k : Nat} (h : SEn x P) (hk : k < 32) : SEn (x ||| (nI 1 <<< (nI k &&& 31))) (fun i => P i ∨ i = k) := fun i hi => by
  rw [b_or, Bool.or_eq_true, h i hi, b_shl k hk _ hi, b_one, Bool.and_eq_true, decide_eq_true_iff, decide_eq_true_iff]
  exact ⟨fun q => q.elim Or.inl (fun z => Or.inr (by omega)), fun q => q.elim Or.inl (fun z => Or.inr (by omega))⟩
theorem has_n {S : St} {x : Int32} {k : Nat} {P : Nat → Prop} (hk : k < 32) (h : SEn x P) : (P k → m_X7_has S x (nI k) = some (nI 1)) ∧ (¬ P k → m_X7_has S x (nI k) = some (nI 0)) := by
  have hb := shr_bit (x := x) (k := k) hk
  rw [h k hk] at hb
  unfold m_X7_has
  exact ⟨fun q => if_pos (hb.mpr q), fun q => if_neg (fun z => q (hb.mp z))⟩
def FKn (t : Nat) (S0 S : St) : Prop := (∀ k i, ¬ k = t → S.1 k i = S0.1 k i) ∧ S.2 = S0.2
theorem FKn_rf {t : Nat} {S : St} : FKn t S S := ⟨fun _ _ _ => rfl, rfl⟩
theorem FKn_wi {t : Nat} {S0 S : St} {i : Nat} {v : Int32} (h : FKn t S0 S) : FKn t S0 (wi S t i v) := ⟨fun k j q => by rw [wi_ne (by omega)]; exact h.1 k j q, h.2⟩
theorem FKn_tr {t : Nat} {S0 S1 S2 : St} (h1 : FKn t S0 S1) (h2 : FKn t S1 S2) : FKn t S0 S2 := ⟨fun k j q => (h2.1 k j q).trans (h1.1 k j q), h2.2.trans h1.2⟩
theorem ln17_l {E : Ev} {g : Gs} {rk : Nat → Nat} {S0 : St} (hT : TDO E g rk) (hR : RrT (eρ E) S0) (hL : LoR g S0) (hZ : ReR g S0) {m : Nat} (hm : m < 32) (hd : gDn g m = 3) {rec2 : St → Int32 → Option St} : ∀ (k d j : Nat) (S : St), j + d = (gRd g m).length → d < k → FKn 44 S0 S → SEn (S.1 44 m) (fun y => ∃ j2, j2 < j ∧ er g m j2 = some y) →
    ∃ S', zl2 (m_X7_laysNeeded_B17 (nI m) rec2) k S (nI j) = rec2 S' (nI (m + 1)) ∧ FKn 44 S S' ∧ (∀ i, ¬ i = m → S'.1 44 i = S.1 44 i) ∧ SEn (S'.1 44 m) (EDG g m) := by
  intro k
  obtain ⟨z1, z2, z3⟩ := hZ m hm hd
  obtain ⟨-, -, -, ⟨r, r1, r2, r3⟩, -⟩ := hT m hm hd
  have hM := (hR (m / 2) (by omega)).2 r r1
  have l29 := (hL m hm).2.2.2 (by omega) (by omega)
  induction k with
  | zero => intro d j S _ h; omega
  | succ k ih =>
    intro d j S h1 h2 h3 h4
    show ∃ S', m_X7_laysNeeded_B17 (nI m) rec2 (zl2 (m_X7_laysNeeded_B17 (nI m) rec2) k) S (nI j) = _ ∧ _
    generalize zl2 (m_X7_laysNeeded_B17 (nI m) rec2) k = G at ih ⊢
    unfold m_X7_laysNeeded_B17 m_X7_laysNeeded_J126 m_X7_laysNeeded_J77 m_X7_laysNeeded_J78 m_X7_laysNeeded_J118
    simp only [nI_add, zb_e, pk_mul]
    rw [zg_in hm (by omega), ri_n (by omega), h3.1 38 m (by omega), z2]
    match d, h1, h2 with
    | 0, h1, h2 =>
      rw [if_pos (by rw [le_nI (by omega) (by omega)]; omega)]
      refine ⟨S, rfl, FKn_rf, fun _ _ => rfl, SEn_if h4 (fun y hy => ⟨fun ⟨j2, q1, q2⟩ => ⟨j2, by omega, q2⟩, fun ⟨j2, q1, q2⟩ => ⟨j2, ?_, q2⟩⟩)⟩
      refine Classical.byContradiction (fun q => ?_)
      unfold er at q2
      rw [List.getElem?_eq_none (by omega)] at q2
      cases q2
    | d + 1, h1, h2 =>
      have hj : j < (gRd g m).length := by omega
      obtain ⟨x, hx⟩ : ∃ x, (gRd g m)[j]? = some x := ⟨_, List.getElem?_eq_getElem hj⟩
      have hmem := List.mem_of_getElem? hx
      have e39 := z3 j x hx
      have her : er g m j = if x.2.1 = 2 ∨ x.2.1 = 3 then some (nR m x.2.1 x.2.2.1) else none := by
        unfold er; rw [hx]
      rw [if_neg (by rw [le_nI (by omega) (by omega)]; omega), zg_in hm (by omega), ri_n (by omega), h3.1 29 m (by omega), l29.1, if_pos rfl, zg_in (show 5 * m + j < 160 by omega) (by omega), ri_n (by omega), h3.1 39 _ (by omega), e39, div_nI (by omega) (by omega) (by omega), pk_mul, nI_add, zg_in hm (by omega), zg_in hm (by omega), zg_in hm (by omega), tn (by omega), ri_n (by omega)]
      have next : ∀ v, SEn v (fun y => ∃ j2, j2 < j + 1 ∧ er g m j2 = some y) → ∃ S', G (wi S 44 m v) (nI (j + 1)) = rec2 S' (nI (m + 1)) ∧ FKn 44 S S' ∧ (∀ i, ¬ i = m → S'.1 44 i = S.1 44 i) ∧ SEn (S'.1 44 m) (EDG g m) := fun v hv => by
        obtain ⟨S', a1, a2, a3, a4⟩ := ih d (j + 1) (wi S 44 m v) (by omega) (by omega) (FKn_wi h3) (by rw [wi_at]; exact hv)
        exact ⟨S', a1, FKn_tr (FKn_wi FKn_rf) a2, fun i hi => by rw [a3 i hi, wi_ne (by omega)], a4⟩
      have same : er g m j = none → SEn (S.1 44 m ||| nI 0) (fun y => ∃ j2, j2 < j + 1 ∧ er g m j2 = some y) := fun hn => by
        rw [show S.1 44 m ||| nI 0 = S.1 44 m from Int32.or_zero]
        refine SEn_if h4 (fun y _ => ⟨fun ⟨j2, q1, q2⟩ => ⟨j2, by omega, q2⟩, fun ⟨j2, q1, q2⟩ => ⟨j2, ?_, q2⟩⟩)
        refine Classical.byContradiction (fun q => ?_)
        rw [show j2 = j by omega, hn] at q2
        cases q2
      rcases WFr_slot r2 r3 x hmem with q | q
      · obtain ⟨q1, q2⟩ : x.1 < 4 ∧ x.2.1 < 4 := ⟨q.1, q.2.2.1⟩
        obtain ⟨m6, m7⟩ := hM.2.2.2.2.2 x.1 _ q.2.1
        have m6 : S0.1 6 (4 * (m / 2) + x.1) = nI x.2.1 := m6
        have m7 : S0.1 7 (4 * (m / 2) + x.1) = nI x.2.2.1 := m7
        rw [if_neg (by rw [le_nI (by omega) (by omega)]; omega), zg_in (show 4 * (m / 2) + x.1 < 64 by omega) (by omega), zg_in (show 4 * (m / 2) + x.1 < 64 by omega) (by omega), zg_in (show 4 * (m / 2) + x.1 < 64 by omega) (by omega), ri_n (by omega), ri_n (by omega), h3.1 6 _ (by omega), h3.1 7 _ (by omega), m6, m7]
        by_cases hk : x.2.1 ≤ 1
        · rw [if_pos (by rw [le_nI (by omega) (by omega)]; exact hk), if_pos (by decide)]
          exact next _ (same (by rw [her, if_neg (by omega)]))
        · have hlt : nR m x.2.1 x.2.2.1 < 32 := by
            have := q.2.2.2
            rw [lim_16 (by omega) (by omega)] at this
            exact nR_lt this
          rw [if_neg (by rw [le_nI (by omega) (by omega)]; exact hk), if_neg (by decide), rnode_v hm (by omega), zo_e, zg_in hm (by omega)]
          refine next _ (SEn_if (SEn_add h4 hlt) (fun y _ => ⟨fun z => ?_, fun ⟨j2, y1, y2⟩ => ?_⟩))
          · rcases z with ⟨j2, y1, y2⟩ | z
            · exact ⟨j2, by omega, y2⟩
            · exact ⟨j, by omega, by rw [her, if_pos (by omega), z]⟩
          · by_cases hjj : j2 = j
            · subst hjj
              rw [her, if_pos (by omega)] at y2
              cases y2
              exact Or.inr rfl
            · exact Or.inl ⟨j2, by omega, y2⟩
      · rw [if_pos (by rw [q.1]; decide), if_pos (by decide)]
        exact next _ (same (by rw [her, if_neg (by omega)]))
theorem ln_l {E : Ev} {g : Gs} {rk : Nat → Nat} {S0 : St} (hT : TDO E g rk) (hN : N4 g) (hR : RrT (eρ E) S0) (hL : LoR g S0) (hZ : ReR g S0) : ∀ (k d m : Nat) (S : St), m + d = 32 → d < k → FKn 44 S0 S → (∀ i, i < m → gDn g i = 3 → SEn (S.1 44 i) (EDG g i)) →
    ∃ S', zl2 m_X7_laysNeeded_B2 k S (nI m) = some S' ∧ FKn 44 S0 S' ∧ ∀ i, i < 32 → gDn g i = 3 → SEn (S'.1 44 i) (EDG g i) := by
  intro k
  induction k with
  | zero => intro d m S _ h; omega
  | succ k ih =>
    intro d m S h1 h2 h3 h4
    show ∃ S', m_X7_laysNeeded_B2 (zl2 m_X7_laysNeeded_B2 k) S (nI m) = _ ∧ _
    generalize zl2 m_X7_laysNeeded_B2 k = G at ih ⊢
    unfold m_X7_laysNeeded_B2
    match d, h1, h2 with
    | 0, h1, h2 =>
      rw [if_pos (by rw [le_nI (by omega) (by omega)]; omega)]
      exact ⟨S, rfl, h3, fun i hi => h4 i (by omega)⟩
    | d + 1, h1, h2 =>
      have hm : m < 32 := by omega
      rw [if_neg (by rw [le_nI (by omega) (by omega)]; omega), zg_in hm (by omega), tn (by omega), zb_e]
      by_cases hd : gDn g m = 3
      · obtain ⟨S', a1, a2, a3, a4⟩ := ln17_l hT hR hL hZ hm hd (rec2 := G) FU (gRd g m).length 0 (wi S 44 m (nI 0)) (by omega) (FU_gt (by have := (hZ m hm hd).1; omega)) (FKn_wi h3) (by rw [wi_at]; exact SEn_if SEn_0 (fun y _ => ⟨False.elim, fun ⟨j2, q, _⟩ => by omega⟩))
        rw [a1]
        refine ih d (m + 1) S' (by omega) (by omega) (FKn_tr (FKn_wi h3) a2) (fun i hi hdi => ?_)
        by_cases him : i = m
        · subst him; exact a4
        · rw [a3 i him, wi_ne (by omega)]; exact h4 i (by omega) hdi
      · have e : zl2 (m_X7_laysNeeded_B17 (nI m) G) FU (wi S 44 m (nI 0)) (nI 0) = G (wi S 44 m (nI 0)) (nI (m + 1)) := by
          show m_X7_laysNeeded_B17 (nI m) G (zl2 (m_X7_laysNeeded_B17 (nI m) G) 8191) (wi S 44 m (nI 0)) (nI 0) = _
          generalize zl2 (m_X7_laysNeeded_B17 (nI m) G) 8191 = H
          unfold m_X7_laysNeeded_B17 m_X7_laysNeeded_J126
          simp only [nI_add, zb_e]
          rw [zg_in hm (by omega), zg_in hm (by omega)]
          have h29 : ¬ ri (wi S 44 m (nI 0)) 29 (nI m) = nI 2 := by
            rw [ri_n (by omega), wi_ne (by omega), h3.1 29 m (by omega)]
            have hl := hL m hm
            rcases hN m with q | q | q
            · rw [hl.2.1 q]; decide
            · exact absurd q hd
            · rw [hl.2.2.1 q]; decide
          rw [if_neg h29]
          split <;> rfl
        rw [e]
        refine ih d (m + 1) _ (by omega) (by omega) (FKn_wi h3) (fun i hi hdi => ?_)
        have him : ¬ i = m := fun q => by subst q; exact hd hdi
        rw [wi_ne (by omega)]; exact h4 i (by omega) hdi
/-! the reference: the longest ways -/
def zO : Option Nat → Int32
  | none => nI 0
  | some v => nI v
def RW (W : Nat → Option Nat) (S : St) : Prop := ∀ m, m < 32 → S.1 45 m = zO (W m)
theorem RW_same {W : Nat → Option Nat} {S : St} (h : RW W S) {x : Nat} : RW W (wi S 45 x (S.1 45 x)) := fun m hm => by
  by_cases hx : m = x
  · subst hx; rw [wi_at]; exact h m hm
  · rw [wi_ne (by omega)]; exact h m hm
theorem RW_set {W : Nat → Option Nat} {S : St} (h : RW W S) {x v : Nat} : RW (fu W x (some v)) (wi S 45 x (nI v)) := fun m hm => by
  by_cases hx : m = x
  · subst hx; rw [wi_at, fu_s]; rfl
  · rw [wi_ne (by omega), fu_n hx]; exact h m hm
def RG (E : Ev) (g : Gs) (S : St) : Prop := RrT (eρ E) S ∧ LoR g S ∧ ∀ i, i < 32 → gDn g i = 3 → SEn (S.1 44 i) (EDG g i)
theorem rt_v {E : Ev} {g : Gs} {rk : Nat → Nat} {S : St} (hT : TDO E g rk) (h : RG E g S) {x : Nat} (hx : x < 32) (hd : gDn g x = 3) : S.1 4 (x / 2) = nI (tv E x) := by
  obtain ⟨-, -, -, ⟨r, r1, -⟩, -⟩ := hT x hx hd
  rw [((h.1 (x / 2) (by omega)).2 r r1).2.2.2.1]
  unfold tv
  rw [r1]
theorem ll56_l {E : Ev} {g : Gs} {rk : Nat → Nat} {S0 : St} {n x : Nat} (hT : TDO E g rk) (hN : N4 g) (hG : RG E g S0) (hn : n < 32) (hd : gDn g n = 3) (hx : x < 32) {W0 : Nat → Option Nat} {rec47 : St → Int32 → Option St} : ∀ (k d m : Nat) (W : Nat → Option Nat) (S : St), m + d = 32 → d < k → RW W S → FKn 45 S0 S → SdW E g n W → MoW W0 W → (∀ m2, m2 < m → EDG g m2 x → ∀ L, geW W0 m2 L → geW W x (L + tv E x)) →
    ∃ W' S', zl2 (m_X7_laysLongest_B56 (nI x) rec47) k S (nI m) = rec47 S' (nI (x + 1)) ∧ RW W' S' ∧ FKn 45 S0 S' ∧ SdW E g n W' ∧ MoW W W' ∧ ∀ m2, m2 < 32 → EDG g m2 x → ∀ L, geW W0 m2 L → geW W' x (L + tv E x) := by
  intro k
  induction k with
  | zero => intro d m W S _ h; omega
  | succ k ih =>
    intro d m W S h1 h2 h3 h4 h5 h6 h8
    show ∃ W' S', m_X7_laysLongest_B56 (nI x) rec47 (zl2 (m_X7_laysLongest_B56 (nI x) rec47) k) S (nI m) = _ ∧ _
    generalize zl2 (m_X7_laysLongest_B56 (nI x) rec47) k = G at ih ⊢
    unfold m_X7_laysLongest_B56 m_X7_laysLongest_J102 m_X7_laysLongest_J103 m_X7_laysLongest_J149 m_X7_laysLongest_J155
    simp only [nI_add, zb_e]
    match d, h1, h2 with
    | 0, h1, h2 =>
      rw [if_pos (by rw [le_nI (by omega) (by omega)]; omega)]
      exact ⟨W, S, rfl, h3, h4, h5, MoW_rf, fun m2 q => h8 m2 (by omega)⟩
    | d + 1, h1, h2 =>
      have hm : m < 32 := by omega
      have stay : (EDG g m x → ∀ L, geW W0 m L → geW W x (L + tv E x)) → ∃ W' S', G (wi S 45 x (S.1 45 x)) (nI (m + 1)) = rec47 S' (nI (x + 1)) ∧ RW W' S' ∧ FKn 45 S0 S' ∧ SdW E g n W' ∧ MoW W W' ∧ ∀ m2, m2 < 32 → EDG g m2 x → ∀ L, geW W0 m2 L → geW W' x (L + tv E x) := fun hr =>
        ih d (m + 1) W _ (by omega) (by omega) (RW_same h3) (FKn_wi h4) h5 h6 (fun m2 q => by
          by_cases hmm : m2 = m
          · subst hmm; exact hr
          · exact h8 m2 (by omega))
      rw [if_neg (by rw [le_nI (by omega) (by omega)]; omega), div_nI (by omega) (by omega) (by omega)]
      simp only [zg_in hm (show (32 : Nat) ≤ 2147483648 by omega), zg_in hx (show (32 : Nat) ≤ 2147483648 by omega), zg_in (show x / 2 < 16 by omega) (show (16 : Nat) ≤ 2147483648 by omega)]
      rw [ri_n (show m < 2147483648 by omega), ri_n (show m < 2147483648 by omega), ri_n (show m < 2147483648 by omega), ri_n (show x < 2147483648 by omega), ri_n (show x / 2 < 2147483648 by omega), tn (by omega), h4.1 29 m (by omega), h4.1 44 m (by omega), h4.1 4 _ (by omega)]
      have hl := hG.2.1 m hm
      by_cases hdm : gDn g m = 3
      · obtain ⟨p1, p2⟩ := has_n (S := S) hx (hG.2.2 m hm hdm)
        rw [if_pos (hl.2.2.2 (by omega) (by omega)).1]
        by_cases he : EDG g m x
        · obtain ⟨x1, x2, x3⟩ := (hT m hm hdm).2.2.2.2 x he
          obtain ⟨-, t1, t2, -⟩ := hT x x1 x2
          rw [p1 he, zo_e, if_neg (by decide), h3 m hm, h3 x hx, rt_v hT hG x1 x2]
          cases hw : W m with
          | none =>
            rw [show zO none = nI 0 from rfl, if_pos (by decide), if_pos (by decide), ← h3 x hx]
            exact stay (fun _ L hL => by
              obtain ⟨v, v1, -⟩ := h6 m L hL
              rw [hw] at v1; cases v1)
          | some Lm =>
            obtain ⟨-, -, b1, b2⟩ := PA_ok hT hn hd (h5 m Lm hm hw)
            have n0 : ¬ nI Lm ≤ 0 := by
              have : (nI Lm ≤ nI 0) = (Lm ≤ 0) := le_nI (by omega) (by omega)
              rw [show (0 : Int32) = nI 0 from rfl, this]; omega
            rw [show zO (some Lm) = nI Lm from rfl, if_neg n0, if_neg (by decide), nI_add]
            have hcmp : (nI (Lm + tv E x) ≤ zO (W x)) ↔ geW W x (Lm + tv E x) := by
              cases hxw : W x with
              | none =>
                rw [show zO none = nI 0 from rfl, le_nI (by omega) (by omega)]
                exact ⟨fun q => by omega, fun ⟨v, v1, _⟩ => by rw [hxw] at v1; cases v1⟩
              | some v =>
                have hv := (PA_ok hT hn hd (h5 x v x1 hxw)).2.2.1
                rw [show zO (some v) = nI v from rfl, le_nI (by omega) (by omega)]
                exact ⟨fun q => ⟨v, hxw, q⟩, fun ⟨u, u1, u2⟩ => by rw [hxw] at u1; cases u1; exact u2⟩
            by_cases hge : geW W x (Lm + tv E x)
            · rw [if_pos (hcmp.mpr hge), ← h3 x hx]
              refine stay (fun _ L hL => ?_)
              obtain ⟨u, u1, u2⟩ := h6 m L hL
              rw [hw] at u1
              cases u1
              obtain ⟨v, v1, v2⟩ := hge
              exact ⟨v, v1, by omega⟩
            · rw [if_neg (fun q => hge (hcmp.mp q))]
              obtain ⟨r1, r2, r3⟩ := rlx h5 hm hw he hge
              obtain ⟨W', S', y1, y2, y3, y4, y5, y6⟩ := ih d (m + 1) _ _ (by omega) (by omega) (RW_set h3 (x := x) (v := Lm + tv E x)) (FKn_wi h4) r1 (MoW_tr h6 r2) (fun m2 q q2 L hL => by
                by_cases hmm : m2 = m
                · subst hmm
                  obtain ⟨u, u1, u2⟩ := h6 m2 L hL
                  rw [hw] at u1
                  cases u1
                  obtain ⟨v, v1, v2⟩ := r3
                  exact ⟨v, v1, by omega⟩
                · exact r2 x _ (h8 m2 (by omega) q2 L hL))
              exact ⟨W', S', y1, y2, y3, y4, MoW_tr r2 y5, y6⟩
        · rw [p2 he, zo_e, if_pos (by decide), if_pos (by decide)]
          exact stay (fun q => absurd q he)
      · have h29 : ¬ S0.1 29 m = nI 2 := by
          rcases hN m with q | q | q
          · rw [hl.2.1 q]; decide
          · exact absurd q hdm
          · rw [hl.2.2.1 q]; decide
        rw [if_neg h29, if_pos (by decide)]
        refine stay (fun _ L hL => ?_)
        obtain ⟨v, v1, -⟩ := h6 m L hL
        exact absurd (PA_ok hT hn hd (h5 m v hm v1)).2.1 hdm
theorem ll47_l {E : Ev} {g : Gs} {rk : Nat → Nat} {S0 : St} {n : Nat} (hT : TDO E g rk) (hN : N4 g) (hG : RG E g S0) (hn : n < 32) (hd : gDn g n = 3) {W0 : Nat → Option Nat} {x4 : Int32} {rec39 : St → Int32 → Option St} : ∀ (k d x : Nat) (W : Nat → Option Nat) (S : St), x + d = 32 → d < k → RW W S → FKn 45 S0 S → SdW E g n W → MoW W0 W → (∀ x2 m2, x2 < x → m2 < 32 → EDG g m2 x2 → ∀ L, geW W0 m2 L → geW W x2 (L + tv E x2)) →
    ∃ W' S', zl2 (m_X7_laysLongest_B47 x4 rec39) k S (nI x) = rec39 S' (x4 + nI 1) ∧ RW W' S' ∧ FKn 45 S0 S' ∧ SdW E g n W' ∧ MoW W0 W' ∧ CLW E g W0 W' := by
  intro k
  induction k with
  | zero => intro d x W S _ h; omega
  | succ k ih =>
    intro d x W S h1 h2 h3 h4 h5 h6 h8
    show ∃ W' S', m_X7_laysLongest_B47 x4 rec39 (zl2 (m_X7_laysLongest_B47 x4 rec39) k) S (nI x) = _ ∧ _
    generalize zl2 (m_X7_laysLongest_B47 x4 rec39) k = G at ih ⊢
    unfold m_X7_laysLongest_B47
    match d, h1, h2 with
    | 0, h1, h2 =>
      rw [if_pos (by rw [le_nI (by omega) (by omega)]; omega), zb_e]
      exact ⟨W, S, rfl, h3, h4, h5, h6, fun m2 x2 q1 q2 L hL => by
        by_cases hx2 : x2 < x
        · exact h8 x2 m2 hx2 q1 q2 L hL
        · obtain ⟨v, v1, v2⟩ := h6 m2 L hL
          have := (PA_ok hT hn hd (h5 m2 v q1 v1)).2.1
          have := ((hT m2 q1 this).2.2.2.2 x2 q2).1
          omega⟩
    | d + 1, h1, h2 =>
      rw [if_neg (by rw [le_nI (by omega) (by omega)]; omega)]
      obtain ⟨W', S', y1, y2, y3, y4, y5, y6⟩ := ll56_l hT hN hG hn hd (x := x) (by omega) (W0 := W0) (rec47 := G) FU 32 0 W S (by omega) (FU_gt (by omega)) h3 h4 h5 h6 (fun m2 q => by omega)
      have y1 : zl2 (m_X7_laysLongest_B56 (nI x) G) FU S (nI 0) = _ := y1
      rw [y1]
      exact ih d (x + 1) W' S' (by omega) (by omega) y2 y3 y4 (MoW_tr h6 y5) (fun x2 m2 q1 q2 q3 L hL => by
        by_cases hxx : x2 = x
        · subst hxx; exact y6 m2 q2 q3 L hL
        · exact y5 x2 _ (h8 x2 m2 (by omega) q2 q3 L hL))
theorem ll39_l {E : Ev} {g : Gs} {rk : Nat → Nat} {S0 : St} {n : Nat} (hT : TDO E g rk) (hN : N4 g) (hG : RG E g S0) (hn : n < 32) (hd : gDn g n = 3) : ∀ (k d i : Nat) (W : Nat → Option Nat) (S : St), i + d = 32 → d < k → RW W S → FKn 45 S0 S → SdW E g n W → FKW E g n i W →
    ∃ W' S', zl2 m_X7_laysLongest_B39 k S (nI i) = some S' ∧ RW W' S' ∧ FKn 45 S0 S' ∧ SdW E g n W' ∧ CPW E g n W' := by
  intro k
  induction k with
  | zero => intro d i W S _ h; omega
  | succ k ih =>
    intro d i W S h1 h2 h3 h4 h5 h6
    show ∃ W' S', m_X7_laysLongest_B39 (zl2 m_X7_laysLongest_B39 k) S (nI i) = _ ∧ _
    generalize zl2 m_X7_laysLongest_B39 k = G at ih ⊢
    unfold m_X7_laysLongest_B39
    match d, h1, h2 with
    | 0, h1, h2 =>
      rw [if_pos (by rw [le_nI (by omega) (by omega)]; omega)]
      exact ⟨W, S, rfl, h3, h4, h5, FKW_31 hT hn hd (by omega) h6⟩
    | d + 1, h1, h2 =>
      rw [if_neg (by rw [le_nI (by omega) (by omega)]; omega)]
      obtain ⟨W', S', y1, y2, y3, y4, y5, y6⟩ := ll47_l hT hN hG hn hd (W0 := W) (x4 := nI i) (rec39 := G) FU 32 0 W S (by omega) (FU_gt (by omega)) h3 h4 h5 MoW_rf (fun x2 m2 q => by omega)
      have y1 : zl2 (m_X7_laysLongest_B47 (nI i) G) FU S (nI 0) = _ := y1
      rw [y1, nI_add]
      exact ih d (i + 1) W' S' (by omega) (by omega) y2 y3 y4 (FKW_s h6 y5 y6)
theorem ll2_l {E : Ev} {g : Gs} {rk : Nat → Nat} {S0 : St} {n : Nat} (hT : TDO E g rk) (hN : N4 g) (hG : RG E g S0) (hn : n < 32) (hd : gDn g n = 3) : ∀ (k d i : Nat) (S : St), i + d = 32 → d < k → FKn 45 S0 S → (∀ m, m < i → S.1 45 m = zO (fu (fun _ => none) n (some (tv E n)) m)) →
    ∃ W' S', zl2 (m_X7_laysLongest_B2 (nI n)) k S (nI i) = some S' ∧ RW W' S' ∧ FKn 45 S0 S' ∧ SdW E g n W' ∧ CPW E g n W' := by
  intro k
  induction k with
  | zero => intro d i S _ h; omega
  | succ k ih =>
    intro d i S h1 h2 h3 h4
    show ∃ W' S', m_X7_laysLongest_B2 (nI n) (zl2 (m_X7_laysLongest_B2 (nI n)) k) S (nI i) = _ ∧ _
    generalize zl2 (m_X7_laysLongest_B2 (nI n)) k = G at ih ⊢
    unfold m_X7_laysLongest_B2 m_X7_laysLongest_J30
    simp only [nI_add, zb_e]
    match d, h1, h2 with
    | 0, h1, h2 =>
      rw [if_pos (by rw [le_nI (by omega) (by omega)]; omega)]
      have hp0 : PA E g n n (tv E n) := ⟨0, rfl, rfl⟩
      refine ll39_l hT hN hG hn hd FU 32 0 (fu (fun _ => none) n (some (tv E n))) S (by omega) (FU_gt (by omega)) (fun m hm => h4 m (by omega)) h3 (SdW_fu (fun x v _ q => by cases q) hp0) (fun k hk x L hp => ?_)
      rw [show k = 0 by omega] at hp
      obtain ⟨q1, q2⟩ := hp
      subst q1
      exact ⟨_, fu_s, by omega⟩
    | d + 1, h1, h2 =>
      have hi : i < 32 := by omega
      rw [if_neg (by rw [le_nI (by omega) (by omega)]; omega), zg_in hi (by omega), zg_in hi (by omega), tn (by omega)]
      by_cases hin : i = n
      · subst hin
        rw [if_pos rfl, div_nI (by omega) (by omega) (by omega), zg_in (show i / 2 < 16 by omega) (by omega), ri_n (by omega), h3.1 4 _ (by omega), rt_v hT hG hn hd]
        refine ih d (i + 1) _ (by omega) (by omega) (FKn_wi h3) (fun m hm => ?_)
        by_cases hmi : m = i
        · subst hmi; rw [wi_at, fu_s]; rfl
        · rw [wi_ne (by omega)]; exact h4 m (by omega)
      · rw [if_neg (nI_ne (by omega) (by omega) hin)]
        refine ih d (i + 1) _ (by omega) (by omega) (FKn_wi h3) (fun m hm => ?_)
        by_cases hmi : m = i
        · subst hmi; rw [wi_at, fu_n hin]; rfl
        · rw [wi_ne (by omega)]; exact h4 m (by omega)
