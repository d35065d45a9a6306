/-! sets of targets as bits -/
def SEp (x : Int32) (P : Nat → Prop) : Prop := ∀ i, i < 32 → (bt x i = true ↔ i < 16 ∧ P i)
theorem SEp_ext {x y : Int32} {P Q : Nat → Prop} (h1 : SEp x P) (h2 : SEp y Q) (h : ∀ i, i < 16 → (P i ↔ Q i)) : x = y := b_ext (fun i hi => by
  have e : (bt x i = true) ↔ (bt y i = true) := by
    rw [h1 i hi, h2 i hi]
    exact ⟨fun q => ⟨q.1, (h i q.1).mp q.2⟩, fun q => ⟨q.1, (h i q.1).mpr q.2⟩⟩
  cases hx : bt x i <;> cases hy : bt y i
  · rfl
  · exact absurd (e.mpr hy) (by rw [hx]; decide)
  · exact absurd (e.mp hx) (by rw [hy]; decide)
  · rfl)
theorem SEp_if {x : Int32} {P Q : Nat → Prop} (h : SEp x P) (e : ∀ i, i < 16 → (P i ↔ Q i)) : SEp x Q := fun i hi => by
  rw [h i hi]
  exact ⟨fun q => ⟨q.1, (e i q.1).mp q.2⟩, fun q => ⟨q.1, (e i q.1).mpr q.2⟩⟩
theorem SEp_or {x y : Int32} {P Q : Nat → Prop} (h1 : SEp x P) (h2 : SEp y Q) : SEp (x ||| y) (fun i => P i ∨ Q i) := fun i hi => by
  rw [b_or, Bool.or_eq_true, h1 i hi, h2 i hi]
  exact ⟨fun q => q.elim (fun z => ⟨z.1, Or.inl z.2⟩) (fun z => ⟨z.1, Or.inr z.2⟩), fun q => q.2.elim (fun z => Or.inl ⟨q.1, z⟩) (fun z => Or.inr ⟨q.1, z⟩)⟩
theorem SEp_an {x y : Int32} {P Q : Nat → Prop} (h1 : SEp x P) (h2 : SEp y Q) : SEp (x &&& (y ^^^ (-1))) (fun i => P i ∧ ¬ Q i) := fun i hi => by
  rw [b_and, b_xor, b_m1 i hi, Bool.and_eq_true, h1 i hi]
  have e : ((bt y i ^^ true) = true) ↔ ¬ bt y i = true := by cases bt y i <;> simp
  rw [e, h2 i hi]
  exact ⟨fun q => ⟨q.1.1, q.1.2, fun z => q.2 ⟨q.1.1, z⟩⟩, fun q => ⟨⟨q.1, q.2.1⟩, fun z => q.2.2 z.2⟩⟩
theorem SEp_0 : SEp (nI 0) (fun _ => False) := fun i hi => by
  rw [show bt (nI 0) i = false from b_0 i]
  exact ⟨fun q => (by cases q), fun q => q.2.elim⟩
theorem b_one (i : Nat) : bt (nI 1) i = decide (i = 0) := by
  unfold bt
  rw [show (nI 1).toBitVec = 1#32 from rfl]
  simp [BitVec.getLsbD_one]
theorem SEp_1 {k : Nat} (hk : k < 16) : SEp (nI 1 <<< (nI k &&& 31)) (fun i => i = k) := fun i hi => by
  rw [b_shl k (by omega) _ hi, b_one, Bool.and_eq_true, decide_eq_true_iff, decide_eq_true_iff]
  omega
theorem and_nz {x y : Int32} {P Q : Nat → Prop} (h1 : SEp x P) (h2 : SEp y Q) : (x &&& y) = 0 ↔ ∀ i, i < 16 → ¬ (P i ∧ Q i) := by
  constructor
  · intro h i hi q
    have e : bt (x &&& y) i = false := by rw [h]; exact b_0 i
    rw [b_and, (h1 i (by omega)).mpr ⟨hi, q.1⟩, (h2 i (by omega)).mpr ⟨hi, q.2⟩] at e
    cases e
  · intro h
    refine b_ext (fun i hi => ?_)
    rw [b_0, b_and]
    cases hx : bt x i with
    | false => rfl
    | true =>
      cases hy : bt y i with
      | false => rfl
      | true =>
        obtain ⟨q1, q2⟩ := (h1 i hi).mp hx
        exact absurd ⟨q2, ((h2 i hi).mp hy).2⟩ (h i q1)
theorem shr_bit {x : Int32} {k : Nat} (hk : k < 32) : ((x >>> (nI k &&& 31)) &&& nI 1) = nI 1 ↔ bt x k = true := by
  have e0 : bt (x >>> (nI k &&& 31)) 0 = bt x k := by
    rw [b_sshr k hk x (by omega), if_pos (by omega)]; rfl
  constructor
  · intro h
    have h2 : bt ((x >>> (nI k &&& 31)) &&& nI 1) 0 = bt (nI 1) 0 := by rw [h]
    rw [b_and, e0, b_one] at h2
    simpa using h2
  · intro h
    refine b_ext (fun i hi => ?_)
    rw [b_and, b_one]
    by_cases h0 : i = 0
    · subst h0
      rw [e0, h]; rfl
    · rw [decide_eq_false h0, Bool.and_false]
theorem has1_v {S : St} {x : Int32} {k : Nat} {P : Nat → Prop} (hk : k < 16) (h : SEp x P) : (P k → m_X1_has S x (nI k) = some (nI 1)) ∧ (¬ P k → m_X1_has S x (nI k) = some (nI 0)) := by
  have hb := shr_bit (x := x) (k := k) (by omega)
  rw [h k (by omega)] at hb
  unfold m_X1_has
  exact ⟨fun q => if_pos (hb.mpr ⟨hk, q⟩), fun q => if_neg (fun z => q (hb.mp z).2)⟩
theorem has7_v {S : St} {x : Int32} {k : Nat} {P : Nat → Prop} (hk : k < 16) (h : SEp x P) : (P k → m_X7_has S x (nI k) = some (nI 1)) ∧ (¬ P k → m_X7_has S x (nI k) = some (nI 0)) := has1_v (S := S) hk h
/-! what a target needs directly -/
def DG (ρ : Nat → Option Rul) (t y : Nat) : Prop := ∃ r, ρ t = some r ∧ ∃ q, q ∈ ip r ∧ 2 ≤ q.1 ∧ q.2 = y
def dirF : List (Nat × Nat) → Int32 → Int32
  | [], x => x
  | q :: l, x => dirF l (if 2 ≤ q.1 then x ||| (nI 1 <<< (nI q.2 &&& 31)) else x)
def dI (ρ : Nat → Option Rul) (t : Nat) : Int32 := match ρ t with
  | none => nI 0
  | some r => dirF (ip r) (nI 0)
theorem dirF_s : ∀ (l : List (Nat × Nat)) (x : Int32) (P : Nat → Prop), (∀ q ∈ l, InOK q) → SEp x P → SEp (dirF l x) (fun y => P y ∨ ∃ q, q ∈ l ∧ 2 ≤ q.1 ∧ q.2 = y)
  | [], x, P, _, h => SEp_if h (fun i _ => ⟨Or.inl, fun q => q.elim id (fun ⟨a, b, _⟩ => by cases b)⟩)
  | q :: l, x, P, hq, h => by
    have h1 := hq q List.mem_cons_self
    have hl : ∀ p ∈ l, InOK p := fun p hp => hq p (List.mem_cons_of_mem _ hp)
    unfold dirF
    by_cases h2 : 2 ≤ q.1
    · have h3 : q.2 < 16 := by
        have := h1.2
        rwa [lim_16 (by omega) (by omega)] at this
      rw [if_pos h2]
      refine SEp_if (dirF_s l _ _ hl (SEp_or h (SEp_1 h3))) (fun i _ => ⟨fun z => ?_, fun z => ?_⟩)
      · rcases z with (z | z) | ⟨p, p1, p2, p3⟩
        · exact Or.inl z
        · exact Or.inr ⟨q, List.mem_cons_self, h2, z.symm⟩
        · exact Or.inr ⟨p, List.mem_cons_of_mem _ p1, p2, p3⟩
      · rcases z with z | ⟨p, p1, p2, p3⟩
        · exact Or.inl (Or.inl z)
        · rcases List.mem_cons.mp p1 with rfl | p1
          · exact Or.inl (Or.inr p3.symm)
          · exact Or.inr ⟨p, p1, p2, p3⟩
    · rw [if_neg h2]
      refine SEp_if (dirF_s l _ _ hl h) (fun i _ => ⟨fun z => ?_, fun z => ?_⟩)
      · rcases z with z | ⟨p, p1, p2, p3⟩
        · exact Or.inl z
        · exact Or.inr ⟨p, List.mem_cons_of_mem _ p1, p2, p3⟩
      · rcases z with z | ⟨p, p1, p2, p3⟩
        · exact Or.inl z
        · rcases List.mem_cons.mp p1 with rfl | p1
          · exact absurd p2 h2
          · exact Or.inr ⟨p, p1, p2, p3⟩
theorem dI_s {E : Ev} (hE : EvOK E) (t : Nat) : SEp (dI (eρ E) t) (DG (eρ E) t) := by
  unfold dI
  cases hr : eρ E t with
  | none => exact SEp_if SEp_0 (fun i _ => ⟨False.elim, fun ⟨r, h, _⟩ => by rw [hr] at h; cases h⟩)
  | some r =>
    refine SEp_if (dirF_s (ip r) (nI 0) _ (hE.2 t r hr).2.2.2.2.2.2 SEp_0) (fun i _ => ⟨fun z => ?_, fun z => ?_⟩)
    · rcases z with z | z
      · exact z.elim
      · exact ⟨r, hr, z⟩
    · obtain ⟨r2, h2, h3⟩ := z
      rw [hr] at h2
      cases h2
      exact Or.inr h3
theorem dn_l {E : Ev} {S : St} {t : Nat} {r : Rul} (hE : EvOK E) (ht : t < 16) (hr : eρ E t = some r) (hR : RulT (eρ E) (S.1 1)) : ∀ (l : List (Nat × Nat)) (i k : Nat) (x : Int32), (ip r).drop i = l → i ≤ (ip r).length → l.length < k → zl2 (m_X1_directNeeds_B15 (nI (ip r).length) S (nI t)) k x (nI i) = some (dirF l x)
  | l, i, 0, x, _, _, h => by omega
  | [], i, k + 1, x, h1, h2, h3 => by
    have h4 := (hE.2 t r hr).2.2.2.2.2.1
    have hi := List.drop_eq_nil_iff.mp h1
    show m_X1_directNeeds_B15 (nI (ip r).length) S (nI t) (zl2 (m_X1_directNeeds_B15 (nI (ip r).length) S (nI t)) k) x (nI i) = _
    generalize zl2 (m_X1_directNeeds_B15 (nI (ip r).length) S (nI t)) k = G
    unfold m_X1_directNeeds_B15
    rw [if_pos (by rw [le_nI (by omega) (by omega)]; exact hi)]
    rfl
  | q :: l, i, k + 1, x, h1, h2, h3 => by
    have h4 := (hE.2 t r hr).2.2.2.2.2.1
    obtain ⟨d1, d2, -, d4⟩ := drop_cons h1
    obtain ⟨q1, q2, q3⟩ := (hE.2 t r hr).get d1
    have q5 := lim_le q.1
    have ih := fun x => dn_l hE ht hr hR l (i + 1) k x d2 (by omega) (by simp only [List.length_cons] at h3; omega)
    show m_X1_directNeeds_B15 (nI (ip r).length) S (nI t) (zl2 (m_X1_directNeeds_B15 (nI (ip r).length) S (nI t)) k) x (nI i) = _
    generalize zl2 (m_X1_directNeeds_B15 (nI (ip r).length) S (nI t)) k = G at ih ⊢
    unfold m_X1_directNeeds_B15
    simp only [nI_add, pk_mul, zb_e]
    have e1 : S.1 1 (t * 13 + (5 + i * 2 + 0)) = nI q.1 := by
      rw [hR t ht _ (by omega), hr]
      show ruC r _ = _
      rw [show 5 + i * 2 + 0 = 5 + 2 * i by omega, ruC_in.1, d1]
    have e2 : S.1 1 (t * 13 + (5 + i * 2 + 1)) = nI q.2 := by
      rw [hR t ht _ (by omega), hr]
      show ruC r _ = _
      rw [show 5 + i * 2 + 1 = 6 + 2 * i by omega, ruC_in.2, d1]
    rw [if_neg (by rw [le_nI (by omega) (by omega)]; omega), if_neg (by rw [le_nI (by omega) (by omega)]; omega), tg_1 ht (by omega), zo_e, tg_1 ht (by omega), zo_e, e1, e2, ih, ih]
    have hf : dirF (q :: l) x = dirF l (if 2 ≤ q.1 then x ||| (nI 1 <<< (nI q.2 &&& 31)) else x) := rfl
    rw [hf]
    have hq : q.1 = 0 ∨ q.1 = 1 ∨ q.1 = 2 ∨ q.1 = 3 := by omega
    rcases hq with h | h | h | h
    · rw [h, if_neg (by decide), if_neg (by decide), if_neg (by omega)]
    · rw [h, if_neg (by decide), if_neg (by decide), if_neg (by omega)]
    · rw [h, if_pos rfl, if_pos (by omega)]
    · rw [h, if_neg (by decide), if_pos rfl, if_pos (by omega)]
theorem dn_v {E : Ev} {S : St} {t : Nat} (hE : EvOK E) (ht : t < 16) (hR : RulT (eρ E) (S.1 1)) : m_X1_directNeeds S (nI t) = some (dI (eρ E) t) := by
  unfold m_X1_directNeeds
  rw [tg_1 ht (by omega), zo_e, hR t ht 4 (by omega)]
  cases hr : eρ E t with
  | none =>
    have e : dI (eρ E) t = nI 0 := by unfold dI; rw [hr]
    rw [e]
    show m_X1_directNeeds_B15 (-1) S (nI t) (zl2 (m_X1_directNeeds_B15 (-1) S (nI t)) 8191) (nI 0) (nI 0) = _
    generalize zl2 (m_X1_directNeeds_B15 (-1) S (nI t)) 8191 = G
    unfold m_X1_directNeeds_B15
    rw [if_pos (by decide)]
  | some r =>
    have e : dI (eρ E) t = dirF (ip r) (nI 0) := by unfold dI; rw [hr]
    rw [e]
    exact dn_l hE ht hr hR (ip r) 0 FU (nI 0) rfl (by omega) (FU_gt (by have := (hE.2 t r hr).2.2.2.2.2.1; omega))
theorem in_l {E : Ev} {S : St} {t : Nat} {r : Rul} (hE : EvOK E) (ht : t < 16) (hr : eρ E t = some r) (hM : RrM S t r) : ∀ (l : List (Nat × Nat)) (i k : Nat) (x : Int32), (ip r).drop i = l → i ≤ (ip r).length → l.length < k → zl2 (m_X7_inputsOf_B4 (nI t) S) k x (nI i) = some (dirF l x)
  | l, i, 0, x, _, _, h => by omega
  | [], i, k + 1, x, h1, h2, h3 => by
    have h4 := (hE.2 t r hr).2.2.2.2.2.1
    have hi := List.drop_eq_nil_iff.mp h1
    show m_X7_inputsOf_B4 (nI t) S (zl2 (m_X7_inputsOf_B4 (nI t) S) k) x (nI i) = _
    generalize zl2 (m_X7_inputsOf_B4 (nI t) S) k = G
    unfold m_X7_inputsOf_B4
    rw [zg_in ht (by omega), ri_n (by omega), hM.2.2.2.2.1, if_pos (by rw [le_nI (by omega) (by omega)]; exact hi)]
    rfl
  | q :: l, i, k + 1, x, h1, h2, h3 => by
    have hr2 := hE.2 t r hr
    have h4 := hr2.2.2.2.2.2.1
    obtain ⟨d1, d2, -, d4⟩ := drop_cons h1
    obtain ⟨q1, q2, q3⟩ := hr2.get d1
    obtain ⟨e6, e7⟩ := hM.2.2.2.2.2 i q d1
    have ih := fun x => in_l hE ht hr hM l (i + 1) k x d2 (by omega) (by simp only [List.length_cons] at h3; omega)
    show m_X7_inputsOf_B4 (nI t) S (zl2 (m_X7_inputsOf_B4 (nI t) S) k) x (nI i) = _
    generalize zl2 (m_X7_inputsOf_B4 (nI t) S) k = G at ih ⊢
    unfold m_X7_inputsOf_B4
    simp only [nI_add, pk_mul, zb_e]
    rw [zg_in ht (by omega), ri_n (by omega), hM.2.2.2.2.1, if_neg (by rw [le_nI (by omega) (by omega)]; omega), zg_in ht (by omega), ri_n (by omega), hM.1, if_neg (nI_n1 (by have := hr2.1; omega)), zg_in (show 4 * t + i < 64 by omega) (by omega), zg_in (show 4 * t + i < 64 by omega) (by omega), ri_n (by omega), ri_n (by omega), e6, e7, show x ||| nI 0 = x from Int32.or_zero, ih, ih]
    have hf : dirF (q :: l) x = dirF l (if 2 ≤ q.1 then x ||| (nI 1 <<< (nI q.2 &&& 31)) else x) := rfl
    rw [hf]
    by_cases h2 : 2 ≤ q.1
    · rw [if_neg (by rw [le_nI (by omega) (by omega)]; omega), if_pos h2]
    · rw [if_pos (by rw [le_nI (by omega) (by omega)]; omega), if_neg h2]
theorem in_v {E : Ev} {S : St} {t : Nat} (hE : EvOK E) (ht : t < 16) (hR : RrT (eρ E) S) : m_X7_inputsOf S (nI t) = some (dI (eρ E) t) := by
  unfold m_X7_inputsOf
  cases hr : eρ E t with
  | none =>
    have e : dI (eρ E) t = nI 0 := by unfold dI; rw [hr]
    rw [e]
    show m_X7_inputsOf_B4 (nI t) S (zl2 (m_X7_inputsOf_B4 (nI t) S) 8191) (nI 0) (nI 0) = _
    generalize zl2 (m_X7_inputsOf_B4 (nI t) S) 8191 = G
    unfold m_X7_inputsOf_B4
    rw [zg_in ht (by omega), ri_n (by omega), zg_in ht (by omega), ri_n (by omega), (hR t ht).1 hr]
    by_cases h : S.1 5 t ≤ nI 0
    · rw [if_pos h]
    · rw [if_neg h, if_pos rfl]
  | some r =>
    have e : dI (eρ E) t = dirF (ip r) (nI 0) := by unfold dI; rw [hr]
    rw [e]
    exact in_l hE ht hr ((hR t ht).2 r hr) (ip r) 0 FU (nI 0) rfl (by omega) (FU_gt (by have := (hE.2 t r hr).2.2.2.2.2.1; omega))
/-- the graph is drawn -/
theorem draw_l {E : Ev} (hE : EvOK E) {S0 : St} (hR : RulT (eρ E) (S0.1 1)) : ∀ (k d i : Nat) (S : St), i + d = 16 → d < k → (∀ j, j < i → S.1 6 (j * 2 + 0) = dI (eρ E) j) → (∀ k, ¬ k = 6 → S.1 k = S0.1 k) →
    ∃ S', zl2 m_X1_draw_B2 k S (nI i) = some S' ∧ (∀ j, j < 16 → S'.1 6 (j * 2 + 0) = dI (eρ E) j) ∧ ∀ k, ¬ k = 6 → S'.1 k = S0.1 k := by
  intro k
  induction k with
  | zero => intro d i S _ h; omega
  | succ k ih =>
    intro d i S h1 h2 h3 h4
    show ∃ S', m_X1_draw_B2 (zl2 m_X1_draw_B2 k) S (nI i) = _ ∧ _
    generalize zl2 m_X1_draw_B2 k = G at ih ⊢
    unfold m_X1_draw_B2
    simp only [nI_add, zb_e]
    match d, h1, h2 with
    | 0, h1, h2 =>
      rw [if_pos (by rw [le_nI (by omega) (by omega)]; omega)]
      exact ⟨S, rfl, fun j hj => h3 j (by omega), h4⟩
    | d + 1, h1, h2 =>
      rw [if_neg (by rw [le_nI (by omega) (by omega)]; omega), dn_v hE (by omega) (by rw [h4 1 (by omega)]; exact hR), zo_e, ts_6 (by omega) (by omega), zo_e]
      refine ih d (i + 1) _ (by omega) (by omega) (fun j hj => ?_) (fun k2 q => by rw [tb_n q]; exact h4 k2 q)
      rw [tb_s]
      by_cases hji : j = i
      · subst hji; rw [pk_us]
      · rw [pk_un (by omega)]; exact h3 j (by omega)
theorem draw_v {E : Ev} (hE : EvOK E) {S : St} (hR : RulT (eρ E) (S.1 1)) : ∃ S', m_X1_draw S = some S' ∧ (∀ j, j < 16 → S'.1 6 (j * 2 + 0) = dI (eρ E) j) ∧ ∀ k, ¬ k = 6 → S'.1 k = S.1 k :=
  draw_l hE hR FU 16 0 S (by omega) (FU_gt (by omega)) (fun j hj => by omega) (fun _ _ => rfl)
theorem RC_6 {E : Ev} {T : Nat} {g : Gs} {S S' : St} (h : RC E 0 T g S) (hs : ∀ k, ¬ k = 6 → S'.1 k = S.1 k) : RC E 0 T g S' := RC_same h (fun k q _ _ _ _ _ _ => hs k q)
/-! all that a target needs -/
/-- the least set that has what t needs, and what those need -/
def CLO (D : Nat → Nat → Prop) (t : Nat) (R : Nat → Prop) : Prop := (∀ y, y < 16 → D t y → R y) ∧ (∀ k y, k < 16 → y < 16 → R k → D k y → R y) ∧ ∀ Q : Nat → Prop, (∀ y, y < 16 → D t y → Q y) → (∀ k y, k < 16 → y < 16 → Q k → D k y → Q y) → ∀ y, y < 16 → R y → Q y
theorem CLO_u {D : Nat → Nat → Prop} {t : Nat} {R R' : Nat → Prop} (h : CLO D t R) (h' : CLO D t R') (y : Nat) (hy : y < 16) : R y ↔ R' y := ⟨h.2.2 R' h'.1 h'.2.1 y hy, h'.2.2 R h.1 h.2.1 y hy⟩
noncomputable def cnP (P : Nat → Prop) : Nat := cntB (fun i => dcP (P i)) 16
theorem cnP_le (P : Nat → Prop) : cnP P ≤ 16 := cntB_le 16
theorem cnP_mono {P Q : Nat → Prop} (h : ∀ i, i < 16 → P i → Q i) : cnP P ≤ cnP Q := cntB_mono 16 (fun i hi q => dcP_t.mpr (h i hi (dcP_t.mp q)))
theorem cnP_lt {P Q : Nat → Prop} (h : ∀ i, i < 16 → P i → Q i) {j : Nat} (hj : j < 16) (h1 : ¬ P j) (h2 : Q j) : cnP P + 1 ≤ cnP Q := by
  have e : cntB (fun i => dcP (P i)) 16 + 1 = cntB (fun i => dcP (P i ∨ i = j)) 16 := cntB_flip (j := j) (dcP_f.mpr h1) (dcP_t.mpr (Or.inr rfl)) (fun i hi => by
    show dcP (P i) = dcP (P i ∨ i = j)
    have e2 : (P i ∨ i = j) = P i := propext ⟨fun q => q.elim id (fun z => absurd z hi), Or.inl⟩
    rw [e2]) 16 hj
  have e3 : cntB (fun i => dcP (P i ∨ i = j)) 16 ≤ cnP Q := cntB_mono 16 (fun i hi q => dcP_t.mpr ((dcP_t.mp q).elim (h i hi) (fun z => by rw [z]; exact h2)))
  have e4 : cnP P = cntB (fun i => dcP (P i)) 16 := rfl
  omega
theorem cnP_all {P : Nat → Prop} (h : 16 ≤ cnP P) (i : Nat) (hi : i < 16) : P i := Classical.byContradiction (fun q => by
  have := cnP_lt (P := P) (Q := fun _ => True) (fun _ _ _ => trivial) hi q trivial
  have := cnP_le (fun _ => True)
  omega)
def CLS (D : Nat → Nat → Prop) (P : Nat → Prop) : Prop := ∀ k y, k < 16 → y < 16 → P k → D k y → P y
/-- one round of the class: as it goes, sets grow -/
theorem af_in {E : Ev} (hE : EvOK E) {S : St} (h6 : ∀ j, j < 16 → S.1 6 (j * 2 + 0) = dI (eρ E) j) {x3 : Int32} {rec12 : Int32 → Int32 → Option Int32} : ∀ (k d i : Nat) (x : Int32) (P : Nat → Prop), i + d = 16 → d < k → SEp x P →
    ∃ x' P', zl2 (m_X1_allFrom_B21 x3 rec12 S) k x (nI i) = rec12 x' (x3 + nI 1) ∧ SEp x' P' ∧ (∀ y, y < 16 → P y → P' y) ∧ (∀ Q, CLS (DG (eρ E)) Q → (∀ y, y < 16 → P y → Q y) → ∀ y, y < 16 → P' y → Q y) ∧ (∀ j, i ≤ j → j < 16 → P j → ∀ y, y < 16 → DG (eρ E) j y → P' y) := by
  intro k
  induction k with
  | zero => intro d i x P _ h; omega
  | succ k ih =>
    intro d i x P h1 h2 h3
    show ∃ x' P', m_X1_allFrom_B21 x3 rec12 S (zl2 (m_X1_allFrom_B21 x3 rec12 S) k) x (nI i) = _ ∧ _
    generalize zl2 (m_X1_allFrom_B21 x3 rec12 S) k = G at ih ⊢
    unfold m_X1_allFrom_B21
    match d, h1, h2 with
    | 0, h1, h2 =>
      rw [if_pos (by rw [le_nI (by omega) (by omega)]; omega), zb_e]
      exact ⟨x, P, rfl, h3, fun _ _ q => q, fun Q _ h => h, fun j q1 q2 => by omega⟩
    | d + 1, h1, h2 =>
      rw [if_neg (by rw [le_nI (by omega) (by omega)]; omega)]
      obtain ⟨p1, p2⟩ := has1_v (S := S) (k := i) (by omega) h3
      by_cases hp : P i
      · rw [p1 hp, zo_e, if_neg (by decide), tg_6 (by omega) (by omega), zo_e, h6 i (by omega), zb_e, zb_e, nI_add]
        obtain ⟨x', P', a1, a2, a3, a4, a5⟩ := ih d (i + 1) _ _ (by omega) (by omega) (SEp_or h3 (dI_s hE i))
        refine ⟨x', P', a1, a2, fun y hy q => a3 y hy (Or.inl q), fun Q hQ hPQ => a4 Q hQ (fun y hy q => q.elim (hPQ y hy) (fun z => hQ i y (by omega) hy (hPQ i (by omega) hp) z)), fun j q1 q2 q3 y hy q4 => ?_⟩
        by_cases hji : j = i
        · subst hji; exact a3 y hy (Or.inr q4)
        · exact a5 j (by omega) q2 (Or.inl q3) y hy q4
      · rw [p2 hp, zo_e, if_pos (by decide), zb_e, nI_add]
        obtain ⟨x', P', a1, a2, a3, a4, a5⟩ := ih d (i + 1) x P (by omega) (by omega) h3
        refine ⟨x', P', a1, a2, a3, a4, fun j q1 q2 q3 y hy q4 => ?_⟩
        by_cases hji : j = i
        · subst hji; exact absurd q3 hp
        · exact a5 j (by omega) q2 q3 y hy q4
theorem not_cls {D : Nat → Nat → Prop} {P : Nat → Prop} (h : ¬ CLS D P) : ∃ k y, k < 16 ∧ y < 16 ∧ P k ∧ D k y ∧ ¬ P y := Classical.byContradiction (fun q => h (fun k y hk hy h1 h2 => Classical.byContradiction (fun h3 => q ⟨k, y, hk, hy, h1, h2, h3⟩)))
theorem af_out {E : Ev} (hE : EvOK E) {S : St} (h6 : ∀ j, j < 16 → S.1 6 (j * 2 + 0) = dI (eρ E) j) : ∀ (k d i : Nat) (x : Int32) (P : Nat → Prop), i + d = 16 → d < k → SEp x P → CLS (DG (eρ E)) P ∨ i ≤ cnP P →
    ∃ x' P', zl2 (m_X1_allFrom_B12 S) k x (nI i) = some x' ∧ SEp x' P' ∧ (∀ y, y < 16 → P y → P' y) ∧ CLS (DG (eρ E)) P' ∧ ∀ Q, CLS (DG (eρ E)) Q → (∀ y, y < 16 → P y → Q y) → ∀ y, y < 16 → P' y → Q y := by
  intro k
  induction k with
  | zero => intro d i x P _ h; omega
  | succ k ih =>
    intro d i x P h1 h2 h3 h4
    show ∃ x' P', m_X1_allFrom_B12 S (zl2 (m_X1_allFrom_B12 S) k) x (nI i) = _ ∧ _
    generalize zl2 (m_X1_allFrom_B12 S) k = G at ih ⊢
    unfold m_X1_allFrom_B12
    match d, h1, h2 with
    | 0, h1, h2 =>
      rw [if_pos (by rw [le_nI (by omega) (by omega)]; omega)]
      refine ⟨x, P, rfl, h3, fun _ _ q => q, ?_, fun Q _ q => q⟩
      rcases h4 with h4 | h4
      · exact h4
      · exact fun k y _ hy _ _ => cnP_all (by omega) y hy
    | d + 1, h1, h2 =>
      rw [if_neg (by rw [le_nI (by omega) (by omega)]; omega)]
      obtain ⟨x', P', a1, a2, a3, a4, a5⟩ := af_in hE h6 (x3 := nI i) (rec12 := G) FU 16 0 x P (by omega) (FU_gt (by omega)) h3
      rw [a1, nI_add]
      have h5 : CLS (DG (eρ E)) P' ∨ i + 1 ≤ cnP P' := by
        by_cases hc : CLS (DG (eρ E)) P
        · left
          intro k y hk hy q1 q2
          exact a3 y hy (hc k y hk hy (a4 P hc (fun _ _ z => z) k hk q1) q2)
        · right
          obtain ⟨k0, y0, hk, hy, q1, q2, q3⟩ := not_cls hc
          have q4 := cnP_lt a3 hy q3 (a5 k0 (by omega) hk q1 y0 hy q2)
          rcases h4 with h4 | h4
          · exact absurd h4 hc
          · omega
      obtain ⟨x2, P2, b1, b2, b3, b4, b5⟩ := ih d (i + 1) x' P' (by omega) (by omega) a2 h5
      exact ⟨x2, P2, b1, b2, fun y hy q => b3 y hy (a3 y hy q), b4, fun Q hQ hPQ => b5 Q hQ (a4 Q hQ hPQ)⟩
theorem af_v {E : Ev} (hE : EvOK E) {S : St} {t : Nat} (ht : t < 16) (h6 : ∀ j, j < 16 → S.1 6 (j * 2 + 0) = dI (eρ E) j) : ∃ x R, m_X1_allFrom S (nI t) = some x ∧ SEp x R ∧ CLO (DG (eρ E)) t R := by
  obtain ⟨x, R, a1, a2, a3, a4, a5⟩ := af_out hE h6 FU 16 0 (dI (eρ E) t) _ (by omega) (FU_gt (by omega)) (dI_s hE t) (Or.inr (Nat.zero_le _))
  refine ⟨x, R, ?_, a2, fun y hy q => a3 y hy q, a4, fun Q q1 q2 y hy q3 => a5 Q q2 q1 y hy q3⟩
  unfold m_X1_allFrom
  rw [tg_6 ht (by omega), zo_e, h6 t ht]
  exact a1
/-! the same by the reference -/
theorem nf_in {E : Ev} (hE : EvOK E) {S : St} (hR : RrT (eρ E) S) {rec8 : Int32 → Int32 → Option Int32} {x2 : Int32} {P : Nat → Prop} (h2P : SEp x2 P) : ∀ (k d i : Nat) (x : Int32) (Q : Nat → Prop), i + d = 16 → d < k → SEp x Q →
    ∃ x' Q', zl2 (m_X7_needsOf_B18 rec8 x2 S) k x (nI i) = rec8 x' x2 ∧ SEp x' Q' ∧ ∀ y, y < 16 → (Q' y ↔ Q y ∨ ∃ j, i ≤ j ∧ j < 16 ∧ P j ∧ DG (eρ E) j y) := by
  intro k
  induction k with
  | zero => intro d i x Q _ h; omega
  | succ k ih =>
    intro d i x Q h1 h2 h3
    show ∃ x' Q', m_X7_needsOf_B18 rec8 x2 S (zl2 (m_X7_needsOf_B18 rec8 x2 S) k) x (nI i) = _ ∧ _
    generalize zl2 (m_X7_needsOf_B18 rec8 x2 S) k = G at ih ⊢
    unfold m_X7_needsOf_B18
    match d, h1, h2 with
    | 0, h1, h2 =>
      rw [if_pos (by rw [le_nI (by omega) (by omega)]; omega)]
      exact ⟨x, Q, rfl, h3, fun y hy => ⟨Or.inl, fun q => q.elim id (fun ⟨j, j1, j2, _⟩ => by omega)⟩⟩
    | d + 1, h1, h2 =>
      rw [if_neg (by rw [le_nI (by omega) (by omega)]; omega)]
      obtain ⟨p1, p2⟩ := has7_v (S := S) (k := i) (by omega) h2P
      by_cases hp : P i
      · rw [p1 hp, zo_e, if_neg (by decide), in_v hE (by omega) hR, zo_e, zb_e, zb_e, nI_add]
        obtain ⟨x', Q', a1, a2, a3⟩ := ih d (i + 1) _ _ (by omega) (by omega) (SEp_or h3 (dI_s hE i))
        refine ⟨x', Q', a1, a2, fun y hy => (a3 y hy).trans ⟨fun q => ?_, fun q => ?_⟩⟩
        · rcases q with (q | q) | ⟨j, j1, j2, j3, j4⟩
          · exact Or.inl q
          · exact Or.inr ⟨i, Nat.le_refl _, by omega, hp, q⟩
          · exact Or.inr ⟨j, by omega, j2, j3, j4⟩
        · rcases q with q | ⟨j, j1, j2, j3, j4⟩
          · exact Or.inl (Or.inl q)
          · by_cases hji : j = i
            · subst hji; exact Or.inl (Or.inr j4)
            · exact Or.inr ⟨j, by omega, j2, j3, j4⟩
      · rw [p2 hp, zo_e, if_pos (by decide), zb_e, zb_e, nI_add, show x ||| nI 0 = x from Int32.or_zero]
        obtain ⟨x', Q', a1, a2, a3⟩ := ih d (i + 1) x Q (by omega) (by omega) h3
        refine ⟨x', Q', a1, a2, fun y hy => (a3 y hy).trans ⟨fun q => ?_, fun q => ?_⟩⟩
        · rcases q with q | ⟨j, j1, j2, j3, j4⟩
          · exact Or.inl q
          · exact Or.inr ⟨j, by omega, j2, j3, j4⟩
        · rcases q with q | ⟨j, j1, j2, j3, j4⟩
          · exact Or.inl q
          · by_cases hji : j = i
            · subst hji; exact absurd j3 hp
            · exact Or.inr ⟨j, by omega, j2, j3, j4⟩
theorem nf_x {S : St} (x : Int32) : ∀ k, 1 ≤ k → zl2 (m_X7_needsOf_B8 S) k x x = some x
  | 0, h => by omega
  | k + 1, _ => by
    show m_X7_needsOf_B8 S (zl2 (m_X7_needsOf_B8 S) k) x x = _
    generalize zl2 (m_X7_needsOf_B8 S) k = G
    unfold m_X7_needsOf_B8
    rw [if_pos rfl]
theorem nf_out {E : Ev} (hE : EvOK E) {S : St} (hR : RrT (eρ E) S) : ∀ (k : Nat) (x had : Int32) (P : Nat → Prop), 18 ≤ k + cnP P → SEp x P → (x = had → CLS (DG (eρ E)) P) →
    ∃ x' P', zl2 (m_X7_needsOf_B8 S) k x had = some x' ∧ SEp x' P' ∧ (∀ y, y < 16 → P y → P' y) ∧ CLS (DG (eρ E)) P' ∧ ∀ Q, CLS (DG (eρ E)) Q → (∀ y, y < 16 → P y → Q y) → ∀ y, y < 16 → P' y → Q y := by
  intro k
  induction k with
  | zero => intro x had P h; have := cnP_le P; omega
  | succ k ih =>
    intro x had P h1 h2 h3
    show ∃ x' P', m_X7_needsOf_B8 S (zl2 (m_X7_needsOf_B8 S) k) x had = _ ∧ _
    by_cases he : x = had
    · generalize zl2 (m_X7_needsOf_B8 S) k = G
      unfold m_X7_needsOf_B8
      rw [if_pos he]
      exact ⟨x, P, rfl, h2, fun _ _ q => q, h3 he, fun Q _ q => q⟩
    · have hG := fun x hk => nf_x (S := S) x k hk
      generalize zl2 (m_X7_needsOf_B8 S) k = G at ih hG ⊢
      unfold m_X7_needsOf_B8
      rw [if_neg he]
      obtain ⟨x', Q', a1, a2, a3⟩ := nf_in hE hR (rec8 := G) h2 FU 16 0 x P (by omega) (FU_gt (by omega)) h2
      rw [a1]
      have hsub : ∀ y, y < 16 → P y → Q' y := fun y hy q => (a3 y hy).mpr (Or.inl q)
      have hmin : ∀ Q, CLS (DG (eρ E)) Q → (∀ y, y < 16 → P y → Q y) → ∀ y, y < 16 → Q' y → Q y := fun Q hQ hPQ y hy q => by
        rcases (a3 y hy).mp q with q | ⟨j, -, j2, j3, j4⟩
        · exact hPQ y hy q
        · exact hQ j y j2 hy (hPQ j j2 j3) j4
      by_cases hc : CLS (DG (eρ E)) P
      · -- the next look ends
        have e : x' = x := SEp_ext a2 h2 (fun y hy => ⟨hmin P hc (fun _ _ z => z) y hy, hsub y hy⟩)
        rw [e, hG x (by have := cnP_le P; omega)]
        exact ⟨x, P, rfl, h2, fun _ _ q => q, hc, fun Q _ q => q⟩
      · obtain ⟨k0, y0, hk0, hy0, q1, q2, q3⟩ := not_cls hc
        have q4 := cnP_lt hsub hy0 q3 ((a3 y0 hy0).mpr (Or.inr ⟨k0, Nat.zero_le _, hk0, q1, q2⟩))
        obtain ⟨x2, P2, b1, b2, b3, b4, b5⟩ := ih x' x Q' (by omega) a2 (fun z => by
          exfalso
          have h5 := (h2 y0 (by omega)).mp (by rw [← z]; exact (a2 y0 (by omega)).mpr ⟨hy0, (a3 y0 hy0).mpr (Or.inr ⟨k0, Nat.zero_le _, hk0, q1, q2⟩)⟩)
          exact q3 h5.2)
        exact ⟨x2, P2, b1, b2, fun y hy q => b3 y hy (hsub y hy q), b4, fun Q hQ hPQ => b5 Q hQ (hmin Q hQ hPQ)⟩
theorem nf_v {E : Ev} (hE : EvOK E) {S : St} {t : Nat} (ht : t < 16) (hR : RrT (eρ E) S) : ∃ x R, m_X7_needsOf S (nI t) = some x ∧ SEp x R ∧ CLO (DG (eρ E)) t R := by
  obtain ⟨x, R, a1, a2, a3, a4, a5⟩ := nf_out hE hR FU (dI (eρ E) t) (nI 0) _ (by have : FU = 8192 := rfl; omega) (dI_s hE t) (fun z k y hk hy q1 _ => by
    exfalso
    have h1 := (dI_s hE t k (by omega)).mpr ⟨hk, q1⟩
    rw [z, show bt (nI 0) k = false from b_0 k] at h1
    cases h1)
  refine ⟨x, R, ?_, a2, fun y hy q => a3 y hy q, a4, fun Q q1 q2 y hy q3 => a5 Q q2 q1 y hy q3⟩
  unfold m_X7_needsOf
  rw [in_v hE ht hR, zo_e]
  exact a1
/-- both say the same -/
theorem both_v {E : Ev} (hE : EvOK E) {S S' : St} {t : Nat} (ht : t < 16) (h6 : ∀ j, j < 16 → S.1 6 (j * 2 + 0) = dI (eρ E) j) (hR : RrT (eρ E) S') : ∃ x R, m_X1_allFrom S (nI t) = some x ∧ m_X7_needsOf S' (nI t) = some x ∧ SEp x R := by
  obtain ⟨x, R, a1, a2, a3⟩ := af_v hE ht h6
  obtain ⟨y, Q, b1, b2, b3⟩ := nf_v hE ht hR
  have e : x = y := SEp_ext a2 b2 (fun i hi => CLO_u a3 b3 i hi)
  exact ⟨x, R, a1, by rw [e]; exact b1, a2⟩
theorem ok_needs {k : Nat} {Sc Sr : St} (h : INV k Sc Sr) : OK_needs (INV (k + 1)) Sc Sr := by
  intro p1
  rcases idx p1 (n := 16) (by omega) with ⟨t, ht, rfl⟩ | hb
  · obtain ⟨E, g, hE, hW, hc, hr⟩ := INV_mono k Sc Sr h
    obtain ⟨S1, d1, d2, d3⟩ := draw_v hE (S := Sc) hc.2.1
    obtain ⟨x, R, a1, a2, a3⟩ := both_v hE ht d2 (RI_47 (v := nI 0) hr).2.1
    refine ⟨.inr (x, S1), x, wi Sr 47 0 (nI 0), ?_, ?_, fun e q => (by cases q), fun r Sd q => ?_⟩
    · unfold m_X6_needs
      rw [rot_t ht, zx_r, d1, zo_e, a1, zo_e]
    · unfold m_X7_needs
      rw [rtg_t ht, zo_e, if_neg (by decide), goes_0, zo2_e, if_neg (by decide), a2, zo_e]
    · cases q
      exact ⟨wi_at, rfl, E, g, hE, hW, RC_6 hc d3, RI_47 hr⟩
  · refine ⟨.inl 1, nI 0, wi Sr 47 0 (nI 1), ?_, ?_, fun e q => (by cases q; exact ⟨rfl, wi_at, INV_47 h⟩), fun r Sd q => (by cases q)⟩
    · unfold m_X6_needs
      rw [rot_f hb, zx_l]
    · unfold m_X7_needs
      rw [rtg_f hb, zo_e, if_pos (by decide), goes_n (by omega), zo2_e, if_pos (by decide)]
