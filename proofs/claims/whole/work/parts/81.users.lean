/-! what needs a target, or a file -/
def CL (D : Nat → Nat → Prop) (t y : Nat) : Prop := ∀ Q : Nat → Prop, (∀ y, y < 16 → D t y → Q y) → CLS D Q → Q y
theorem CLO_c {D : Nat → Nat → Prop} {t : Nat} {R : Nat → Prop} (h : CLO D t R) (y : Nat) (hy : y < 16) : R y ↔ CL D t y := ⟨fun q Q h1 h2 => h.2.2 Q h1 h2 y hy q, fun q => q R h.1 h.2.1⟩
theorem both_c {E : Ev} (hE : EvOK E) {S S' : St} {t : Nat} (ht : t < 16) (h6 : ∀ j, j < 16 → S.1 6 (j * 2 + 0) = dI (eρ E) j) (hR : RrT (eρ E) S') : ∃ x, m_X1_allFrom S (nI t) = some x ∧ m_X7_needsOf S' (nI t) = some x ∧ SEp x (CL (DG (eρ E)) t) := by
  obtain ⟨x, R, a1, a2, a3⟩ := af_v hE ht h6
  obtain ⟨y, Q, b1, b2, b3⟩ := nf_v hE ht hR
  have e : x = y := SEp_ext a2 b2 (fun i hi => CLO_u a3 b3 i hi)
  exact ⟨x, a1, by rw [e]; exact b1, SEp_if a2 (fun i hi => CLO_c a3 i hi)⟩
def UN (D : Nat → Nat → Prop) (P : Nat → Prop) (y : Nat) : Prop := ∃ i, i < 16 ∧ CL D y i ∧ P i
theorem un_nz {D : Nat → Nat → Prop} {P : Nat → Prop} {x s : Int32} {y : Nat} (h1 : SEp x (CL D y)) (h2 : SEp s P) : (x &&& s) = 0 ↔ ¬ UN D P y := by
  rw [and_nz h1 h2]
  exact ⟨fun h ⟨i, hi, q⟩ => h i hi q, fun h i hi q => h ⟨i, hi, q⟩⟩
theorem tn_l {E : Ev} (hE : EvOK E) {S S' : St} (h6 : ∀ j, j < 16 → S.1 6 (j * 2 + 0) = dI (eρ E) j) (hR : RrT (eρ E) S') {s : Int32} {P : Nat → Prop} (hs : SEp s P) : ∀ (k d i : Nat) (x : Int32) (A : Nat → Prop), i + d = 16 → d < k → SEp x A →
    ∃ x', zl2 (m_X1_thatNeed_B4 S s) k x (nI i) = some x' ∧ SEp x' (fun y => A y ∨ (i ≤ y ∧ UN (DG (eρ E)) P y)) := by
  intro k
  induction k with
  | zero => intro d i x A _ h; omega
  | succ k ih =>
    intro d i x A h1 h2 h3
    show ∃ x', m_X1_thatNeed_B4 S s (zl2 (m_X1_thatNeed_B4 S s) k) x (nI i) = _ ∧ _
    generalize zl2 (m_X1_thatNeed_B4 S s) k = G at ih ⊢
    unfold m_X1_thatNeed_B4
    match d, h1, h2 with
    | 0, h1, h2 =>
      rw [if_pos (by rw [le_nI (by omega) (by omega)]; omega)]
      exact ⟨x, rfl, SEp_if h3 (fun y hy => ⟨Or.inl, fun q => q.elim id (fun z => by omega)⟩)⟩
    | d + 1, h1, h2 =>
      obtain ⟨v, a1, -, a3⟩ := both_c hE (t := i) (by omega) h6 hR
      rw [if_neg (by rw [le_nI (by omega) (by omega)]; omega), a1, zo_e]
      have hz := un_nz a3 hs
      by_cases hu : UN (DG (eρ E)) P i
      · rw [if_neg (fun z => (hz.mp z) hu), zb_e, zb_e, nI_add]
        obtain ⟨x', b1, b2⟩ := ih d (i + 1) _ _ (by omega) (by omega) (SEp_or h3 (SEp_1 (k := i) (by omega)))
        refine ⟨x', b1, SEp_if b2 (fun y hy => ⟨fun q => ?_, fun q => ?_⟩)⟩
        · rcases q with (q | q) | q
          · exact Or.inl q
          · subst q; exact Or.inr ⟨Nat.le_refl _, hu⟩
          · exact Or.inr ⟨by omega, q.2⟩
        · rcases q with q | q
          · exact Or.inl (Or.inl q)
          · by_cases hyi : y = i
            · exact Or.inl (Or.inr hyi)
            · exact Or.inr ⟨by omega, q.2⟩
      · rw [if_pos (hz.mpr hu), zb_e, nI_add]
        obtain ⟨x', b1, b2⟩ := ih d (i + 1) x A (by omega) (by omega) h3
        refine ⟨x', b1, SEp_if b2 (fun y hy => ⟨fun q => ?_, fun q => ?_⟩)⟩
        · rcases q with q | q
          · exact Or.inl q
          · exact Or.inr ⟨by omega, q.2⟩
        · rcases q with q | q
          · exact Or.inl q
          · by_cases hyi : y = i
            · subst hyi; exact absurd q.2 hu
            · exact Or.inr ⟨by omega, q.2⟩
theorem tn_v {E : Ev} (hE : EvOK E) {S S' : St} (h6 : ∀ j, j < 16 → S.1 6 (j * 2 + 0) = dI (eρ E) j) (hR : RrT (eρ E) S') {s : Int32} {P : Nat → Prop} (hs : SEp s P) : ∃ x', m_X1_thatNeed S s = some x' ∧ SEp x' (UN (DG (eρ E)) P) := by
  obtain ⟨x', a1, a2⟩ := tn_l hE h6 hR hs FU 16 0 (nI 0) _ (by omega) (FU_gt (by omega)) SEp_0
  exact ⟨x', a1, SEp_if a2 (fun y hy => ⟨fun q => q.elim False.elim (fun z => z.2), fun q => Or.inr ⟨Nat.zero_le _, q⟩⟩)⟩
theorem un_l {E : Ev} (hE : EvOK E) {S S' : St} (h6 : ∀ j, j < 16 → S.1 6 (j * 2 + 0) = dI (eρ E) j) (hR : RrT (eρ E) S') {s p1 : Int32} {P : Nat → Prop} (hs : SEp s P) (hp : ¬ p1 ≤ nI 99) : ∀ (k d i : Nat) (x : Int32) (A : Nat → Prop), i + d = 16 → d < k → SEp x A →
    ∃ x', zl2 (m_X7_users_B115 S' p1 s) k x (nI i) = some (x', S') ∧ SEp x' (fun y => A y ∨ (i ≤ y ∧ UN (DG (eρ E)) P y)) := by
  intro k
  induction k with
  | zero => intro d i x A _ h; omega
  | succ k ih =>
    intro d i x A h1 h2 h3
    show ∃ x', m_X7_users_B115 S' p1 s (zl2 (m_X7_users_B115 S' p1 s) k) x (nI i) = _ ∧ _
    generalize zl2 (m_X7_users_B115 S' p1 s) k = G at ih ⊢
    unfold m_X7_users_B115
    match d, h1, h2 with
    | 0, h1, h2 =>
      rw [if_pos (by rw [le_nI (by omega) (by omega)]; omega)]
      exact ⟨x, rfl, SEp_if h3 (fun y hy => ⟨Or.inl, fun q => q.elim id (fun z => by omega)⟩)⟩
    | d + 1, h1, h2 =>
      obtain ⟨v, -, a1, a3⟩ := both_c hE (t := i) (by omega) h6 hR
      rw [if_neg (by rw [le_nI (by omega) (by omega)]; omega), if_neg hp, a1, zo_e]
      have hz := un_nz a3 hs
      by_cases hu : UN (DG (eρ E)) P i
      · rw [if_neg (fun z => (hz.mp z) hu), zb_e, zb_e, nI_add]
        obtain ⟨x', b1, b2⟩ := ih d (i + 1) _ _ (by omega) (by omega) (SEp_or h3 (SEp_1 (k := i) (by omega)))
        refine ⟨x', b1, SEp_if b2 (fun y hy => ⟨fun q => ?_, fun q => ?_⟩)⟩
        · rcases q with (q | q) | q
          · exact Or.inl q
          · subst q; exact Or.inr ⟨Nat.le_refl _, hu⟩
          · exact Or.inr ⟨by omega, q.2⟩
        · rcases q with q | q
          · exact Or.inl (Or.inl q)
          · by_cases hyi : y = i
            · exact Or.inl (Or.inr hyi)
            · exact Or.inr ⟨by omega, q.2⟩
      · rw [if_pos (hz.mpr hu), zb_e, zb_e, nI_add, show x ||| nI 0 = x from Int32.or_zero]
        obtain ⟨x', b1, b2⟩ := ih d (i + 1) x A (by omega) (by omega) h3
        refine ⟨x', b1, SEp_if b2 (fun y hy => ⟨fun q => ?_, fun q => ?_⟩)⟩
        · rcases q with q | q
          · exact Or.inl q
          · exact Or.inr ⟨by omega, q.2⟩
        · rcases q with q | q
          · exact Or.inl q
          · by_cases hyi : y = i
            · subst hyi; exact absurd q.2 hu
            · exact Or.inr ⟨by omega, q.2⟩
/-! the first look for a file -/
def FS (ρ : Nat → Option Rul) (f y : Nat) : Prop := ∃ r, ρ y = some r ∧ sees r f = true
theorem wf_in {E : Ev} {S : St} {t f : Nat} {r : Rul} (hE : EvOK E) (ht : t < 16) (hf : f < 20) (hr : eρ E t = some r) (hR : RulT (eρ E) (S.1 1)) {rec4 : Int32 → Int32 → Option Int32} : ∀ (k d i : Nat) (x : Int32) (A : Nat → Prop), i + d = (ip r).length → d < k → SEp x A →
    ∃ x', zl2 (m_X1_withFile_B24 (nI (ip r).length) (nI t) rec4 S (nI f)) k x (nI i) = rec4 x' (nI (t + 1)) ∧ SEp x' (fun y => A y ∨ (y = t ∧ ((ip r).drop i).any (seesP f) = true)) := by
  have h6 := (hE.2 t r hr).2.2.2.2.2.1
  intro k
  induction k with
  | zero => intro d i x A _ h; omega
  | succ k ih =>
    intro d i x A h1 h2 h3
    show ∃ x', m_X1_withFile_B24 (nI (ip r).length) (nI t) rec4 S (nI f) (zl2 (m_X1_withFile_B24 (nI (ip r).length) (nI t) rec4 S (nI f)) k) x (nI i) = _ ∧ _
    generalize zl2 (m_X1_withFile_B24 (nI (ip r).length) (nI t) rec4 S (nI f)) k = G at ih ⊢
    unfold m_X1_withFile_B24 m_X1_withFile_J110 m_X1_withFile_J84 m_X1_withFile_J98 m_X1_withFile_J104
    simp only [nI_add, pk_mul, zb_e]
    match d, h1, h2 with
    | 0, h1, h2 =>
      rw [if_pos (by rw [le_nI (by omega) (by omega)]; omega)]
      exact ⟨x, rfl, SEp_if h3 (fun y hy => ⟨Or.inl, fun q => q.elim id (fun z => by
        have z2 := z.2
        rw [List.drop_of_length_le (by omega)] at z2
        cases z2)⟩)⟩
    | d + 1, h1, h2 =>
      have hi : i < (ip r).length := by omega
      obtain ⟨q1, q2, q3⟩ := (hE.2 t r hr).get (List.getElem?_eq_getElem hi)
      have q4 := lim_le (ip r)[i].1
      have e1 : S.1 1 (t * 13 + (5 + i * 2 + 0)) = nI (ip r)[i].1 := by
        rw [hR t ht _ (by omega), hr]
        show ruC r _ = _
        rw [show 5 + i * 2 + 0 = 5 + 2 * i by omega, ruC_in.1, List.getElem?_eq_getElem hi]
      have e2 : S.1 1 (t * 13 + (5 + i * 2 + 1)) = nI (ip r)[i].2 := by
        rw [hR t ht _ (by omega), hr]
        show ruC r _ = _
        rw [show 5 + i * 2 + 1 = 6 + 2 * i by omega, ruC_in.2, List.getElem?_eq_getElem hi]
      rw [if_neg (by rw [le_nI (by omega) (by omega)]; omega), if_neg (by rw [le_nI (by omega) (by omega)]; omega), tg_1 ht (by omega), zo_e, tg_1 ht (by omega), zo_e, e1, e2, div_nI (by omega) (by omega) (by omega)]
      have c1 : (nI (ip r)[i].1 = 0) = ((ip r)[i].1 = 0) := eq0_nI (by omega)
      have c2 : (nI (ip r)[i].1 = nI 1) = ((ip r)[i].1 = 1) := eq_nI (by omega) (by omega)
      have c3 : (nI (ip r)[i].2 = nI f) = ((ip r)[i].2 = f) := eq_nI (by omega) (by omega)
      have c4 : (nI (ip r)[i].2 = nI (f / 5)) = ((ip r)[i].2 = f / 5) := eq_nI (by omega) (by omega)
      simp only [c1, c2, c3, c4]
      obtain ⟨xt, t1, t2⟩ := ih d (i + 1) _ _ (by omega) (by omega) (SEp_or h3 (SEp_1 (k := t) ht))
      obtain ⟨xf, f1, f2⟩ := ih d (i + 1) x A (by omega) (by omega) h3
      rw [t1, f1]
      have hd : ((ip r).drop i).any (seesP f) = (seesP f (ip r)[i] || ((ip r).drop (i + 1)).any (seesP f)) := by
        rw [List.drop_eq_getElem_cons hi, List.any_cons]
      rw [hd]
      generalize (ip r)[i] = q
      generalize ((ip r).drop (i + 1)).any (seesP f) = tl at t2 f2 ⊢
      have hb : ∀ b, seesP f q = b → (b = true → ∃ x', rec4 xt (nI (t + 1)) = rec4 x' (nI (t + 1)) ∧ SEp x' (fun y => A y ∨ (y = t ∧ (seesP f q || tl) = true))) ∧ (b = false → ∃ x', rec4 xf (nI (t + 1)) = rec4 x' (nI (t + 1)) ∧ SEp x' (fun y => A y ∨ (y = t ∧ (seesP f q || tl) = true))) := by
        intro b hb
        rw [hb]
        refine ⟨fun z => ⟨xt, rfl, SEp_if t2 (fun y hy => ?_)⟩, fun z => ⟨xf, rfl, SEp_if f2 (fun y hy => ?_)⟩⟩
        · subst z
          rw [Bool.true_or]
          exact ⟨fun p => p.elim (fun p => p.elim Or.inl (fun p => Or.inr ⟨p, rfl⟩)) (fun p => Or.inr ⟨p.1, rfl⟩), fun p => p.elim (fun p => Or.inl (Or.inl p)) (fun p => Or.inl (Or.inr p.1))⟩
        · subst z
          rw [Bool.false_or]
      obtain ⟨hT, hF⟩ := hb _ rfl
      by_cases d1 : q.1 = 0
      · have d2 : ¬ q.1 = 1 := by omega
        rw [if_pos d1]
        by_cases d3 : q.2 = f
        · rw [if_pos d3]; exact hT (by unfold seesP; simp [d1, d3])
        · rw [if_neg d3, if_neg d2]; exact hF (by unfold seesP; simp [d1, d3])
      · rw [if_neg d1]
        by_cases d2 : q.1 = 1
        · rw [if_pos d2]
          by_cases d4 : q.2 = f / 5
          · rw [if_pos d4]; exact hT (by unfold seesP; simp [d2, d4])
          · rw [if_neg d4]; exact hF (by unfold seesP; simp [d2, d4])
        · rw [if_neg d2]; exact hF (by unfold seesP; simp [d1, d2])
theorem wf_l {E : Ev} {S : St} {f : Nat} (hE : EvOK E) (hf : f < 20) (hR : RulT (eρ E) (S.1 1)) : ∀ (k d i : Nat) (x : Int32) (A : Nat → Prop), i + d = 16 → d < k → SEp x A →
    ∃ x', zl2 (m_X1_withFile_B4 S (nI f)) k x (nI i) = some x' ∧ SEp x' (fun y => A y ∨ (i ≤ y ∧ FS (eρ E) f y)) := by
  intro k
  induction k with
  | zero => intro d i x A _ h; omega
  | succ k ih =>
    intro d i x A h1 h2 h3
    show ∃ x', m_X1_withFile_B4 S (nI f) (zl2 (m_X1_withFile_B4 S (nI f)) k) x (nI i) = _ ∧ _
    generalize zl2 (m_X1_withFile_B4 S (nI f)) k = G at ih ⊢
    unfold m_X1_withFile_B4
    match d, h1, h2 with
    | 0, h1, h2 =>
      rw [if_pos (by rw [le_nI (by omega) (by omega)]; omega)]
      exact ⟨x, rfl, SEp_if h3 (fun y hy => ⟨Or.inl, fun q => q.elim id (fun z => by omega)⟩)⟩
    | d + 1, h1, h2 =>
      rw [if_neg (by rw [le_nI (by omega) (by omega)]; omega), tg_1 (by omega) (by omega), zo_e, hR i (by omega) 4 (by omega)]
      have step : ∀ (x : Int32), SEp x (fun y => A y ∨ (y = i ∧ FS (eρ E) f i)) → ∃ x', G x (nI (i + 1)) = some x' ∧ SEp x' (fun y => A y ∨ (i ≤ y ∧ FS (eρ E) f y)) := fun x hx => by
        obtain ⟨x', b1, b2⟩ := ih d (i + 1) _ _ (by omega) (by omega) hx
        refine ⟨x', b1, SEp_if b2 (fun y hy => ⟨fun q => ?_, fun q => ?_⟩)⟩
        · rcases q with (q | q) | q
          · exact Or.inl q
          · exact Or.inr ⟨by omega, by rw [q.1]; exact q.2⟩
          · exact Or.inr ⟨by omega, q.2⟩
        · rcases q with q | q
          · exact Or.inl (Or.inl q)
          · by_cases hyi : y = i
            · subst hyi; exact Or.inl (Or.inr ⟨rfl, q.2⟩)
            · exact Or.inr ⟨by omega, q.2⟩
      cases hr : eρ E i with
      | none =>
        show ∃ x', zl2 (m_X1_withFile_B24 (-1) (nI i) G S (nI f)) 8192 x (nI 0) = some x' ∧ _
        have e : zl2 (m_X1_withFile_B24 (-1) (nI i) G S (nI f)) 8192 x (nI 0) = G x (nI (i + 1)) := by
          show m_X1_withFile_B24 (-1) (nI i) G S (nI f) (zl2 (m_X1_withFile_B24 (-1) (nI i) G S (nI f)) 8191) x (nI 0) = _
          generalize zl2 (m_X1_withFile_B24 (-1) (nI i) G S (nI f)) 8191 = H
          unfold m_X1_withFile_B24 m_X1_withFile_J110
          rw [if_pos (by decide), zb_e, nI_add]
        rw [e]
        exact step x (SEp_if h3 (fun y hy => ⟨Or.inl, fun q => q.elim id (fun ⟨_, r, z, _⟩ => by rw [hr] at z; cases z)⟩))
      | some r =>
        obtain ⟨x', a1, a2⟩ := wf_in hE (by omega) hf hr hR (rec4 := G) FU (ip r).length 0 x A (by omega) (FU_gt (by have := (hE.2 i r hr).2.2.2.2.2.1; omega)) h3
        show ∃ x', zl2 (m_X1_withFile_B24 (nI (ip r).length) (nI i) G S (nI f)) FU x (nI 0) = some x' ∧ _
        rw [a1]
        refine step x' (SEp_if a2 (fun y hy => ⟨fun q => ?_, fun q => ?_⟩))
        · rcases q with q | q
          · exact Or.inl q
          · exact Or.inr ⟨q.1, r, hr, q.2⟩
        · rcases q with q | ⟨q, r2, q2, q3⟩
          · exact Or.inl q
          · rw [hr] at q2; cases q2
            exact Or.inr ⟨q, q3⟩
theorem wf_v {E : Ev} {S : St} {f : Nat} (hE : EvOK E) (hf : f < 20) (hR : RulT (eρ E) (S.1 1)) : ∃ x', m_X1_withFile S (nI f) = some x' ∧ SEp x' (FS (eρ E) f) := by
  obtain ⟨x', a1, a2⟩ := wf_l hE hf hR FU 16 0 (nI 0) _ (by omega) (FU_gt (by omega)) SEp_0
  exact ⟨x', a1, SEp_if a2 (fun y hy => ⟨fun q => q.elim False.elim (fun z => z.2), fun q => Or.inr ⟨Nat.zero_le _, q⟩⟩)⟩
/-! the reference's first look -/
theorem fu_l {E : Ev} (hE : EvOK E) {S S' : St} (h6 : ∀ j, j < 16 → S.1 6 (j * 2 + 0) = dI (eρ E) j) (hR : RrT (eρ E) S') {p1 : Int32} {P : Nat → Prop}
    (hst : ∀ (rec36 : Int32 → Int32 → Option (Int32 × St)) (x : Int32) (i : Nat), i < 16 → (P i → m_X7_users_B36 S' p1 rec36 x (nI i) = rec36 (x ||| (nI 1 <<< (nI i &&& 31))) (nI (i + 1))) ∧ (¬ P i → m_X7_users_B36 S' p1 rec36 x (nI i) = rec36 x (nI (i + 1)))) : ∀ (k d i : Nat) (x : Int32) (A : Nat → Prop), i + d = 16 → d < k → SEp x A →
    ∃ x', zl2 (m_X7_users_B36 S' p1) k x (nI i) = zl2 (m_X7_users_B115 S' p1 x') FU x' (nI 0) ∧ SEp x' (fun y => A y ∨ (i ≤ y ∧ P y)) := by
  intro k
  induction k with
  | zero => intro d i x A _ h; omega
  | succ k ih =>
    intro d i x A h1 h2 h3
    show ∃ x', m_X7_users_B36 S' p1 (zl2 (m_X7_users_B36 S' p1) k) x (nI i) = _ ∧ _
    generalize zl2 (m_X7_users_B36 S' p1) k = G at ih ⊢
    match d, h1, h2 with
    | 0, h1, h2 =>
      unfold m_X7_users_B36
      rw [if_pos (by rw [le_nI (by omega) (by omega)]; omega)]
      exact ⟨x, rfl, SEp_if h3 (fun y hy => ⟨Or.inl, fun q => q.elim id (fun z => by omega)⟩)⟩
    | d + 1, h1, h2 =>
      obtain ⟨s1, s2⟩ := hst G x i (by omega)
      by_cases hu : P i
      · rw [s1 hu]
        obtain ⟨x', b1, b2⟩ := ih d (i + 1) _ _ (by omega) (by omega) (SEp_or h3 (SEp_1 (k := i) (by omega)))
        refine ⟨x', b1, SEp_if b2 (fun y hy => ⟨fun q => ?_, fun q => ?_⟩)⟩
        · rcases q with (q | q) | q
          · exact Or.inl q
          · subst q; exact Or.inr ⟨Nat.le_refl _, hu⟩
          · exact Or.inr ⟨by omega, q.2⟩
        · rcases q with q | q
          · exact Or.inl (Or.inl q)
          · by_cases hyi : y = i
            · exact Or.inl (Or.inr hyi)
            · exact Or.inr ⟨by omega, q.2⟩
      · rw [s2 hu]
        obtain ⟨x', b1, b2⟩ := ih d (i + 1) x A (by omega) (by omega) h3
        refine ⟨x', b1, SEp_if b2 (fun y hy => ⟨fun q => ?_, fun q => ?_⟩)⟩
        · rcases q with q | q
          · exact Or.inl q
          · exact Or.inr ⟨by omega, q.2⟩
        · rcases q with q | q
          · exact Or.inl q
          · by_cases hyi : y = i
            · subst hyi; exact absurd q.2 hu
            · exact Or.inr ⟨by omega, q.2⟩
theorem st_t {E : Ev} (hE : EvOK E) {S S' : St} (h6 : ∀ j, j < 16 → S.1 6 (j * 2 + 0) = dI (eρ E) j) (hR : RrT (eρ E) S') {t : Nat} (ht : t < 16) (rec36 : Int32 → Int32 → Option (Int32 × St)) (x : Int32) (i : Nat) (hi : i < 16) : (CL (DG (eρ E)) i t → m_X7_users_B36 S' (nI t) rec36 x (nI i) = rec36 (x ||| (nI 1 <<< (nI i &&& 31))) (nI (i + 1))) ∧ (¬ CL (DG (eρ E)) i t → m_X7_users_B36 S' (nI t) rec36 x (nI i) = rec36 x (nI (i + 1))) := by
  obtain ⟨v, -, a1, a3⟩ := both_c hE hi h6 hR
  obtain ⟨p1, p2⟩ := has7_v (S := S') ht a3
  unfold m_X7_users_B36 m_X7_users_J87 m_X7_users_J102
  simp only [nI_add, zb_e]
  rw [if_neg (by rw [le_nI (by omega) (by omega)]; omega), if_neg (by rw [le_nI (by omega) (by omega)]; omega), a1, zo_e]
  refine ⟨fun q => ?_, fun q => ?_⟩
  · rw [p1 q, zo_e, if_neg (by decide)]
  · rw [p2 q, zo_e, if_pos (by decide), show x ||| nI 0 = x from Int32.or_zero]
theorem st_f {E : Ev} (hE : EvOK E) {S' : St} (hR : RrT (eρ E) S') {f : Nat} (hf : f < 20) (rec36 : Int32 → Int32 → Option (Int32 × St)) (x : Int32) (i : Nat) (hi : i < 16) : (FS (eρ E) f i → m_X7_users_B36 S' (nI (100 + f)) rec36 x (nI i) = rec36 (x ||| (nI 1 <<< (nI i &&& 31))) (nI (i + 1))) ∧ (¬ FS (eρ E) f i → m_X7_users_B36 S' (nI (100 + f)) rec36 x (nI i) = rec36 x (nI (i + 1))) := by
  unfold m_X7_users_B36 m_X7_users_J86 m_X7_users_J87 m_X7_users_J102
  simp only [nI_add, zb_e]
  rw [if_neg (by rw [le_nI (by omega) (by omega)]; omega), if_pos (by rw [le_nI (by omega) (by omega)]; omega), zg_in hi (by omega), ri_n (by omega)]
  have e0 : nI (100 + f) - nI 100 = nI f := by rw [Nat.add_comm, ← nI_add]; exact Int32.add_sub_cancel _ _
  rw [e0]
  cases hr : eρ E i with
  | none =>
    rw [(hR i hi).1 hr, if_pos rfl, if_pos (by decide), show x ||| nI 0 = x from Int32.or_zero]
    exact ⟨fun ⟨r, q, _⟩ => (by rw [hr] at q; cases q), fun _ => rfl⟩
  | some r =>
    have hM := (hR i hi).2 r hr
    have hrr := hE.2 i r hr
    rw [hM.1, if_neg (nI_n1 (by have := hrr.1; omega)), seen_v hi hrr hM hf, zo_e]
    cases hb : sees r f with
    | true =>
      rw [if_neg (by decide), if_neg (by decide)]
      exact ⟨fun _ => rfl, fun q => absurd ⟨r, hr, hb⟩ q⟩
    | false =>
      rw [if_pos (by decide), if_pos (by decide), show x ||| nI 0 = x from Int32.or_zero]
      exact ⟨fun ⟨r2, q, q2⟩ => (by rw [hr] at q; cases q; rw [hb] at q2; cases q2), fun _ => rfl⟩
theorem ok_users {k : Nat} {Sc Sr : St} (h : INV k Sc Sr) : OK_users (INV (k + 1)) Sc Sr := by
  intro p1
  rcases idx p1 (n := 16) (by omega) with ⟨t, ht, rfl⟩ | hb
  · obtain ⟨E, g, hE, hW, hc, hr⟩ := INV_mono k Sc Sr h
    have hR := (RI_47 (v := nI 0) hr).2.1
    obtain ⟨S1, d1, d2, d3⟩ := draw_v hE (S := Sc) hc.2.1
    obtain ⟨x, a1, a2⟩ := tn_v hE d2 hR (SEp_1 (k := t) ht)
    obtain ⟨y, b1, b2⟩ := fu_l hE d2 hR (p1 := nI t) (P := fun i => CL (DG (eρ E)) i t) (fun G x i hi => st_t hE d2 hR ht G x i hi) FU 16 0 (nI 0) _ (by omega) (FU_gt (by omega)) SEp_0
    have exy : x = y := SEp_ext a2 b2 (fun i hi => ⟨fun ⟨j, _, q1, q2⟩ => Or.inr ⟨Nat.zero_le _, by rw [← q2]; exact q1⟩, fun q => q.elim False.elim (fun z => ⟨t, ht, z.2, rfl⟩)⟩)
    have e115 : zl2 (m_X7_users_B115 (wi Sr 47 0 (nI 0)) (nI t) y) FU y (nI 0) = some (y, wi Sr 47 0 (nI 0)) := by
      show m_X7_users_B115 (wi Sr 47 0 (nI 0)) (nI t) y (zl2 (m_X7_users_B115 (wi Sr 47 0 (nI 0)) (nI t) y) 8191) y (nI 0) = _
      generalize zl2 (m_X7_users_B115 (wi Sr 47 0 (nI 0)) (nI t) y) 8191 = H
      unfold m_X7_users_B115
      rw [if_neg (by decide), if_pos (by rw [le_nI (by omega) (by omega)]; omega)]
    refine ⟨.inr (x, S1), y, wi Sr 47 0 (nI 0), ?_, ?_, fun e q => (by cases q), fun r Sd q => ?_⟩
    · unfold m_X6_users
      rw [if_pos (by rw [i_lt (by omega), nT (by omega)]; omega), if_neg (nI_pos (by omega)), if_pos (by rw [i_lt (by omega), nT (by omega)]; omega), d1, zo_e, a1, zo_e]
    · unfold m_X7_users m_X7_users_J19 m_X7_users_J24
      rw [rtg_t ht, zo_e, if_neg (by decide), goes_0, zo2_e, if_neg (by decide), b1, e115]
    · cases q
      exact ⟨wi_at, by rw [exy]; rfl, E, g, hE, hW, RC_6 hc d3, RI_47 hr⟩
  · rcases idx p1 (n := 120) (by omega) with ⟨m, hm, rfl⟩ | hb2
    · have hb : 16 ≤ m := by
        rw [nT (by omega)] at hb
        omega
      by_cases hf : m < 100
      · refine ⟨.inl 1, nI 0, wi Sr 47 0 (nI 1), ?_, ?_, fun e q => (by cases q; exact ⟨rfl, wi_at, INV_47 h⟩), fun r Sd q => (by cases q)⟩
        · unfold m_X6_users
          rw [if_pos (by rw [i_lt (by omega), nT (by omega)]; omega), if_neg (nI_pos (by omega)), if_neg (by rw [i_lt (by omega), nT (by omega)]; omega)]
        · unfold m_X7_users m_X7_users_J24
          rw [rtg_f (by rw [nT (by omega)]; omega), zo_e, if_pos (by decide), isIn_f (by omega) (by omega) (by rw [nT (by omega)]; omega), zo_e, if_pos (by decide), goes_n (by omega), zo2_e, if_pos (by decide)]
      · obtain ⟨f, rfl⟩ : ∃ f, m = 100 + f := ⟨m - 100, by omega⟩
        have hf2 : f < 20 := by omega
        obtain ⟨E, g, hE, hW, hc, hr⟩ := INV_mono k Sc Sr h
        have hR := (RI_47 (v := nI 0) hr).2.1
        obtain ⟨S1, d1, d2, d3⟩ := draw_v hE (S := Sc) hc.2.1
        obtain ⟨w, w1, w2⟩ := wf_v (S := S1) hE hf2 (by rw [d3 1 (by omega)]; exact hc.2.1)
        obtain ⟨x, a1, a2⟩ := tn_v hE d2 hR w2
        obtain ⟨y, b1, b2⟩ := fu_l hE d2 hR (p1 := nI (100 + f)) (P := FS (eρ E) f) (fun G x i hi => st_f hE hR hf2 G x i hi) FU 16 0 (nI 0) _ (by omega) (FU_gt (by omega)) SEp_0
        have ewy : w = y := SEp_ext w2 b2 (fun i hi => ⟨fun q => Or.inr ⟨Nat.zero_le _, q⟩, fun q => q.elim False.elim (fun z => z.2)⟩)
        subst ewy
        obtain ⟨z, c1, c2⟩ := un_l hE d2 hR (s := w) (p1 := nI (100 + f)) w2 (by rw [le_nI (by omega) (by omega)]; omega) FU 16 0 w _ (by omega) (FU_gt (by omega)) w2
        have exy : w ||| x = z := SEp_ext (SEp_or w2 a2) c2 (fun i hi => ⟨fun q => q.elim Or.inl (fun p => Or.inr ⟨Nat.zero_le _, p⟩), fun q => q.elim Or.inl (fun p => Or.inr p.2)⟩)
        have e0 : nI (100 + f) - nI 100 = nI f := by rw [Nat.add_comm, ← nI_add]; exact Int32.add_sub_cancel _ _
        refine ⟨.inr (w ||| x, S1), z, wi Sr 47 0 (nI 0), ?_, ?_, fun e q => (by cases q), fun r Sd q => ?_⟩
        · unfold m_X6_users
          rw [if_neg (by rw [i_lt (by omega), nT (by omega)]; omega), if_neg (by rw [le_nI (by omega) (by omega)]; omega), d1, zo_e, e0, w1, zo_e, a1, zo_e]
        · unfold m_X7_users m_X7_users_J19 m_X7_users_J24
          rw [rtg_f (by rw [nT (by omega)]; omega), zo_e, if_pos (by decide), isIn_t (by omega) (by omega) (by rw [nT (by omega)]; omega), zo_e, if_neg (by decide), goes_0, zo2_e, if_neg (by decide), b1, c1]
        · cases q
          exact ⟨wi_at, by rw [exy]; rfl, E, g, hE, hW, RC_6 hc d3, RI_47 hr⟩
    · refine ⟨.inl 1, nI 0, wi Sr 47 0 (nI 1), ?_, ?_, fun e q => (by cases q; exact ⟨rfl, wi_at, INV_47 h⟩), fun r Sd q => (by cases q)⟩
      · unfold m_X6_users
        rcases hb2 with hb2 | hb2
        · rw [if_pos (by rw [i_lt (by omega)]; omega), if_pos (by rw [i_lt0]; exact hb2)]
        · rw [if_neg (by rw [i_lt (by omega)]; omega), if_pos (by rw [le_i (by omega)]; exact hb2), if_neg (by rw [i_lt0]; omega), if_neg (by rw [i_lt (by omega)]; omega)]
      · unfold m_X7_users m_X7_users_J24
        rw [rtg_f hb, zo_e, if_pos (by decide), isIn_f (by omega) (by omega) (by omega), zo_e, if_pos (by decide), goes_n (by omega), zo2_e, if_pos (by decide)]
