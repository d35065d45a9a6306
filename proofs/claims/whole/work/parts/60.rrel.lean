/-! the reference's state and the abstract one -/
theorem wi_ne {S : St} {k i : Nat} {v : Int32} {k2 j : Nat} (h : ¬ (k2 = k ∧ j = i)) : (wi S k i v).1 k2 j = S.1 k2 j := by
  rw [wi_1]
  by_cases h1 : k2 = k
  · rw [if_pos h1, if_neg (fun h2 => h ⟨h1, h2⟩)]
  · rw [if_neg h1]
theorem wi_at {S : St} {k i : Nat} {v : Int32} : (wi S k i v).1 k i = v := by rw [wi_1, if_pos rfl, if_pos rfl]
theorem wj_ne {S : St} {k i : Nat} {v : Int64} {k2 j : Nat} (h : ¬ (k2 = k ∧ j = i)) : (wj S k i v).2 k2 j = S.2 k2 j := by
  rw [wj_2]
  by_cases h1 : k2 = k
  · rw [if_pos h1, if_neg (fun h2 => h ⟨h1, h2⟩)]
  · rw [if_neg h1]
theorem wj_at {S : St} {k i : Nat} {v : Int64} : (wj S k i v).2 k i = v := by rw [wj_2, if_pos rfl, if_pos rfl]
def RrT (ρ : Nat → Option Rul) (S : St) : Prop := ∀ t, t < 16 → (ρ t = none → S.1 1 t = -1) ∧ ∀ r, ρ t = some r → RrM S t r
def LoR (g : Gs) (S : St) : Prop := ∀ n, n < 32 → gDn g n ≤ 5 ∧ (gDn g n = 0 → S.1 29 n = nI 0) ∧ (gDn g n = 5 → S.1 29 n = nI 1) ∧ (¬ gDn g n = 0 → ¬ gDn g n = 5 → S.1 29 n = nI 2 ∧ S.1 30 n = enA (gAn g n))
def KeR1 (n : Nat) (q : Kp) (aw : Nat → Bool) (S : St) : Prop := S.1 15 n = nI 1 ∧ S.2 16 n = lN (encR q.1) ∧ S.1 17 n = nI (tm q.1) ∧ S.1 18 n = nI q.2.1.length ∧
  (∀ j x, q.2.1[j]? = some x → S.1 19 (5 * n + j) = nI x.1 ∧ (x.1 = 4 → S.1 20 (5 * n + j) = nI x.2.2.1) ∧ S.2 21 (5 * n + j) = encV x) ∧ S.1 22 n = nI q.2.2.1 ∧ S.1 23 n = nI q.2.2.2 ∧ S.1 24 n = bI (aw q.2.2.2)
def KeR (K : Nat → Option Kp) (aw : Nat → Bool) (S : St) : Prop := ∀ n, n < 32 → (K n = none → S.1 15 n = nI 0) ∧ ∀ q, K n = some q → KeR1 n q aw S
def EnR (S : St) (i : Nat) (e : En) : Prop := S.2 26 (6 * i) = lN (2 * encR e.1 + e.2.1) ∧ (∀ j, j < 5 → S.2 26 (6 * i + 1 + j) = keyJ e.2.2.1 j) ∧ S.1 27 i = nI e.2.2.2.1 ∧ S.1 28 i = nI e.2.2.2.2
def CaR (L : List En) (S : St) : Prop := S.1 25 0 = nI L.length ∧ ∀ i e, L[i]? = some e → EnR S i e
def DoR (g : Gs) (S : St) : Prop := ∀ n, n < 32 → (¬ gDn g n = 5 → S.1 31 n = nI (gDn g n)) ∧ S.1 32 n = nI (gWy g n) ∧ (gDn g n = 0 → gWy g n = 0)
def cG (g : Gs) (h : Nat) : Nat := cntB (fun n => decide (gDn g n = h)) 32
def CoR (g : Gs) (S : St) : Prop := S.1 33 0 = nI (gRn g) ∧ S.1 33 1 = nI (cG g 2) ∧ S.1 33 2 = nI (cG g 1) ∧ S.1 33 3 = nI (32 - uG g)
def MaR (E : Ev) (g : Gs) (S : St) : Prop := (∀ m, m < 3 → S.1 9 m = bI (ePo E m) ∧ S.1 10 m = bI (gAw g m)) ∧ (∀ t, t < 16 → S.1 8 t = nI (gTf g t)) ∧ S.1 11 0 = nI (gTu g) ∧ S.1 12 0 = bI (eCk E) ∧ S.1 13 0 = nI (gVn g) ∧ S.1 14 0 = gLk g
def RR0 (E : Ev) (g : Gs) (S : St) : Prop := FilT (eφ E) (S.1 0) ∧ RrT (eρ E) S ∧ LoR g S ∧ S.1 34 0 = nI (bG g)
def RB (E : Ev) (g : Gs) (S : St) : Prop := RR0 E g S ∧ S.1 43 0 = 0 ∧ MaR E g S ∧ KeR (gK g) (gAw g) S ∧ CaR (gL g) S ∧ DoR g S ∧ CoR g S
def ReR (g : Gs) (S : St) : Prop := ∀ n, n < 32 → gDn g n = 3 → (gRd g n).length ≤ 5 ∧ S.1 38 n = nI (gRd g n).length ∧ ∀ j x, (gRd g n)[j]? = some x → S.1 39 (5 * n + j) = nI x.1
def RPl (E : Ev) (S0 : St) (g : Gs) (S : St) : Prop := RR0 E g S ∧ S.1 43 0 = nI 1 ∧ (∀ k i, k < 29 ∨ 43 < k → S.1 k i = S0.1 k i) ∧ (∀ i, ¬ i = 3 → S.1 33 i = S0.1 33 i) ∧ (∀ k i, ¬ k = 41 → ¬ k = 42 → S.2 k i = S0.2 k i) ∧ ReR g S
/-- what may change while a node is being looked at -/
def DIF (n : Nat) (S S' : St) : Prop := (∀ k i, ¬ (k = 36 ∧ i = n) → ¬ (k = 37 ∧ i = n) → ¬ (k = 38 ∧ i = n) → ¬ ((k = 39 ∨ k = 40) ∧ 5 * n ≤ i ∧ i < 5 * n + 5) → S'.1 k i = S.1 k i) ∧
  ∀ k i, ¬ (k = 41 ∧ 5 * n ≤ i ∧ i < 5 * n + 5) → ¬ k = 42 → S'.2 k i = S.2 k i
theorem DIF_rf {n : Nat} {S : St} : DIF n S S := ⟨fun _ _ _ _ _ _ => rfl, fun _ _ _ _ => rfl⟩
theorem DIF_tr {n : Nat} {S S1 S2 : St} (h1 : DIF n S S1) (h2 : DIF n S1 S2) : DIF n S S2 :=
  ⟨fun k i a b c d => (h2.1 k i a b c d).trans (h1.1 k i a b c d), fun k i a b => (h2.2 k i a b).trans (h1.2 k i a b)⟩
theorem DIF_lo {n : Nat} {S S' : St} (h : DIF n S S') {k i : Nat} (hk : k < 36 ∨ 40 < k) : S'.1 k i = S.1 k i := h.1 k i (by omega) (by omega) (by omega) (by omega)
theorem RrM_eq {S S' : St} {t : Nat} {r : Rul} (h : RrM S t r) (e : ∀ k i, k < 8 → S'.1 k i = S.1 k i) : RrM S' t r := by
  unfold RrM at h ⊢
  rw [e _ _ (by omega), e _ _ (by omega), e _ _ (by omega), e _ _ (by omega), e _ _ (by omega)]
  obtain ⟨a1, a2, a3, a4, a5, a6⟩ := h
  refine ⟨a1, a2, a3, a4, a5, fun i q hq => ?_⟩
  rw [e _ _ (by omega), e _ _ (by omega)]
  exact a6 i q hq
theorem RrT_eq {ρ : Nat → Option Rul} {S S' : St} (h : RrT ρ S) (e : ∀ k i, k < 8 → S'.1 k i = S.1 k i) : RrT ρ S' := fun t ht => by
  refine ⟨fun hr => ?_, fun r hr => RrM_eq ((h t ht).2 r hr) e⟩
  rw [e _ _ (by omega)]
  exact (h t ht).1 hr
theorem FilT_eq {φ : Nat → Option Nat} {S S' : St} (h : FilT φ (S.1 0)) (e : ∀ k i, k < 8 → S'.1 k i = S.1 k i) : FilT φ (S'.1 0) := fun i hi => by
  rw [e _ _ (by omega)]; exact h i hi
theorem LoR_eq {g g' : Gs} {S S' : St} (h : LoR g S) (e1 : gDn g' = gDn g) (e2 : gAn g' = gAn g) (e : ∀ k i, k = 29 ∨ k = 30 → S'.1 k i = S.1 k i) : LoR g' S' := fun n hn => by
  rw [e1, e2, e _ _ (Or.inl rfl), e _ _ (Or.inr rfl)]
  exact h n hn
theorem KeR1_eq {n : Nat} {q : Kp} {aw : Nat → Bool} {S S' : St} (h : KeR1 n q aw S) (e : ∀ k i, k < 25 → S'.1 k i = S.1 k i) (e2 : ∀ k i, k < 25 → S'.2 k i = S.2 k i) : KeR1 n q aw S' := by
  obtain ⟨a1, a2, a3, a4, a5, a6, a7, a8⟩ := h
  unfold KeR1
  rw [e _ _ (by omega), e2 _ _ (by omega), e _ _ (by omega), e _ _ (by omega), e _ _ (by omega), e _ _ (by omega), e _ _ (by omega)]
  refine ⟨a1, a2, a3, a4, fun j x hx => ?_, a6, a7, a8⟩
  rw [e _ _ (by omega), e _ _ (by omega), e2 _ _ (by omega)]
  exact a5 j x hx
theorem KeR_eq {K : Nat → Option Kp} {aw : Nat → Bool} {S S' : St} (h : KeR K aw S) (e : ∀ k i, k < 25 → S'.1 k i = S.1 k i) (e2 : ∀ k i, k < 25 → S'.2 k i = S.2 k i) : KeR K aw S' := fun n hn => by
  refine ⟨fun hk => ?_, fun q hq => KeR1_eq ((h n hn).2 q hq) e e2⟩
  rw [e _ _ (by omega)]
  exact (h n hn).1 hk
theorem CaR_eq {L : List En} {S S' : St} (h : CaR L S) (e : ∀ k i, k = 25 ∨ k = 27 ∨ k = 28 → S'.1 k i = S.1 k i) (e2 : ∀ i, S'.2 26 i = S.2 26 i) : CaR L S' := by
  obtain ⟨h1, h2⟩ := h
  refine ⟨by rw [e _ _ (by omega)]; exact h1, fun i x hx => ?_⟩
  obtain ⟨a1, a2, a3, a4⟩ := h2 i x hx
  refine ⟨by rw [e2]; exact a1, fun j hj => by rw [e2]; exact a2 j hj, by rw [e _ _ (by omega)]; exact a3, by rw [e _ _ (by omega)]; exact a4⟩
theorem MaR_eq {E : Ev} {g g' : Gs} {S S' : St} (h : MaR E g S) (e1 : gAw g' = gAw g) (e2 : gTf g' = gTf g) (e3 : gTu g' = gTu g) (e4 : gVn g' = gVn g) (e5 : gLk g' = gLk g) (e : ∀ k i, 8 ≤ k → k < 15 → S'.1 k i = S.1 k i) : MaR E g' S' := by
  obtain ⟨a1, a2, a3, a4, a5, a6⟩ := h
  unfold MaR
  rw [e1, e2, e3, e4, e5, e 11 _ (by omega) (by omega), e 12 _ (by omega) (by omega), e 13 _ (by omega) (by omega), e 14 _ (by omega) (by omega)]
  refine ⟨fun m hm => ?_, fun t ht => ?_, a3, a4, a5, a6⟩
  · rw [e _ _ (by omega) (by omega), e _ _ (by omega) (by omega)]; exact a1 m hm
  · rw [e _ _ (by omega) (by omega)]; exact a2 t ht
theorem DoR_eq {g g' : Gs} {S S' : St} (h : DoR g S) (e1 : gDn g' = gDn g) (e2 : gWy g' = gWy g) (e : ∀ k i, k = 31 ∨ k = 32 → S'.1 k i = S.1 k i) : DoR g' S' := fun n hn => by
  rw [e1, e2, e _ _ (Or.inl rfl), e _ _ (Or.inr rfl)]
  exact h n hn
theorem uG_eq {g g' : Gs} (h : gDn g' = gDn g) : uG g' = uG g := by unfold uG; rw [h]
theorem bG_eq {g g' : Gs} (h : gDn g' = gDn g) : bG g' = bG g := by unfold bG; rw [h]
theorem cG_eq {g g' : Gs} (h : gDn g' = gDn g) (x : Nat) : cG g' x = cG g x := by unfold cG; rw [h]
theorem CoR_eq {g g' : Gs} {S S' : St} (h : CoR g S) (e1 : gDn g' = gDn g) (e2 : gRn g' = gRn g) (e : ∀ i, S'.1 33 i = S.1 33 i) : CoR g' S' := by
  unfold CoR at h ⊢
  rw [cG_eq e1, cG_eq e1, uG_eq e1, e2, e, e, e, e]
  exact h
theorem RR0_eq {E : Ev} {g g' : Gs} {S S' : St} (h : RR0 E g S) (e1 : gDn g' = gDn g) (e2 : gAn g' = gAn g) (e : ∀ k i, k < 8 ∨ k = 29 ∨ k = 30 ∨ k = 34 → S'.1 k i = S.1 k i) : RR0 E g' S' := by
  obtain ⟨a1, a2, a3, a4⟩ := h
  refine ⟨FilT_eq a1 (fun k i h => e k i (by omega)), RrT_eq a2 (fun k i h => e k i (by omega)), LoR_eq a3 e1 e2 (fun k i h => e k i (by omega)), ?_⟩
  rw [e _ _ (by omega), bG_eq e1]; exact a4
/-- what the walks of the reference's look ask of a relation -/
def RCL (R : Gs → St → Prop) (E : Ev) : Prop := (∀ g S, R g S → RR0 E g S) ∧ ∀ g S S' n, R g S → gDn g n = 5 → DIF n S S' → R g S'
theorem RB_dif {E : Ev} : RCL (RB E) E := by
  refine ⟨fun g S h => h.1, fun g S S' n h h5 hd => ?_⟩
  obtain ⟨a1, a2, a3, a4, a5, a6, a7⟩ := h
  have e := fun k i (hk : k < 36 ∨ 40 < k) => DIF_lo (i := i) hd hk
  refine ⟨RR0_eq a1 rfl rfl (fun k i h => e k i (by omega)), by rw [e _ _ (by omega)]; exact a2, MaR_eq a3 rfl rfl rfl rfl rfl (fun k i _ _ => e k i (by omega)), KeR_eq a4 (fun k i _ => e k i (by omega)) (fun k i _ => hd.2 k i (by omega) (by omega)), CaR_eq a5 (fun k i _ => e k i (by omega)) (fun i => hd.2 26 i (by omega) (by omega)), DoR_eq a6 rfl rfl (fun k i _ => e k i (by omega)), CoR_eq a7 rfl rfl (fun i => e 33 i (by omega))⟩
theorem RPl_dif {E : Ev} {S0 : St} : RCL (RPl E S0) E := by
  refine ⟨fun g S h => h.1, fun g S S' n h h5 hd => ?_⟩
  obtain ⟨a1, a2, a3, a4, a5, a6⟩ := h
  have e := fun k i (hk : k < 36 ∨ 40 < k) => DIF_lo (i := i) hd hk
  refine ⟨RR0_eq a1 rfl rfl (fun k i h => e k i (by omega)), by rw [e _ _ (by omega)]; exact a2, fun k i hk => (e k i (by omega)).trans (a3 k i hk), fun i hi => (e 33 i (by omega)).trans (a4 i hi), fun k i h1 h2 => (hd.2 k i (by omega) h2).trans (a5 k i h1 h2), fun m hm hdn => ?_⟩
  have hne : ¬ m = n := fun q => by subst q; omega
  obtain ⟨b0, b1, b2⟩ := a6 m hm hdn
  rw [hd.1 38 m (by omega) (by omega) (by omega) (by omega)]
  refine ⟨b0, b1, fun j x hx => ?_⟩
  have hj := (List.getElem?_eq_some_iff.mp hx).1
  rw [hd.1 39 (5 * m + j) (by omega) (by omega) (by omega) (by omega)]
  exact b2 j x hx
/-! steps of the reference's loop -/
def Steps (k : Nat) (S S' : St) : Prop := ∀ p1 f, zl1 (m_X7_looks_B31 p1) (f + k) S = zl1 (m_X7_looks_B31 p1) f S'
theorem Steps_0 {S : St} : Steps 0 S S := fun _ _ => rfl
theorem Steps_tr {a b : Nat} {S S1 S2 : St} (h1 : Steps a S S1) (h2 : Steps b S1 S2) : Steps (a + b) S S2 := fun p1 f => by
  rw [show f + (a + b) = (f + b) + a by omega, h1, h2]
theorem step_r {S S' : St} {h n : Nat} (hh : h < 40) (hn : n < 32) (e1 : S.1 34 0 = nI (h + 1)) (e2 : S.1 35 h = nI n) (e3 : S.1 36 n = nI 0) (e : m_X7_readsOne S (nI n) = some S') : Steps 1 S S' := fun p1 f => by
  show m_X7_looks_B31 p1 (zl1 (m_X7_looks_B31 p1) f) S = _
  generalize zl1 (m_X7_looks_B31 p1) f = G
  unfold m_X7_looks_B31
  have e4 : nI (h + 1) - nI 1 = nI h := pk_sub (by omega)
  rw [show rs S 34 = nI (h + 1) from e1, if_neg (nI_nle (by omega) (by omega)), e4, zg_in hh (by omega), ri_n (by omega), e2, zb_e, zg_in hn (by omega), ri_n (by omega), e3, if_pos (by decide), e, zo_e]
theorem step_c {S S' : St} {h n : Nat} (hh : h < 40) (hn : n < 32) (e1 : S.1 34 0 = nI (h + 1)) (e2 : S.1 35 h = nI n) (e3 : S.1 36 n = nI 1) (e : m_X7_comparesOne S (nI n) = some S') : Steps 1 S S' := fun p1 f => by
  show m_X7_looks_B31 p1 (zl1 (m_X7_looks_B31 p1) f) S = _
  generalize zl1 (m_X7_looks_B31 p1) f = G
  unfold m_X7_looks_B31
  have e4 : nI (h + 1) - nI 1 = nI h := pk_sub (by omega)
  rw [show rs S 34 = nI (h + 1) from e1, if_neg (nI_nle (by omega) (by omega)), e4, zg_in hh (by omega), ri_n (by omega), e2, zb_e, zg_in hn (by omega), ri_n (by omega), e3, if_neg (by decide), e, zo_e]
/-- what is left of other nodes that are being looked at, and of the pile below -/
def KP (h n : Nat) (g : Gs) (S S' : St) : Prop := (∀ m, m < 32 → ¬ m = n → gDn g m = 5 → S'.1 32 m = S.1 32 m ∧ S'.1 36 m = S.1 36 m ∧ S'.1 37 m = S.1 37 m ∧ S'.1 38 m = S.1 38 m ∧ ∀ j, j < 5 → S'.1 39 (5 * m + j) = S.1 39 (5 * m + j) ∧ S'.1 40 (5 * m + j) = S.1 40 (5 * m + j) ∧ S'.2 41 (5 * m + j) = S.2 41 (5 * m + j)) ∧
  (∀ i, i < h → S'.1 35 i = S.1 35 i) ∧ S'.1 47 0 = S.1 47 0
theorem KP_rf {h n : Nat} {g : Gs} {S : St} : KP h n g S S := ⟨fun _ _ _ _ => ⟨rfl, rfl, rfl, rfl, fun _ _ => ⟨rfl, rfl, rfl⟩⟩, fun _ _ => rfl, rfl⟩
theorem KP_tr {h n : Nat} {g g' : Gs} {S S1 S2 : St} (h1 : KP h n g S S1) (h2 : KP h n g' S1 S2) (ha : ∀ m, ¬ m = n → gDn g m = 5 → gDn g' m = 5) : KP h n g S S2 := by
  refine ⟨fun m hm hn hd => ?_, fun i hi => (h2.2.1 i hi).trans (h1.2.1 i hi), h2.2.2.trans h1.2.2⟩
  obtain ⟨a1, a2, a3, a4, a5⟩ := h1.1 m hm hn hd
  obtain ⟨b1, b2, b3, b4, b5⟩ := h2.1 m hm hn (ha m hn hd)
  refine ⟨b1.trans a1, b2.trans a2, b3.trans a3, b4.trans a4, fun j hj => ?_⟩
  obtain ⟨c1, c2, c3⟩ := a5 j hj
  obtain ⟨d1, d2, d3⟩ := b5 j hj
  exact ⟨d1.trans c1, d2.trans c2, d3.trans c3⟩
theorem KP_dif {h n : Nat} {g : Gs} {S S' : St} (hd : DIF n S S') : KP h n g S S' := by
  refine ⟨fun m hm hne _ => ⟨hd.1 _ _ (by omega) (by omega) (by omega) (by omega), hd.1 _ _ (by omega) (by omega) (by omega) (by omega), hd.1 _ _ (by omega) (by omega) (by omega) (by omega), hd.1 _ _ (by omega) (by omega) (by omega) (by omega), fun j hj => ⟨hd.1 _ _ (by omega) (by omega) (by omega) (by omega), hd.1 _ _ (by omega) (by omega) (by omega) (by omega), hd.2 _ _ (by omega) (by omega)⟩⟩, fun i hi => hd.1 _ _ (by omega) (by omega) (by omega) (by omega), hd.1 _ _ (by omega) (by omega) (by omega) (by omega)⟩
/-- nothing in progress is touched -/
theorem KP_out {h n : Nat} {g : Gs} {S S' : St} (h1 : ∀ k i, k = 35 ∨ k = 36 ∨ k = 37 ∨ k = 38 ∨ k = 39 ∨ k = 40 ∨ k = 47 → S'.1 k i = S.1 k i) (h2 : ∀ i, S'.2 41 i = S.2 41 i) (h3 : ∀ m, ¬ m = n → S'.1 32 m = S.1 32 m) : KP h n g S S' :=
  ⟨fun m _ hne _ => ⟨h3 m hne, h1 _ _ (by omega), h1 _ _ (by omega), h1 _ _ (by omega), fun j _ => ⟨h1 _ _ (by omega), h1 _ _ (by omega), h2 _⟩⟩, fun i _ => h1 _ _ (by omega), h1 _ _ (by omega)⟩
