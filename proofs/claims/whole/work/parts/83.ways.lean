/-! the shortest ring, and a way -/
theorem nI_m1 {r : Nat} : nI (r + 1) + (-1) = nI r := by
  rw [← nI_add, Int32.add_assoc, show nI 1 + (-1) = (0 : Int32) from by decide, Int32.add_zero]
theorem nI_sb {a f : Nat} : nI (a + f) - nI a = nI f := by rw [Nat.add_comm, ← nI_add]; exact Int32.add_sub_cancel _ _
def WR (D : Nat → Nat → Prop) (t i m : Nat) : Prop := ∃ y, y < i ∧ y < 16 ∧ D t y ∧ wk D m y t
def RST (D : Nat → Nat → Prop) (t i : Nat) (v : Int32) : Prop := (∃ m, m < 16 ∧ WR D t i m ∧ (∀ m2, m2 < m → ¬ WR D t i m2) ∧ v = nI (m + 1)) ∨ ((∀ m, m < 16 → ¬ WR D t i m) ∧ v = -1)
theorem RST_eq {D : Nat → Nat → Prop} {t i j : Nat} {v : Int32} (h : RST D t i v) (e : ∀ m, m < 16 → (WR D t i m ↔ WR D t j m)) : RST D t j v := by
  rcases h with ⟨m, h1, h2, h3, h4⟩ | ⟨h1, h2⟩
  · exact Or.inl ⟨m, h1, (e m h1).mp h2, fun m2 q z => h3 m2 q ((e m2 (by omega)).mpr z), h4⟩
  · exact Or.inr ⟨fun m hm q => h1 m hm ((e m hm).mpr q), h2⟩
theorem sr_l {E : Ev} (hE : EvOK E) {S0 S1 : St} {t : Nat} (ht : t < 16) (hG : GRW E S0 S1) (hD : ∀ x, x < 16 → DR1 (DG (eρ E)) t 16 x (S1.1 6 (x * 2 + 1))) : ∀ (k d i : Nat) (v : Int32), i + d = 16 → d < k → RST (DG (eρ E)) t i v →
    ∃ w, zl2 (m_X1_shortestRing_B9 S1 (nI t)) k v (nI i) = some (w, S1) ∧ RST (DG (eρ E)) t 16 w := by
  intro k
  induction k with
  | zero => intro d i v _ h; omega
  | succ k ih =>
    intro d i v h1 h2 h3
    show ∃ w, m_X1_shortestRing_B9 S1 (nI t) (zl2 (m_X1_shortestRing_B9 S1 (nI t)) k) v (nI i) = _ ∧ _
    generalize zl2 (m_X1_shortestRing_B9 S1 (nI t)) k = G at ih ⊢
    unfold m_X1_shortestRing_B9 m_X1_shortestRing_J78 m_X1_shortestRing_J78b m_X1_shortestRing_J78bb
    simp only [nI_add, zb_e]
    match d, h1, h2 with
    | 0, h1, h2 =>
      rw [if_pos (by rw [le_nI (by omega) (by omega)]; omega)]
      have e : i = 16 := by omega
      subst e
      exact ⟨v, rfl, h3⟩
    | d + 1, h1, h2 =>
      rw [if_neg (by rw [le_nI (by omega) (by omega)]; omega), tg_6 (by omega) (by omega), zo_e, tg_6 ht (by omega), zo_e, hG.1 t ht]
      obtain ⟨p1, p2⟩ := has1_v (S := S1) (k := i) (by omega) (dI_s hE t)
      obtain ⟨r1, r2⟩ := hD i (by omega)
      have up : ∀ m, WR (DG (eρ E)) t i m → WR (DG (eρ E)) t (i + 1) m := fun m ⟨y, y1, y2⟩ => ⟨y, by omega, y2⟩
      by_cases hp : DG (eρ E) t i
      · rw [p1 hp, zo_e, if_neg (by decide)]
        by_cases hw : ∃ n, n < 16 ∧ wk (DG (eρ E)) n i t
        · obtain ⟨n, n1, n2⟩ := ld_ex hw
          rw [r1 n n1 n2, if_neg (nI_n1 (by omega)), nI_add]
          have hn : WR (DG (eρ E)) t (i + 1) n := ⟨i, by omega, by omega, hp, n2.1⟩
          have hd : ∀ m, WR (DG (eρ E)) t (i + 1) m → WR (DG (eρ E)) t i m ∨ n ≤ m := fun m ⟨y, y1, y2, y3, y4⟩ => by
            by_cases hyi : y = i
            · subst hyi
              exact Or.inr (Classical.byContradiction (fun z => n2.2 m (by omega) y4))
            · exact Or.inl ⟨y, by omega, y2, y3, y4⟩
          rcases h3 with ⟨m, m1, m2, m3, rfl⟩ | ⟨m1, rfl⟩
          · rw [if_neg (nI_n1 (by omega))]
            by_cases hmn : m ≤ n
            · rw [if_pos (by rw [le_nI (by omega) (by omega)]; omega)]
              exact ih d (i + 1) _ (by omega) (by omega) (Or.inl ⟨m, m1, up m m2, fun m4 q z => (hd m4 z).elim (m3 m4 q) (fun z => by omega), rfl⟩)
            · rw [if_neg (by rw [le_nI (by omega) (by omega)]; omega)]
              exact ih d (i + 1) _ (by omega) (by omega) (Or.inl ⟨n, n1, hn, fun m4 q z => (hd m4 z).elim (m3 m4 (by omega)) (fun z => by omega), rfl⟩)
          · rw [if_pos rfl]
            exact ih d (i + 1) _ (by omega) (by omega) (Or.inl ⟨n, n1, hn, fun m4 q z => (hd m4 z).elim (m1 m4 (by omega)) (fun z => by omega), rfl⟩)
        · rw [r2 (fun n hn q => hw ⟨n, hn, q⟩), if_pos rfl]
          refine ih d (i + 1) _ (by omega) (by omega) (RST_eq h3 (fun m hm => ⟨up m, fun ⟨y, y1, y2, y3, y4⟩ => ?_⟩))
          by_cases hyi : y = i
          · subst hyi; exact absurd ⟨m, hm, y4⟩ hw
          · exact ⟨y, by omega, y2, y3, y4⟩
      · rw [p2 hp, zo_e, if_pos (by decide)]
        refine ih d (i + 1) _ (by omega) (by omega) (RST_eq h3 (fun m hm => ⟨up m, fun ⟨y, y1, y2, y3, y4⟩ => ?_⟩))
        by_cases hyi : y = i
        · subst hyi; exact absurd y3 hp
        · exact ⟨y, by omega, y2, y3, y4⟩
theorem RST_sv {D : Nat → Nat → Prop} {t : Nat} {v : Int32} (h : RST D t 16 v) : SV D t t v := by
  have e : ∀ m, WR D t 16 m ↔ wk D (m + 1) t t := fun m => ⟨fun ⟨y, y1, y2, y3, y4⟩ => ⟨y, y1, y3, y4⟩, fun ⟨y, y1, y3, y4⟩ => ⟨y, y1, y1, y3, y4⟩⟩
  rcases h with ⟨m, m1, m2, m3, rfl⟩ | ⟨m1, rfl⟩
  · refine Or.inl ⟨m + 1, by omega, ⟨by omega, (e m).mp m2, fun m4 q1 q2 z => ?_⟩, rfl⟩
    refine m3 (m4 - 1) (by omega) ((e _).mpr ?_)
    rwa [show m4 - 1 + 1 = m4 by omega]
  · refine Or.inr ⟨fun s s1 s2 z => m1 (s - 1) (by omega) ((e _).mpr ?_), rfl⟩
    rwa [show s - 1 + 1 = s by omega]
theorem ok_ring {k : Nat} {Sc Sr : St} (h : INV k Sc Sr) : OK_ring (INV (k + 1)) Sc Sr := by
  intro p1
  rcases idx p1 (n := 16) (by omega) with ⟨t, ht, rfl⟩ | hb
  · obtain ⟨E, g, hE, hW, hc, hr⟩ := INV_mono k Sc Sr h
    have hR := (RI_47 (v := nI 0) hr).2.1
    obtain ⟨S1, d1, d2, d3⟩ := draw_v hE (S := Sc) hc.2.1
    obtain ⟨S2, e1, e2, e3⟩ := me_v hE ht d2
    obtain ⟨w, f1, f2⟩ := sr_l hE ht e2 e3 FU 16 0 (-1) (by omega) (FU_gt (by omega)) (Or.inr ⟨fun m _ ⟨y, y1, _⟩ => by omega, rfl⟩)
    obtain ⟨v, g1, g2⟩ := sp_v hE hR ht ht
    have hwv : w = v := SV_u (RST_sv f2) g2
    refine ⟨.inr (w, S2), v, wi Sr 47 0 (nI 0), ?_, ?_, fun e q => (by cases q), fun r Sd q => ?_⟩
    · unfold m_X6_ring m_X1_shortestRing
      rw [rot_t ht, zx_r, d1, zo_e, e1, zo_e]
      show zo2 (zl2 (m_X1_shortestRing_B9 S2 (nI t)) FU (-1) (nI 0)) _ = _
      rw [f1, zo2_e]
    · unfold m_X7_ring
      rw [rtg_t ht, zo_e, if_neg (by decide), goes_0, zo2_e, if_neg (by decide), g1, zo_e]
    · cases q
      exact ⟨wi_at, by rw [hwv]; rfl, E, g, hE, hW, RC_6 hc (fun k q => by rw [e2.2 k q, d3 k q]), RI_47 hr⟩
  · refine ⟨.inl 1, nI 0, wi Sr 47 0 (nI 1), ?_, ?_, fun e q => (by cases q; exact ⟨rfl, wi_at, INV_47 h⟩), fun r Sd q => (by cases q)⟩
    · unfold m_X6_ring
      rw [rot_f hb, zx_l]
    · unfold m_X7_ring
      rw [rtg_f hb, zo_e, if_pos (by decide), goes_n (by omega), zo2_e, if_pos (by decide)]
/-! a way -/
theorem fp_ld {D : Nat → Nat → Prop} {s a e : Nat} (h : ¬ a = e) (hf : FP D s a e) : LD D s a e := ⟨hf.2.1, fun m hm q => by
  by_cases h0 : m = 0
  · subst h0; exact h q
  · exact hf.2.2 m (by omega) hm q⟩
theorem ld_fp {D : Nat → Nat → Prop} {s a e : Nat} (h : LD D (s + 1) a e) : ¬ a = e ∧ FP D (s + 1) a e := ⟨fun q => h.2 0 (by omega) q, by omega, h.1, fun m _ hm => h.2 m hm⟩
theorem dist_v {D : Nat → Nat → Prop} {a e : Nat} {c v : Int32} (ha : a < 16) (h : ¬ a = e) (h1 : DR1 D e 16 a c) (h2 : SV D a e v) : c = v ∧ ((∃ n, n < 16 ∧ LD D n a e ∧ v = nI n) ∨ v = -1) := by
  rcases h2 with ⟨s, s1, s2, rfl⟩ | ⟨s1, rfl⟩
  · have h3 := fp_ld h s2
    have h4 := ld_15 ha h3
    exact ⟨h1.1 s (by omega) h3, Or.inl ⟨s, by omega, h3, rfl⟩⟩
  · refine ⟨h1.2 (fun n hn q => ?_), Or.inr rfl⟩
    by_cases h0 : n = 0
    · subst h0; exact h q
    · exact s1 n (by omega) (by omega) q
theorem cell_v {D : Nat → Nat → Prop} {y e r : Nat} {c : Int32} (hr : r < 16) (h1 : DR1 D e 16 y c) : c = nI r ↔ LD D r y e := by
  refine ⟨fun q => ?_, fun q => h1.1 r hr q⟩
  by_cases hw : ∃ n, n < 16 ∧ wk D n y e
  · obtain ⟨n, n1, n2⟩ := ld_ex hw
    rw [h1.1 n n1 n2, eq_nI (by omega) (by omega)] at q
    rw [← q]; exact n2
  · rw [h1.2 (fun n hn z => hw ⟨n, hn, z⟩)] at q
    exact absurd q.symm (nI_n1 (by omega))
theorem low_l {E : Ev} (hE : EvOK E) {S0 S1 : St} {e c r : Nat} (hr : r < 16) (hG : GRW E S0 S1) (hD : ∀ x, x < 16 → DR1 (DG (eρ E)) e 16 x (S1.1 6 (x * 2 + 1))) {y : Nat} (hy : y < 16) (hq : DG (eρ E) c y ∧ LD (DG (eρ E)) r y e) (hl : ∀ z, z < y → ¬ (DG (eρ E) c z ∧ LD (DG (eρ E)) r z e)) : ∀ (k d i : Nat), i + d = y → d < k → zl1 (m_X1_lowestAt_B2 S1 (dI (eρ E) c) (nI r)) k (nI i) = some (nI y) := by
  intro k
  induction k with
  | zero => intro d i _ h; omega
  | succ k ih =>
    intro d i h1 h2
    show m_X1_lowestAt_B2 S1 (dI (eρ E) c) (nI r) (zl1 (m_X1_lowestAt_B2 S1 (dI (eρ E) c) (nI r)) k) (nI i) = _
    generalize zl1 (m_X1_lowestAt_B2 S1 (dI (eρ E) c) (nI r)) k = G at ih ⊢
    unfold m_X1_lowestAt_B2
    simp only [nI_add, zb_e]
    obtain ⟨p1, p2⟩ := has1_v (S := S1) (k := i) (by omega) (dI_s hE c)
    have hc := cell_v hr (hD i (by omega))
    rw [if_neg (by rw [le_nI (by omega) (by omega)]; omega)]
    match d, h1, h2 with
    | 0, h1, h2 =>
      have e1 : i = y := by omega
      subst e1
      rw [p1 hq.1, zo_e, if_neg (by decide), tg_6 (by omega) (by omega), zo_e, if_pos (hc.mpr hq.2)]
    | d + 1, h1, h2 =>
      have ih2 := ih d (i + 1) (by omega) (by omega)
      by_cases hp : DG (eρ E) c i
      · rw [p1 hp, zo_e, if_neg (by decide), tg_6 (by omega) (by omega), zo_e, if_neg (fun z => hl i (by omega) ⟨hp, hc.mp z⟩), ih2]
      · rw [p2 hp, zo_e, if_pos (by decide), ih2]
theorem rw_l {E : Ev} (hE : EvOK E) {S : St} (hR : RrT (eρ E) S) {e c r : Nat} (he : e < 16) (hc : c < 16) (hr : r < 16) {x8 : Int32} {rec69 : Int32 → Int32 → Int32 → Option (Int32 × St)} : ∀ (j k : Nat) (x : Int32), j ≤ 16 → j < k →
    ((∀ y, y < j → ¬ (DG (eρ E) c y ∧ LD (DG (eρ E)) r y e)) → zl2 (m_X7_way_B85 x8 rec69 (nI r) S (nI c) (nI e)) k x (nI j + (-1)) = rec69 (nI r) x (x8 + nI 1)) ∧
    (∀ y, y < j → DG (eρ E) c y ∧ LD (DG (eρ E)) r y e → (∀ z, z < y → ¬ (DG (eρ E) c z ∧ LD (DG (eρ E)) r z e)) → zl2 (m_X7_way_B85 x8 rec69 (nI r) S (nI c) (nI e)) k x (nI j + (-1)) = rec69 (nI r) (nI y) (x8 + nI 1))
  | j, 0, x, _, h => by omega
  | 0, k + 1, x, _, _ => by
    refine ⟨fun _ => ?_, fun y h => by omega⟩
    show m_X7_way_B85 x8 rec69 (nI r) S (nI c) (nI e) (zl2 (m_X7_way_B85 x8 rec69 (nI r) S (nI c) (nI e)) k) x (nI 0 + (-1)) = _
    generalize zl2 (m_X7_way_B85 x8 rec69 (nI r) S (nI c) (nI e)) k = G
    unfold m_X7_way_B85
    rw [if_pos (by decide), zb_e]
  | j + 1, k + 1, x, h1, h2 => by
    have ih := fun x => rw_l hE hR he hc hr (x8 := x8) (rec69 := rec69) j k x (by omega) (by omega)
    have st : (DG (eρ E) c j ∧ LD (DG (eρ E)) r j e → zl2 (m_X7_way_B85 x8 rec69 (nI r) S (nI c) (nI e)) (k + 1) x (nI (j + 1) + (-1)) = zl2 (m_X7_way_B85 x8 rec69 (nI r) S (nI c) (nI e)) k (nI j) (nI j + (-1))) ∧ (¬ (DG (eρ E) c j ∧ LD (DG (eρ E)) r j e) → zl2 (m_X7_way_B85 x8 rec69 (nI r) S (nI c) (nI e)) (k + 1) x (nI (j + 1) + (-1)) = zl2 (m_X7_way_B85 x8 rec69 (nI r) S (nI c) (nI e)) k x (nI j + (-1))) := by
      rw [nI_m1]
      show (_ → m_X7_way_B85 x8 rec69 (nI r) S (nI c) (nI e) (zl2 (m_X7_way_B85 x8 rec69 (nI r) S (nI c) (nI e)) k) x (nI j) = _) ∧ (_ → m_X7_way_B85 x8 rec69 (nI r) S (nI c) (nI e) (zl2 (m_X7_way_B85 x8 rec69 (nI r) S (nI c) (nI e)) k) x (nI j) = _)
      generalize zl2 (m_X7_way_B85 x8 rec69 (nI r) S (nI c) (nI e)) k = G
      unfold m_X7_way_B85 m_X7_way_J140 m_X7_way_J136 m_X7_way_J141 m_X7_way_J155
      obtain ⟨p1, p2⟩ := has7_v (S := S) (k := j) (by omega) (dI_s hE c)
      obtain ⟨v, v1, v2⟩ := sp_v hE hR (a := j) (b := e) (by omega) he
      simp only [zb_e]
      rw [if_neg (nI_pos (by omega)), in_v hE hc hR, zo_e]
      have c0 : (nI r = 0) = (r = 0) := eq0_nI (by omega)
      have ce : (nI j = nI e) = (j = e) := eq_nI (by omega) (by omega)
      simp only [c0, ce]
      rw [v1, zo_e]
      by_cases hp : DG (eρ E) c j
      · rw [p1 hp, zo_e, if_neg (by decide)]
        by_cases hr0 : r = 0
        · subst hr0
          rw [if_pos rfl]
          by_cases hje : j = e
          · rw [if_pos hje, if_neg (by decide)]
            exact ⟨fun _ => rfl, fun q => absurd ⟨hp, hje, fun m hm => by omega⟩ q⟩
          · rw [if_neg hje, if_pos (by decide)]
            exact ⟨fun q => absurd q.2.1 hje, fun _ => rfl⟩
        · rw [if_neg hr0]
          obtain ⟨s, rfl⟩ : ∃ s, r = s + 1 := ⟨r - 1, by omega⟩
          by_cases hje : j = e
          · rw [if_pos hje, if_pos (by decide)]
            exact ⟨fun q => absurd hje (ld_fp q.2).1, fun _ => rfl⟩
          · rw [if_neg hje]
            by_cases hv : v = nI (s + 1)
            · rw [if_pos hv, if_neg (by decide)]
              refine ⟨fun _ => rfl, fun q => ?_⟩
              rcases v2 with ⟨s2, q1, q2, q3⟩ | ⟨q1, q2⟩
              · rw [hv, eq_nI (by omega) (by omega)] at q3
                exact absurd ⟨hp, by rw [q3]; exact fp_ld hje q2⟩ q
              · rw [hv] at q2
                exact absurd q2 (nI_n1 (by omega))
            · rw [if_neg hv, if_pos (by decide)]
              refine ⟨fun q => ?_, fun _ => rfl⟩
              exact absurd (SV_u v2 (Or.inl ⟨s + 1, by omega, (ld_fp q.2).2, rfl⟩)) hv
      · rw [p2 hp, zo_e, if_pos (by decide), if_pos (by decide)]
        exact ⟨fun q => absurd q.1 hp, fun _ => rfl⟩
    obtain ⟨s1, s2⟩ := st
    refine ⟨fun hn => ?_, fun y hy hq hl => ?_⟩
    · rw [s2 (hn j (by omega))]
      exact (ih x).1 (fun y hy => hn y (by omega))
    · by_cases hj : DG (eρ E) c j ∧ LD (DG (eρ E)) r j e
      · rw [s1 hj]
        by_cases hyj : y = j
        · subst hyj
          exact (ih _).1 hl
        · exact (ih _).2 y (by omega) hq hl
      · rw [s2 hj]
        exact (ih x).2 y (by
          by_cases hyj : y = j
          · subst hyj; exact absurd hq hj
          · omega) hq hl
theorem way_l {E : Ev} (hE : EvOK E) {S0 S1 S : St} {e n q : Nat} (he : e < 16) (hn : n < 16) (hqn : q ≤ n) (hG : GRW E S0 S1) (hD : ∀ x, x < 16 → DR1 (DG (eρ E)) e 16 x (S1.1 6 (x * 2 + 1))) (hR : RrT (eρ E) S) : ∀ (d i r c k k2 : Nat), i + d = q → i + r = n → c < 16 → LD (DG (eρ E)) r c e → d < k → d < k2 →
    ∃ w, zl2 (m_X1_onShortestWay_B36 (nI q) S1 (nI n)) k (nI c) (nI i) = some (w, S1) ∧ zl3 (m_X7_way_B69 (nI q) S (nI e)) k2 (nI r) (nI c) (nI i) = some (w, S)
  | d, i, r, c, 0, k2, _, _, _, _, h, _ => by omega
  | d, i, r, c, k + 1, 0, _, _, _, _, _, h => by omega
  | 0, i, r, c, k + 1, k2 + 1, h1, h2, h3, h4, h5, h6 => by
    refine ⟨nI c, ?_, ?_⟩
    · show m_X1_onShortestWay_B36 (nI q) S1 (nI n) (zl2 (m_X1_onShortestWay_B36 (nI q) S1 (nI n)) k) (nI c) (nI i) = _
      generalize zl2 (m_X1_onShortestWay_B36 (nI q) S1 (nI n)) k = G
      unfold m_X1_onShortestWay_B36
      rw [if_pos (by rw [le_nI (by omega) (by omega)]; omega)]
    · show m_X7_way_B69 (nI q) S (nI e) (zl3 (m_X7_way_B69 (nI q) S (nI e)) k2) (nI r) (nI c) (nI i) = _
      generalize zl3 (m_X7_way_B69 (nI q) S (nI e)) k2 = G
      unfold m_X7_way_B69
      rw [if_pos (by rw [le_nI (by omega) (by omega)]; omega)]
  | d + 1, i, r, c, k + 1, k2 + 1, h1, h2, h3, h4, h5, h6 => by
    obtain ⟨r', rfl⟩ : ∃ r', r = r' + 1 := ⟨r - 1, by omega⟩
    obtain ⟨c0, a1, a2, a3⟩ := ld_step h4
    obtain ⟨y, y1, y2, y3⟩ := ex_least (W := fun y => DG (eρ E) c y ∧ LD (DG (eρ E)) r' y e) 16 ⟨c0, a1, a2, a3⟩
    obtain ⟨w, w1, w2⟩ := way_l hE he hn hqn hG hD hR d (i + 1) r' y k k2 (by omega) (by omega) y1 y2.2 (by omega) (by omega)
    refine ⟨w, ?_, ?_⟩
    · show m_X1_onShortestWay_B36 (nI q) S1 (nI n) (zl2 (m_X1_onShortestWay_B36 (nI q) S1 (nI n)) k) (nI c) (nI i) = _
      generalize zl2 (m_X1_onShortestWay_B36 (nI q) S1 (nI n)) k = G at w1 ⊢
      unfold m_X1_onShortestWay_B36 m_X1_lowestAt
      have e0 : nI n - nI i - nI 1 = nI r' := by
        rw [← h2, nI_sb, Nat.add_comm r' 1, nI_sb]
      rw [if_neg (by rw [le_nI (by omega) (by omega)]; omega), if_neg (by rw [le_nI (by omega) (by omega)]; omega), tg_6 h3 (by omega), zo_e, hG.1 c h3, e0]
      have hlo : zl1 (m_X1_lowestAt_B2 S1 (dI (eρ E) c) (nI r')) FU (nI 0) = some (nI y) := low_l hE (by omega) hG hD y1 y2 y3 FU y 0 (by omega) (FU_gt (by omega))
      rw [hlo, zo_e, zb_e, nI_add, w1]
    · show m_X7_way_B69 (nI q) S (nI e) (zl3 (m_X7_way_B69 (nI q) S (nI e)) k2) (nI (r' + 1)) (nI c) (nI i) = _
      generalize zl3 (m_X7_way_B69 (nI q) S (nI e)) k2 = G at w2 ⊢
      unfold m_X7_way_B69
      rw [if_neg (by rw [le_nI (by omega) (by omega)]; omega), zb_e, nI_m1]
      have hlo := (rw_l hE hR he h3 (show r' < 16 by omega) (x8 := nI i) (rec69 := G) 16 FU (-1) (by omega) (FU_gt (by omega))).2 y y1 y2 y3
      have e15 : nI 15 = nI 16 + (-1) := by decide
      rw [e15, hlo, nI_add, w2]
theorem ok_way {k : Nat} {Sc Sr : St} (h : INV k Sc Sr) : OK_way (INV (k + 1)) Sc Sr := by
  intro p1 p2 p3
  rcases idx p1 (n := 16) (by omega) with ⟨a, ha, rfl⟩ | hb
  · rcases idx p2 (n := 16) (by omega) with ⟨e, he, rfl⟩ | hb
    · by_cases h3 : 0 ≤ p3
      · by_cases hae : nI a = nI e
        · refine ⟨.inl 2, nI 0, wi Sr 47 0 (nI 2), ?_, ?_, fun e q => (by cases q; exact ⟨Or.inr rfl, wi_at, INV_47 h⟩), fun r Sd q => (by cases q)⟩
          · unfold m_X6_way
            rw [rot_t ha, zx_r, rot_t he, zx_r, if_pos h3, if_pos hae]
          · unfold m_X7_way m_X7_way_J33
            rw [rtg_t ha, zo_e, if_neg (by decide), rtg_t he, zo_e, if_neg (by decide), if_pos h3, if_pos hae, goes_n (by omega), zo2_e, if_pos (by decide)]
        · obtain ⟨E, g, hE, hW, hc, hr⟩ := INV_mono k Sc Sr h
          have hR := (RI_47 (v := nI 0) hr).2.1
          obtain ⟨S1, d1, d2, d3⟩ := draw_v hE (S := Sc) hc.2.1
          obtain ⟨S2, e1, e2, e3⟩ := me_v hE he d2
          obtain ⟨v, g1, g2⟩ := sp_v hE hR ha he
          have hae2 : ¬ a = e := fun q => hae (by rw [q])
          obtain ⟨hcv, hv⟩ := dist_v ha hae2 (e3 a ha) g2
          have hx : ∃ w, m_X1_onShortestWay S1 (nI a) (nI e) p3 = some (w, S2) ∧ (if v = -1 then some ((-1), wi Sr 47 0 (nI 0)) else if p3 ≤ v then zl3 (m_X7_way_B69 p3 (wi Sr 47 0 (nI 0)) (nI e)) FU v (nI a) (nI 0) else some ((-1), wi Sr 47 0 (nI 0))) = some (w, wi Sr 47 0 (nI 0)) := by
            unfold m_X1_onShortestWay
            rw [e1, zo_e, tg_6 ha (by omega), zo_e, hcv]
            by_cases hv1 : v = -1
            · rw [if_pos hv1, if_pos hv1]
              exact ⟨_, rfl, rfl⟩
            · rw [if_neg hv1, if_neg hv1]
              by_cases hpv : p3 ≤ v
              · rw [if_pos hpv, if_pos hpv]
                rcases hv with ⟨n, n1, n2, n3⟩ | hv
                · subst n3
                  rw [i_le (by omega)] at hpv
                  rcases idx p3 (n := 16) (by omega) with ⟨q, hq, rfl⟩ | hb
                  · rw [nT (by omega)] at hpv
                    exact way_l hE he n1 (show q ≤ n by omega) e2 e3 hR q 0 n a FU FU (by omega) (by omega) ha n2 (FU_gt (by omega)) (FU_gt (by omega))
                  · exfalso
                    have h4 : (0 : Int) ≤ p3.toInt := by
                      have := Int32.le_iff_toInt_le.mp h3
                      exact this
                    omega
                · exact absurd hv hv1
              · rw [if_neg hpv, if_neg hpv]
                exact ⟨_, rfl, rfl⟩
          obtain ⟨w, w1, w2⟩ := hx
          refine ⟨.inr (w, S2), w, wi Sr 47 0 (nI 0), ?_, ?_, fun e q => (by cases q), fun r Sd q => ?_⟩
          · unfold m_X6_way
            rw [rot_t ha, zx_r, rot_t he, zx_r, if_pos h3, if_neg hae, d1, zo_e, w1, zo2_e]
          · unfold m_X7_way m_X7_way_J33
            rw [rtg_t ha, zo_e, if_neg (by decide), rtg_t he, zo_e, if_neg (by decide), if_pos h3, if_neg hae, goes_0, zo2_e, if_neg (by decide), g1, zo_e]
            exact w2
          · cases q
            exact ⟨wi_at, rfl, E, g, hE, hW, RC_6 hc (fun k q => by rw [e2.2 k q, d3 k q]), RI_47 hr⟩
      · refine ⟨.inl 1, nI 0, wi Sr 47 0 (nI 1), ?_, ?_, fun e q => (by cases q; exact ⟨Or.inl rfl, wi_at, INV_47 h⟩), fun r Sd q => (by cases q)⟩
        · unfold m_X6_way
          rw [rot_t ha, zx_r, rot_t he, zx_r, if_neg h3]
        · unfold m_X7_way m_X7_way_J19 m_X7_way_J33
          rw [rtg_t ha, zo_e, if_neg (by decide), rtg_t he, zo_e, if_neg (by decide), if_neg h3, goes_n (by omega), zo2_e, if_pos (by decide)]
    · refine ⟨.inl 1, nI 0, wi Sr 47 0 (nI 1), ?_, ?_, fun e q => (by cases q; exact ⟨Or.inl rfl, wi_at, INV_47 h⟩), fun r Sd q => (by cases q)⟩
      · unfold m_X6_way
        rw [rot_t ha, zx_r, rot_f hb, zx_l]
      · unfold m_X7_way m_X7_way_J19 m_X7_way_J33
        rw [rtg_t ha, zo_e, if_neg (by decide), rtg_f hb, zo_e, if_pos (by decide), goes_n (by omega), zo2_e, if_pos (by decide)]
  · refine ⟨.inl 1, nI 0, wi Sr 47 0 (nI 1), ?_, ?_, fun e q => (by cases q; exact ⟨Or.inl rfl, wi_at, INV_47 h⟩), fun r Sd q => (by cases q)⟩
    · unfold m_X6_way
      rw [rot_f hb, zx_l]
    · unfold m_X7_way m_X7_way_J19 m_X7_way_J33
      rw [rtg_f hb, zo_e, if_pos (by decide), goes_n (by omega), zo2_e, if_pos (by decide)]
