/-! ways through the graph -/
def wk (D : Nat → Nat → Prop) : Nat → Nat → Nat → Prop
  | 0, a, b => a = b
  | n + 1, a, b => ∃ c, c < 16 ∧ D a c ∧ wk D n c b
def LD (D : Nat → Nat → Prop) (n a b : Nat) : Prop := wk D n a b ∧ ∀ m, m < n → ¬ wk D m a b
def FP (D : Nat → Nat → Prop) (s a b : Nat) : Prop := 1 ≤ s ∧ wk D s a b ∧ ∀ m, 1 ≤ m → m < s → ¬ wk D m a b
theorem wk_snoc {D : Nat → Nat → Prop} : ∀ (n a b : Nat), a < 16 → b < 16 → (wk D (n + 1) a b ↔ ∃ c, c < 16 ∧ wk D n a c ∧ D c b)
  | 0, a, b, ha, hb => ⟨fun ⟨c, _, h2, h3⟩ => ⟨a, ha, rfl, by have h3 : c = b := h3; rw [← h3]; exact h2⟩, fun ⟨c, h1, h2, h3⟩ => ⟨b, hb, by have h2 : a = c := h2; rw [h2]; exact h3, rfl⟩⟩
  | n + 1, a, b, ha, hb => ⟨fun ⟨c, h1, h2, h3⟩ => by
      obtain ⟨c2, q1, q2, q3⟩ := (wk_snoc n c b h1 hb).mp h3
      exact ⟨c2, q1, ⟨c, h1, h2, q2⟩, q3⟩, fun ⟨c2, q1, ⟨c, h1, h2, q2⟩, q3⟩ => ⟨c, h1, h2, (wk_snoc n c b h1 hb).mpr ⟨c2, q1, q2, q3⟩⟩⟩
theorem ld_step {D : Nat → Nat → Prop} {n a b : Nat} (h : LD D (n + 1) a b) : ∃ c, c < 16 ∧ D a c ∧ LD D n c b := by
  obtain ⟨⟨c, h1, h2, h3⟩, h4⟩ := h
  exact ⟨c, h1, h2, h3, fun m hm q => h4 (m + 1) (by omega) ⟨c, h1, h2, q⟩⟩
theorem ld_u {D : Nat → Nat → Prop} {n m a b : Nat} (h : LD D n a b) (h2 : LD D m a b) : n = m := by
  rcases Nat.lt_trichotomy n m with q | q | q
  · exact absurd h.1 (h2.2 n q)
  · exact q
  · exact absurd h2.1 (h.2 m q)
theorem ld_all {D : Nat → Nat → Prop} {b : Nat} : ∀ (n a : Nat), a < 16 → LD D n a b → ∀ m, m < n + 1 → ∃ c, c < 16 ∧ LD D m c b
  | 0, a, ha, h, m, hm => ⟨a, ha, by rw [show m = 0 by omega]; exact h⟩
  | n + 1, a, ha, h, m, hm => by
    by_cases hmn : m = n + 1
    · exact ⟨a, ha, by rw [hmn]; exact h⟩
    · obtain ⟨c, h1, _, h3⟩ := ld_step h
      exact ld_all n c h1 h3 m (by omega)
theorem ld_cnt {D : Nat → Nat → Prop} {b : Nat} : ∀ (j : Nat), (∀ m, m < j → ∃ c, c < 16 ∧ LD D m c b) → j ≤ cnP (fun y => ∃ m, m < j ∧ LD D m y b)
  | 0, _ => Nat.zero_le _
  | j + 1, h => by
    have h1 := ld_cnt j (fun m hm => h m (by omega))
    obtain ⟨c, hc, h2⟩ := h j (by omega)
    have h3 := cnP_lt (P := fun y => ∃ m, m < j ∧ LD D m y b) (Q := fun y => ∃ m, m < j + 1 ∧ LD D m y b) (fun i _ ⟨m, q1, q2⟩ => ⟨m, by omega, q2⟩) hc (fun ⟨m, q1, q2⟩ => by have := ld_u q2 h2; omega) ⟨j, by omega, h2⟩
    omega
theorem ld_15 {D : Nat → Nat → Prop} {n a b : Nat} (ha : a < 16) (h : LD D n a b) : n ≤ 15 := by
  have h1 := ld_cnt (n + 1) (ld_all n a ha h)
  have h2 := cnP_le (fun y => ∃ m, m < n + 1 ∧ LD D m y b)
  omega
theorem ex_least {W : Nat → Prop} : ∀ N, (∃ n, n < N ∧ W n) → ∃ n, n < N ∧ W n ∧ ∀ m, m < n → ¬ W m
  | 0, ⟨n, h, _⟩ => by omega
  | N + 1, ⟨n, h, hn⟩ => by
    by_cases q : ∃ n, n < N ∧ W n
    · obtain ⟨m, h1, h2, h3⟩ := ex_least N q
      exact ⟨m, by omega, h2, h3⟩
    · exact ⟨n, h, hn, fun m hm hw => q ⟨m, by omega, hw⟩⟩
theorem ld_ex {D : Nat → Nat → Prop} {a b N : Nat} (h : ∃ n, n < N ∧ wk D n a b) : ∃ n, n < N ∧ LD D n a b := by
  obtain ⟨n, h1, h2, h3⟩ := ex_least N h
  exact ⟨n, h1, h2, h3⟩
/-! the class measures -/
def DR1 (D : Nat → Nat → Prop) (e d x : Nat) (v : Int32) : Prop := (∀ n, n < d → LD D n x e → v = nI n) ∧ ((∀ n, n < d → ¬ wk D n x e) → v = -1)
def GRW (E : Ev) (S0 S : St) : Prop := (∀ j, j < 16 → S.1 6 (j * 2 + 0) = dI (eρ E) j) ∧ ∀ k, ¬ k = 6 → S.1 k = S0.1 k
theorem GRW_set {E : Ev} {S0 S : St} (h : GRW E S0 S) {i : Nat} {v : Int32} : GRW E S0 (tb S 6 (upd (S.1 6) (i * 2 + 1) v)) :=
  ⟨fun j hj => by rw [tb_s, pk_un (by omega)]; exact h.1 j hj, fun k q => by rw [tb_n q]; exact h.2 k q⟩
theorem me_in {E : Ev} (hE : EvOK E) {S0 : St} {e d : Nat} (hd : 1 ≤ d) (hd2 : d < 16) {x5 : Int32} (h5 : SEp x5 (fun x => ∃ m, m < d ∧ wk (DG (eρ E)) m x e)) {rec39 : St → Int32 → Int32 → Option St} : ∀ (k dd i : Nat) (S : St) (x8 : Int32), i + dd = 16 → dd < k → SEp x8 (fun x => (∃ m, m < d ∧ wk (DG (eρ E)) m x e) ∨ (x < i ∧ wk (DG (eρ E)) d x e)) → GRW E S0 S → (∀ x, x < 16 → DR1 (DG (eρ E)) e (if x < i then d + 1 else d) x (S.1 6 (x * 2 + 1))) →
    ∃ S' x', zl3 (m_X1_measure_B51 (nI d) rec39 x5) k S x8 (nI i) = rec39 S' x' (nI (d + 1)) ∧ SEp x' (fun x => ∃ m, m < d + 1 ∧ wk (DG (eρ E)) m x e) ∧ GRW E S0 S' ∧ ∀ x, x < 16 → DR1 (DG (eρ E)) e (d + 1) x (S'.1 6 (x * 2 + 1)) := by
  intro k
  induction k with
  | zero => intro dd i S x8 _ h; omega
  | succ k ih =>
    intro dd i S x8 h1 h2 h3 h4 h6
    show ∃ S' x', m_X1_measure_B51 (nI d) rec39 x5 (zl3 (m_X1_measure_B51 (nI d) rec39 x5) k) S x8 (nI i) = _ ∧ _
    generalize zl3 (m_X1_measure_B51 (nI d) rec39 x5) k = G at ih ⊢
    unfold m_X1_measure_B51 m_X1_measure_J102
    simp only [nI_add, zb_e]
    match dd, h1, h2 with
    | 0, h1, h2 =>
      rw [if_pos (by rw [le_nI (by omega) (by omega)]; omega)]
      refine ⟨S, x8, rfl, SEp_if h3 (fun y hy => ⟨fun q => ?_, fun q => ?_⟩), h4, fun x hx => ?_⟩
      · rcases q with ⟨m, q1, q2⟩ | q
        · exact ⟨m, by omega, q2⟩
        · exact ⟨d, by omega, q.2⟩
      · obtain ⟨m, q1, q2⟩ := q
        by_cases hmd : m = d
        · exact Or.inr ⟨by omega, by rw [← hmd]; exact q2⟩
        · exact Or.inl ⟨m, by omega, q2⟩
      · have h7 := h6 x hx
        rwa [if_pos (by omega)] at h7
    | dd + 1, h1, h2 =>
      rw [if_neg (by rw [le_nI (by omega) (by omega)]; omega)]
      obtain ⟨p1, p2⟩ := has1_v (S := S) (k := i) (by omega) h5
      have h7 := h6 i (by omega)
      rw [if_neg (by omega)] at h7
      have other : ∀ (S' : St), (∀ x, x < 16 → ¬ x = i → S'.1 6 (x * 2 + 1) = S.1 6 (x * 2 + 1)) → DR1 (DG (eρ E)) e (d + 1) i (S'.1 6 (i * 2 + 1)) → ∀ x, x < 16 → DR1 (DG (eρ E)) e (if x < i + 1 then d + 1 else d) x (S'.1 6 (x * 2 + 1)) := fun S' q1 q2 x hx => by
        by_cases hxi : x = i
        · subst hxi
          rw [if_pos (by omega)]; exact q2
        · rw [q1 x hx hxi]
          have h8 := h6 x hx
          by_cases hlt : x < i
          · rw [if_pos hlt] at h8
            rw [if_pos (by omega)]; exact h8
          · rw [if_neg hlt] at h8
            rw [if_neg (by omega)]; exact h8
      by_cases hp : ∃ m, m < d ∧ wk (DG (eρ E)) m i e
      · rw [p1 hp, zo_e, if_neg (by decide)]
        obtain ⟨m0, m1, m2⟩ := hp
        refine ih dd (i + 1) S x8 (by omega) (by omega) (SEp_if h3 (fun y hy => ⟨fun q => q.elim Or.inl (fun z => Or.inr ⟨by omega, z.2⟩), fun q => q.elim Or.inl (fun z => ?_)⟩)) h4 (other S (fun _ _ _ => rfl) ⟨fun n hn hl => ?_, fun q => absurd m2 (q m0 (by omega))⟩)
        · by_cases hyi : y = i
          · subst hyi; exact Or.inl ⟨m0, m1, m2⟩
          · exact Or.inr ⟨by omega, z.2⟩
        · by_cases hnd : n = d
          · subst hnd; exact absurd m2 (hl.2 m0 m1)
          · exact h7.1 n (by omega) hl
      · rw [p2 hp, zo_e, if_pos (by decide), tg_6 (by omega) (by omega), zo_e, h4.1 i (by omega)]
        have hz := and_nz (dI_s hE i) h5
        by_cases hw : wk (DG (eρ E)) d i e
        · have hne : ¬ (dI (eρ E) i &&& x5) = 0 := fun q => by
            obtain ⟨d', rfl⟩ : ∃ d', d = d' + 1 := ⟨d - 1, by omega⟩
            obtain ⟨c, c1, c2, c3⟩ := hw
            exact hz.mp q c c1 ⟨c2, d', by omega, c3⟩
          rw [if_neg hne, ts_6 (by omega) (by omega), zo_e]
          refine ih dd (i + 1) _ _ (by omega) (by omega) (SEp_if (SEp_or h3 (SEp_1 (k := i) (by omega))) (fun y hy => ⟨fun q => ?_, fun q => ?_⟩)) (GRW_set h4) (other _ (fun x hx q => ?_) ?_)
          · rcases q with (q | q) | q
            · exact Or.inl q
            · exact Or.inr ⟨by omega, q.2⟩
            · subst q; exact Or.inr ⟨by omega, hw⟩
          · rcases q with q | q
            · exact Or.inl (Or.inl q)
            · by_cases hyi : y = i
              · exact Or.inr hyi
              · exact Or.inl (Or.inr ⟨by omega, q.2⟩)
          · rw [tb_s, pk_un (by omega)]
          · rw [tb_s, pk_us]
            refine ⟨fun n hn hl => ?_, fun q => absurd hw (q d (by omega))⟩
            by_cases hnd : n = d
            · rw [hnd]
            · exact absurd ⟨n, by omega, hl.1⟩ hp
        · have he : (dI (eρ E) i &&& x5) = 0 := hz.mpr (fun y hy ⟨q1, m, q2, q3⟩ => by
            by_cases hmd : m + 1 = d
            · exact hw (by rw [← hmd]; exact ⟨y, hy, q1, q3⟩)
            · exact hp ⟨m + 1, by omega, y, hy, q1, q3⟩)
          rw [if_pos he]
          refine ih dd (i + 1) S x8 (by omega) (by omega) (SEp_if h3 (fun y hy => ⟨fun q => q.elim Or.inl (fun z => Or.inr ⟨by omega, z.2⟩), fun q => q.elim Or.inl (fun z => ?_)⟩)) h4 (other S (fun _ _ _ => rfl) ⟨fun n hn hl => ?_, fun q => h7.2 (fun n hn => q n (by omega))⟩)
          · by_cases hyi : y = i
            · subst hyi; exact absurd z.2 hw
            · exact Or.inr ⟨by omega, z.2⟩
          · by_cases hnd : n = d
            · subst hnd; exact absurd hl.1 hw
            · exact h7.1 n (by omega) hl
theorem me_out {E : Ev} (hE : EvOK E) {S0 : St} {e : Nat} : ∀ (k dd d : Nat) (S : St) (x5 : Int32), d + dd = 16 → dd < k → 1 ≤ d → SEp x5 (fun x => ∃ m, m < d ∧ wk (DG (eρ E)) m x e) → GRW E S0 S → (∀ x, x < 16 → DR1 (DG (eρ E)) e d x (S.1 6 (x * 2 + 1))) →
    ∃ S', zl3 m_X1_measure_B39 k S x5 (nI d) = some S' ∧ GRW E S0 S' ∧ ∀ x, x < 16 → DR1 (DG (eρ E)) e 16 x (S'.1 6 (x * 2 + 1)) := by
  intro k
  induction k with
  | zero => intro dd d S x5 _ h; omega
  | succ k ih =>
    intro dd d S x5 h1 h2 h3 h4 h5 h6
    show ∃ S', m_X1_measure_B39 (zl3 m_X1_measure_B39 k) S x5 (nI d) = _ ∧ _
    generalize zl3 m_X1_measure_B39 k = G at ih ⊢
    unfold m_X1_measure_B39
    match dd, h1, h2 with
    | 0, h1, h2 =>
      rw [if_pos (by rw [le_nI (by omega) (by omega)]; omega)]
      exact ⟨S, rfl, h5, by have e : d = 16 := by omega
                            subst e; exact h6⟩
    | dd + 1, h1, h2 =>
      rw [if_neg (by rw [le_nI (by omega) (by omega)]; omega)]
      obtain ⟨S', x', a1, a2, a3, a4⟩ := me_in hE (S0 := S0) (e := e) h3 (by omega) h4 (rec39 := G) FU 16 0 S x5 (by omega) (FU_gt (by omega)) (SEp_if h4 (fun y _ => ⟨Or.inl, fun q => q.elim id (fun z => by omega)⟩)) h5 (fun x hx => by rw [if_neg (by omega)]; exact h6 x hx)
      show ∃ S', zl3 (m_X1_measure_B51 (nI d) G x5) FU S x5 (nI 0) = _ ∧ _
      rw [a1]
      exact ih dd (d + 1) S' x' (by omega) (by omega) (by omega) a2 a3 a4
theorem me_0 {E : Ev} (hE : EvOK E) {S0 : St} {e : Nat} (he : e < 16) : ∀ (k dd i : Nat) (S : St), i + dd = 16 → dd < k → GRW E S0 S → (∀ x, x < i → DR1 (DG (eρ E)) e 1 x (S.1 6 (x * 2 + 1))) →
    ∃ S', zl2 (m_X1_measure_B2 (nI e)) k S (nI i) = some S' ∧ GRW E S0 S' ∧ ∀ x, x < 16 → DR1 (DG (eρ E)) e 16 x (S'.1 6 (x * 2 + 1)) := by
  intro k
  induction k with
  | zero => intro dd i S _ h; omega
  | succ k ih =>
    intro dd i S h1 h2 h5 h6
    show ∃ S', m_X1_measure_B2 (nI e) (zl2 (m_X1_measure_B2 (nI e)) k) S (nI i) = _ ∧ _
    generalize zl2 (m_X1_measure_B2 (nI e)) k = G at ih ⊢
    unfold m_X1_measure_B2 m_X1_measure_J24
    simp only [nI_add, zb_e]
    match dd, h1, h2 with
    | 0, h1, h2 =>
      rw [if_pos (by rw [le_nI (by omega) (by omega)]; omega)]
      refine me_out hE FU 15 1 S _ (by omega) (FU_gt (by omega)) (by omega) (SEp_if (SEp_1 he) (fun y _ => ⟨fun q => ⟨0, by omega, q⟩, fun ⟨m, q1, q2⟩ => ?_⟩)) h5 (fun x hx => h6 x (by omega))
      rw [show m = 0 by omega] at q2
      exact q2
    | dd + 1, h1, h2 =>
      rw [if_neg (by rw [le_nI (by omega) (by omega)]; omega)]
      have other : ∀ v, DR1 (DG (eρ E)) e 1 i v → ∀ x, x < i + 1 → DR1 (DG (eρ E)) e 1 x ((tb S 6 (upd (S.1 6) (i * 2 + 1) v)).1 6 (x * 2 + 1)) := fun v hv x hx => by
        by_cases hxi : x = i
        · subst hxi; rw [tb_s, pk_us]; exact hv
        · rw [tb_s, pk_un (by omega)]; exact h6 x (by omega)
      by_cases hie : i = e
      · rw [if_pos (by rw [hie]), ts_6 (by omega) (by omega), zo_e]
        exact ih dd (i + 1) _ (by omega) (by omega) (GRW_set h5) (other _ ⟨fun n hn _ => by rw [show n = 0 by omega], fun q => absurd hie (q 0 (by omega))⟩)
      · rw [if_neg (nI_ne (by omega) (by omega) hie), ts_6 (by omega) (by omega), zo_e]
        exact ih dd (i + 1) _ (by omega) (by omega) (GRW_set h5) (other _ ⟨fun n hn hl => absurd (by have := hl.1; rwa [show n = 0 by omega] at this) hie, fun _ => rfl⟩)
theorem me_v {E : Ev} (hE : EvOK E) {S : St} {e : Nat} (he : e < 16) (h6 : ∀ j, j < 16 → S.1 6 (j * 2 + 0) = dI (eρ E) j) : ∃ S', m_X1_measure S (nI e) = some S' ∧ GRW E S S' ∧ ∀ x, x < 16 → DR1 (DG (eρ E)) e 16 x (S'.1 6 (x * 2 + 1)) :=
  me_0 hE he FU 16 0 S (by omega) (FU_gt (by omega)) ⟨h6, fun _ _ => rfl⟩ (fun x hx => by omega)
/-! the reference's steps -/
theorem sp_in {E : Ev} (hE : EvOK E) {S : St} (hR : RrT (eρ E) S) {x2 x3 x4 : Int32} {P : Nat → Prop} (h2P : SEp x2 P) {rec12 : Int32 → Int32 → Int32 → Option Int32} : ∀ (k d i : Nat) (x : Int32) (Q : Nat → Prop), i + d = 16 → d < k → SEp x Q →
    ∃ x', zl2 (m_X7_steps_B36 x3 x4 rec12 S x2) k x (nI i) = rec12 (x' &&& (x3 ^^^ (-1))) (x3 ||| x') (x4 + nI 1) ∧ SEp x' (fun y => Q y ∨ ∃ j, i ≤ j ∧ j < 16 ∧ P j ∧ DG (eρ E) j y) := by
  intro k
  induction k with
  | zero => intro d i x Q _ h; omega
  | succ k ih =>
    intro d i x Q h1 h2 h3
    show ∃ x', m_X7_steps_B36 x3 x4 rec12 S x2 (zl2 (m_X7_steps_B36 x3 x4 rec12 S x2) k) x (nI i) = _ ∧ _
    generalize zl2 (m_X7_steps_B36 x3 x4 rec12 S x2) k = G at ih ⊢
    unfold m_X7_steps_B36
    match d, h1, h2 with
    | 0, h1, h2 =>
      rw [if_pos (by rw [le_nI (by omega) (by omega)]; omega)]
      exact ⟨x, rfl, SEp_if h3 (fun y hy => ⟨Or.inl, fun q => q.elim id (fun ⟨j, j1, j2, _⟩ => by omega)⟩)⟩
    | d + 1, h1, h2 =>
      rw [if_neg (by rw [le_nI (by omega) (by omega)]; omega)]
      obtain ⟨p1, p2⟩ := has7_v (S := S) (k := i) (by omega) h2P
      by_cases hp : P i
      · rw [p1 hp, zo_e, if_neg (by decide), in_v hE (by omega) hR, zo_e, zb_e, zb_e, nI_add]
        obtain ⟨x', a1, a3⟩ := ih d (i + 1) _ _ (by omega) (by omega) (SEp_or h3 (dI_s hE i))
        refine ⟨x', a1, SEp_if a3 (fun y hy => ⟨fun q => ?_, fun q => ?_⟩)⟩
        · rcases q with (q | q) | ⟨j, j1, j2, j3, j4⟩
          · exact Or.inl q
          · exact Or.inr ⟨i, Nat.le_refl _, by omega, hp, q⟩
          · exact Or.inr ⟨j, by omega, j2, j3, j4⟩
        · rcases q with q | ⟨j, j1, j2, j3, j4⟩
          · exact Or.inl (Or.inl q)
          · by_cases hji : j = i
            · subst hji; exact Or.inl (Or.inr j4)
            · exact Or.inr ⟨j, by omega, j2, j3, j4⟩
      · rw [p2 hp, zo_e, if_pos (by decide), zb_e, zb_e, nI_add, show x ||| nI 0 = x from Int32.or_zero]
        obtain ⟨x', a1, a3⟩ := ih d (i + 1) x Q (by omega) (by omega) h3
        refine ⟨x', a1, SEp_if a3 (fun y hy => ⟨fun q => ?_, fun q => ?_⟩)⟩
        · rcases q with q | ⟨j, j1, j2, j3, j4⟩
          · exact Or.inl q
          · exact Or.inr ⟨j, by omega, j2, j3, j4⟩
        · rcases q with q | ⟨j, j1, j2, j3, j4⟩
          · exact Or.inl q
          · by_cases hji : j = i
            · subst hji; exact absurd j3 hp
            · exact Or.inr ⟨j, by omega, j2, j3, j4⟩
/-- what steps answers -/
def SV (D : Nat → Nat → Prop) (a b : Nat) (v : Int32) : Prop := (∃ s, s ≤ 16 ∧ FP D s a b ∧ v = nI s) ∨ ((∀ s, 1 ≤ s → s ≤ 16 → ¬ wk D s a b) ∧ v = -1)
theorem sp_out {E : Ev} (hE : EvOK E) {S : St} (hR : RrT (eρ E) S) {a b : Nat} (ha : a < 16) (hb : b < 16) : ∀ (k d s : Nat) (x2 x3 : Int32), s + d = 17 → d < k → 1 ≤ s → SEp x2 (fun y => FP (DG (eρ E)) s a y) → SEp x3 (fun y => ∃ m, 1 ≤ m ∧ m ≤ s ∧ wk (DG (eρ E)) m a y) → (∀ m, 1 ≤ m → m < s → ¬ wk (DG (eρ E)) m a b) →
    ∃ v, zl3 (m_X7_steps_B12 S (nI b)) k x2 x3 (nI s) = some v ∧ SV (DG (eρ E)) a b v := by
  intro k
  induction k with
  | zero => intro d s x2 x3 _ h; omega
  | succ k ih =>
    intro d s x2 x3 h1 h2 h3 h4 h5 h6
    show ∃ v, m_X7_steps_B12 S (nI b) (zl3 (m_X7_steps_B12 S (nI b)) k) x2 x3 (nI s) = _ ∧ _
    generalize zl3 (m_X7_steps_B12 S (nI b)) k = G at ih ⊢
    unfold m_X7_steps_B12
    match d, h1, h2 with
    | 0, h1, h2 =>
      rw [if_pos (by rw [lt_nI (by omega) (by omega)]; omega)]
      exact ⟨-1, rfl, Or.inr ⟨fun m q1 q2 => h6 m q1 (by omega), rfl⟩⟩
    | d + 1, h1, h2 =>
      rw [if_neg (by rw [lt_nI (by omega) (by omega)]; omega)]
      obtain ⟨p1, p2⟩ := has7_v (S := S) (k := b) hb h4
      by_cases hp : FP (DG (eρ E)) s a b
      · rw [p1 hp, zo_e, if_neg (by decide)]
        exact ⟨nI s, rfl, Or.inl ⟨s, by omega, hp, rfl⟩⟩
      · rw [p2 hp, zo_e, if_pos (by decide)]
        obtain ⟨x', a1, a2⟩ := sp_in hE hR (x3 := x3) (x4 := nI s) h4 (rec12 := G) FU 16 0 (nI 0) _ (by omega) (FU_gt (by omega)) SEp_0
        rw [a1, nI_add]
        refine ih d (s + 1) _ _ (by omega) (by omega) (by omega) (SEp_if (SEp_an a2 h5) (fun y hy => ⟨fun q => ?_, fun q => ?_⟩)) (SEp_if (SEp_or h5 a2) (fun y hy => ⟨fun q => ?_, fun q => ?_⟩)) (fun m q1 q2 q3 => ?_)
        · obtain ⟨q1, q2⟩ := q
          rcases q1 with q1 | ⟨j, -, j2, j3, j4⟩
          · exact q1.elim
          · exact ⟨by omega, (wk_snoc s a y ha hy).mpr ⟨j, j2, j3.2.1, j4⟩, fun m m1 m2 m3 => q2 ⟨m, m1, by omega, m3⟩⟩
        · obtain ⟨q1, q2, q3⟩ := q
          refine ⟨Or.inr ?_, fun ⟨m, m1, m2, m3⟩ => q3 m m1 (by omega) m3⟩
          obtain ⟨c, c1, c2, c3⟩ := (wk_snoc s a y ha hy).mp q2
          exact ⟨c, Nat.zero_le _, c1, ⟨h3, c2, fun m m1 m2 m3 => q3 (m + 1) (by omega) (by omega) ((wk_snoc m a y ha hy).mpr ⟨c, c1, m3, c3⟩)⟩, c3⟩
        · rcases q with ⟨m, m1, m2, m3⟩ | q | ⟨j, -, j2, j3, j4⟩
          · exact ⟨m, m1, by omega, m3⟩
          · exact q.elim
          · exact ⟨s + 1, by omega, by omega, (wk_snoc s a y ha hy).mpr ⟨j, j2, j3.2.1, j4⟩⟩
        · obtain ⟨m, m1, m2, m3⟩ := q
          by_cases hz : ∃ m, 1 ≤ m ∧ m ≤ s ∧ wk (DG (eρ E)) m a y
          · exact Or.inl hz
          · refine Or.inr (Or.inr ?_)
            have hms : m = s + 1 := Classical.byContradiction (fun z => hz ⟨m, m1, by omega, m3⟩)
            rw [hms] at m3
            obtain ⟨c, c1, c2, c3⟩ := (wk_snoc s a y ha hy).mp m3
            exact ⟨c, Nat.zero_le _, c1, ⟨h3, c2, fun m m1 m2 m3 => hz ⟨m + 1, by omega, by omega, (wk_snoc m a y ha hy).mpr ⟨c, c1, m3, c3⟩⟩⟩, c3⟩
        · by_cases hms : m = s
          · subst hms; exact hp ⟨q1, q3, h6⟩
          · exact h6 m q1 (by omega) q3
theorem sp_v {E : Ev} (hE : EvOK E) {S : St} (hR : RrT (eρ E) S) {a b : Nat} (ha : a < 16) (hb : b < 16) : ∃ v, m_X7_steps S (nI a) (nI b) = some v ∧ SV (DG (eρ E)) a b v := by
  unfold m_X7_steps
  rw [in_v hE ha hR, zo_e]
  refine sp_out hE hR ha hb FU 16 1 _ _ (by omega) (FU_gt (by omega)) (by omega) (SEp_if (dI_s hE a) (fun y hy => ⟨fun q => ?_, fun q => ?_⟩)) (SEp_if (dI_s hE a) (fun y hy => ⟨fun q => ?_, fun q => ?_⟩)) (fun m q1 q2 => by omega)
  · exact ⟨by omega, ⟨y, hy, q, rfl⟩, fun m m1 m2 => by omega⟩
  · obtain ⟨-, ⟨c, c1, c2, c3⟩, -⟩ := q
    have c3 : c = y := c3
    rw [← c3]; exact c2
  · exact ⟨1, by omega, by omega, y, hy, q, rfl⟩
  · obtain ⟨m, m1, m2, m3⟩ := q
    rw [show m = 1 by omega] at m3
    obtain ⟨c, c1, c2, c3⟩ := m3
    have c3 : c = y := c3
    rw [← c3]; exact c2
theorem SV_u {D : Nat → Nat → Prop} {a b : Nat} {v w : Int32} (h1 : SV D a b v) (h2 : SV D a b w) : v = w := by
  rcases h1 with ⟨s, s1, s2, rfl⟩ | ⟨s1, rfl⟩
  · rcases h2 with ⟨t, t1, t2, rfl⟩ | ⟨t1, rfl⟩
    · rcases Nat.lt_trichotomy s t with q | q | q
      · exact absurd s2.2.1 (t2.2.2 s s2.1 q)
      · rw [q]
      · exact absurd t2.2.1 (s2.2.2 t t2.1 q)
    · exact absurd s2.2.1 (t1 s s2.1 s1)
  · rcases h2 with ⟨t, t1, t2, rfl⟩ | ⟨t1, rfl⟩
    · exact absurd t2.2.1 (s1 t t2.1 t1)
    · rfl
