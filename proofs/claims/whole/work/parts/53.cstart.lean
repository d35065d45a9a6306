/-! a build, and a plain one, whole -/
def gst (g : Gs) : Gs := mkG (gK g) (gL g) (gAw g) (gTf g) (gTu g) (gVn g) (gLk g) (fun _ => 0) (fun _ => .inr 0) (fun _ => 0) 0 (fun _ => [])
def finK (g : Gs) : Nat → Option Kp := fun n => match gK g n with
  | none => none
  | some q => if gAw g q.2.2.2 = true then none else some q
def afin (g : Gs) : Gs := sK g (finK g)
noncomputable def aB (E : Ev) (n : Nat) (g : Gs) : Ans × Gs := ((alook false E 32 n (gst g)).1, afin (alook false E 32 n (gst g)).2)
noncomputable def aP (E : Ev) (n : Nat) (g : Gs) : Ans × Gs := alook true E 32 n (gst g)
def WGB (g : Gs) : Prop := WG g ∧ ∀ n q, gK g n = some q → gAw g q.2.2.2 = false
theorem WG_gst {g : Gs} (h : WGB g) : WG (gst g) := by
  obtain ⟨⟨k1, k2, k3, k4, k5, k6, k7, k8, k9, k10, k11⟩, h2⟩ := h
  exact ⟨k1, k2, k3, k4, k5, k6, k7, fun n => (by show (0 : Nat) < 1000; omega), k9, k10, fun n q _ hq => h2 n q hq⟩
theorem finK_s {g : Gs} {n : Nat} {q : Kp} (h : finK g n = some q) : gK g n = some q ∧ gAw g q.2.2.2 = false := by
  unfold finK at h
  cases hk : gK g n with
  | none => rw [hk] at h; cases h
  | some q2 =>
    rw [hk] at h
    have h : (if gAw g q2.2.2.2 = true then none else some q2) = some q := h
    by_cases h1 : gAw g q2.2.2.2 = true
    · rw [if_pos h1] at h; cases h
    · rw [if_neg h1] at h
      cases h
      exact ⟨rfl, (Bool.not_eq_true _).mp h1⟩
theorem WGB_fin {g : Gs} (h : WG g) : WGB (afin g) := by
  obtain ⟨k1, k2, k3, k4, k5, k6, k7, k8, k9, k10, k11⟩ := h
  exact ⟨⟨fun n q hq => k1 n q (finK_s hq).1, k2, k3, k4, k5, k6, k7, k8, k9, k10, fun n q _ hq => (finK_s hq).2⟩, fun n q hq => (finK_s hq).2⟩
theorem WGB_aB {E : Ev} (hE : EvOK E) {n : Nat} (hn : n < 32) {g : Gs} (h : WGB g) : WGB (aB E n g).2 ∧ AOK (aB E n g).1 := by
  obtain ⟨a1, a2, a3⟩ := alook_c hE false 32 n (gst g) hn (WG_gst h)
  exact ⟨WGB_fin a1, a3⟩
theorem lka_l {g : Gs} (h3 : gAw g 3 = false) (hK : ∀ n q, gK g n = some q → KOK n q) {po : Nat → Bool} : ∀ (k d i : Nat) (S : St), i + d = 32 → d < k → KepT (fun j => if j < i then finK g j else gK g j) (S.1 2) → MacT po (gAw g) (S.1 4) → ∃ f, zl2 m_X2_loseKeptFromAway_B2 k S (nI i) = some (tb S 2 f) ∧ KepT (finK g) f := by
  intro k
  induction k with
  | zero => intro d i S _ h; omega
  | succ k ih =>
    intro d i S h1 h2 h4 h5
    show ∃ f, m_X2_loseKeptFromAway_B2 (zl2 m_X2_loseKeptFromAway_B2 k) S (nI i) = _ ∧ _
    generalize zl2 m_X2_loseKeptFromAway_B2 k = G at ih ⊢
    unfold m_X2_loseKeptFromAway_B2
    simp only [nI_add, zb_e]
    match d, h1, h2 with
    | 0, h1, h2 =>
      rw [if_pos (by rw [le_nI (by omega) (by omega)]; omega)]
      refine ⟨S.1 2, by rw [tb_id], fun n hn p hp => ?_⟩
      rw [h4 n hn p hp]
      show kpC (if n < i then finK g n else gK g n) _ _ = _
      rw [if_pos (by omega)]
    | d + 1, h1, h2 =>
      rw [if_neg (by rw [le_nI (by omega) (by omega)]; omega), tg_2 (by omega) (by omega), zo_e, h4 i (by omega) 51 (by omega)]
      have ki : (if i < i then finK g i else gK g i) = gK g i := if_neg (by omega)
      show ∃ f, zo (m_X3_isAway S (kpC (if i < i then finK g i else gK g i) (i % 2) 51)) _ = _ ∧ _
      rw [ki]
      have nx : ∀ (f : Nat → Int32), KepT (fun j => if j < i + 1 then finK g j else gK g j) f → ∃ f', G (tb S 2 f) (nI (i + 1)) = some (tb S 2 f') ∧ KepT (finK g) f' := fun f hf => by
        obtain ⟨f', x1, x2⟩ := ih d (i + 1) (tb S 2 f) (by omega) (by omega) (by rw [tb_s]; exact hf) (by rw [tb_n (by omega)]; exact h5)
        exact ⟨f', by rw [x1, tb_tb], x2⟩
      have same : finK g i = gK g i → ∃ f', G S (nI (i + 1)) = some (tb S 2 f') ∧ KepT (finK g) f' := fun hs => by
        have hx := nx (S.1 2) (fun j hj p hp => by
          rw [h4 j hj p hp]
          congr 1
          show (if j < i then finK g j else gK g j) = if j < i + 1 then finK g j else gK g j
          by_cases h6 : j = i
          · subst h6; rw [if_neg (by omega), if_pos (by omega), hs]
          · by_cases h7 : j < i
            · rw [if_pos h7, if_pos (by omega)]
            · rw [if_neg h7, if_neg (by omega)])
        rwa [tb_id] at hx
      cases hk : gK g i with
      | none =>
        rw [show kpC none (i % 2) 51 = -1 from rfl]
        unfold m_X3_isAway
        rw [get_lo, zo_e, if_neg (show ¬ blk 4 = nI 1 by decide), zo_e, if_pos (by decide)]
        exact same (by unfold finK; rw [hk])
      | some q =>
        obtain ⟨q1, q2, q3, q4, q5⟩ := hK i q hk
        rw [show kpC (some q) (i % 2) 51 = nI q.2.2.2 from rfl, away_v h5 h3 q5, zo_e]
        cases ha : gAw g q.2.2.2 with
        | false =>
          rw [if_pos (by decide)]
          refine same ?_
          unfold finK
          rw [hk]
          exact if_neg (by rw [ha]; decide)
        | true =>
          rw [if_neg (by decide), clr2_v (by omega), zo_e]
          refine nx _ (fun j hj p hp => ?_)
          have hh := KepT_clr h4 (n := i) j hj p hp
          rw [hh]
          congr 1
          show _ = if j < i + 1 then finK g j else gK g j
          by_cases h7 : j = i
          · subst h7
            rw [fu_s, if_pos (by omega)]
            unfold finK
            rw [hk]
            exact (if_pos ha).symm
          · rw [fu_n h7]
            show (if j < i then finK g j else gK g j) = _
            by_cases h8 : j < i
            · rw [if_pos h8, if_pos (by omega)]
            · rw [if_neg h8, if_neg (by omega)]
theorem clrS_v {b : Nat} (hb : b < 2) {S : St} {n : Nat} (hn : n < 32) : m_X4_clear (8 + 2 * b) S (nI n) = some (tb S (8 + 2 * b) (clrF (S.1 (8 + 2 * b)) (n * 3) 3 0)) := by
  rcases lt2 hb with rfl | rfl
  · exact clear_v (k := 8) (by omega) (S := S) (r := n) hn
  · exact clear_v (k := 10) (by omega) (S := S) (r := n) hn
/-- all seen rows are cleared, then comes the look -/
theorem start_l {b : Nat} (hb : b < 2) {x : Int32} : ∀ (k d i : Nat) (S : St), i + d = 32 → d < k → (∀ j, j < i * 3 → S.1 (8 + 2 * b) j = 0) → ∃ f, (∀ j, j < 96 → f j = 0) ∧ zl2 (m_X2_start_B7 b x) k S (nI i) = (zo2 (m_X2_lookF b (tb S (8 + 2 * b) f) x (nI 0)) fun x4 S5 => if nI b = 0 then (zo (m_X2_loseKeptFromAway b S5) fun S6 => some (x4, S6)) else some (x4, S5)) := by
  intro k
  induction k with
  | zero => intro d i S _ h; omega
  | succ k ih =>
    intro d i S h1 h2 h3
    show ∃ f, _ ∧ m_X2_start_B7 b x (zl2 (m_X2_start_B7 b x) k) S (nI i) = _
    generalize zl2 (m_X2_start_B7 b x) k = G at ih ⊢
    unfold m_X2_start_B7
    simp only [nI_add, zb_e]
    match d, h1, h2 with
    | 0, h1, h2 =>
      refine ⟨S.1 (8 + 2 * b), fun j hj => h3 j (by omega), ?_⟩
      rw [if_pos (by rw [le_nI (by omega) (by omega)]; omega), tb_id]
    | d + 1, h1, h2 =>
      rw [if_neg (by rw [le_nI (by omega) (by omega)]; omega), clrS_v hb (by omega), zo_e]
      obtain ⟨f, f1, f2⟩ := ih d (i + 1) (tb S (8 + 2 * b) (clrF (S.1 (8 + 2 * b)) (i * 3) 3 0)) (by omega) (by omega) (fun j hj => by
        rw [tb_s]
        unfold clrF
        by_cases h4 : i * 3 ≤ j ∧ j < i * 3 + 3
        · rw [if_pos h4]
        · rw [if_neg h4]; exact h3 j (by omega))
      exact ⟨f, f1, by rw [f2, tb_tb]⟩
theorem startB_v {E : Ev} {T n : Nat} (hE : EvOK E) {g : Gs} {S : St} (hn : n < 32) (hT : T + 32 < 1000000) (hg : WGB g) (h : RC E 0 T g S) : ∃ S', m_X2_start 0 S (nI n) = some (enA (aB E n g).1, S') ∧ RC E 0 (T + 32) (aB E n g).2 S' := by
  have hgs := WG_gst hg
  unfold m_X2_start
  rw [zb_e]
  obtain ⟨f, f1, f2⟩ := start_l (b := 0) (by omega) (x := nI n) FU 32 0 (wi S (16 + 2 * 0) 0 (nI 0)) (by omega) (FU_gt (by omega)) (fun j hj => by omega)
  have f2 : zl2 (m_X2_start_B7 0 (nI n)) FU (wi S (16 + 2 * 0) 0 (nI 0)) (nI 0) = _ := f2
  rw [f2]
  have h1 : RC E 0 (T + 32) (gst g) (tb (wi S (16 + 2 * 0) 0 (nI 0)) (8 + 2 * 0) f) := by
    obtain ⟨c0, c1, c2, ⟨c, x1, x2, x3⟩, c4, c5, c12, c14, c15, c16, c17, c8⟩ := h
    rw [wi_tb]
    refine ⟨?_, ?_, ?_, ?_, ?_, ?_, ?_, ?_, ?_, ?_, ?_, ?_⟩
    · rw [tb_n (by omega), tb_n (by omega)]; exact c0
    · rw [tb_n (by omega), tb_n (by omega)]; exact c1
    · rw [tb_n (by omega), tb_n (by omega)]; exact c2
    · rw [tb_n (by omega), tb_n (by omega), tb_n (by omega), tb_n (by omega)]
      have hu : uG (gst g) ≤ 32 := cntB_le 32
      exact ⟨c, x1, x2, by omega⟩
    · rw [tb_n (by omega), tb_n (by omega)]; exact c4
    · rw [tb_n (by omega), tb_n (by omega)]; exact c5
    · rw [tb_n (by omega), tb_n (by omega)]; exact c12
    · rw [tb_n (by omega), tb_n (by omega)]; exact c14
    · rw [tb_n (by omega), tb_n (by omega)]; exact c15
    · rw [tb_n (by omega), tb_s, pk_us]; rfl
    · rw [tb_n (by omega), tb_n (by omega)]; exact c17
    · rw [tb_s]
      intro m hm
      refine ⟨Nat.zero_le _, f1 _ (by omega), fun q => absurd rfl q, f1 _ (by omega)⟩
  have hl := look_v hE 32 7 (T + 32) (by omega) hT n (gst g) _ hn hgs h1
  obtain ⟨S1, a1, a2, -⟩ := hl
  have a1 : m_X2_lookF 0 (tb (wi S (16 + 2 * 0) 0 (nI 0)) (8 + 2 * 0) f) (nI n) (nI 0) = some (enA (alook false E 32 n (gst g)).1, S1) := a1
  rw [a1, zo2_e, if_pos (by decide)]
  obtain ⟨w1, w2, w3⟩ := alook_c hE false 32 n (gst g) hn hgs
  obtain ⟨f3, e1, e2⟩ := lka_l (g := (alook false E 32 n (gst g)).2) w1.2.2.2.2.2.2.2.2.1 w1.1 FU 32 0 S1 (by omega) (FU_gt (by omega)) (fun m hm p hp => by
    rw [a2.2.2.1 m hm p hp]
    congr 1) a2.2.2.2.2.1
  have e1 : m_X2_loseKeptFromAway 0 S1 = some (tb S1 2 f3) := e1
  rw [e1, zo_e]
  exact ⟨_, rfl, RC_K (by omega) a2 e2⟩
theorem startP_v {E : Ev} {T n : Nat} (hE : EvOK E) {g : Gs} {S : St} (hn : n < 32) (hg : WGB g) (h : RC E 0 T g S) : ∃ S', m_X2_start 1 S (nI n) = some (enA (aP E n g).1, S') ∧ RP1 E (wi S (16 + 2 * 1) 0 (nI 0)) (aP E n g).2 S' := by
  have hgs := WG_gst hg
  unfold m_X2_start
  rw [zb_e]
  obtain ⟨f, f1, f2⟩ := start_l (b := 1) (by omega) (x := nI n) FU 32 0 (wi S (16 + 2 * 1) 0 (nI 0)) (by omega) (FU_gt (by omega)) (fun j hj => by omega)
  have f2 : zl2 (m_X2_start_B7 1 (nI n)) FU (wi S (16 + 2 * 1) 0 (nI 0)) (nI 0) = _ := f2
  rw [f2]
  have h1 : RP1 E (wi S (16 + 2 * 1) 0 (nI 0)) (gst g) (tb (wi S (16 + 2 * 1) 0 (nI 0)) (8 + 2 * 1) f) := by
    refine ⟨fun k k1 k2 => tb_n (by omega), ?_, ?_, ?_, ?_⟩
    · rw [wi_tb, tb_n (by omega)]; exact h.1
    · rw [wi_tb, tb_n (by omega)]; exact h.2.1
    · rw [tb_s]
      intro m hm
      exact ⟨Nat.zero_le _, f1 _ (by omega), fun q => absurd rfl q⟩
    · intro m hm hd
      have hd : 0 = 3 := hd
      omega
  obtain ⟨S1, a1, a2, -⟩ := lookP_v hE 32 7 (by omega) n (gst g) _ hn hgs h1
  have a1 : m_X2_lookF 1 (tb (wi S (16 + 2 * 1) 0 (nI 0)) (8 + 2 * 1) f) (nI n) (nI 0) = some (enA (alook true E 32 n (gst g)).1, S1) := a1
  rw [a1, zo2_e, if_neg (by decide)]
  exact ⟨S1, rfl, a2⟩
theorem RC_same {E : Ev} {T : Nat} {g : Gs} {S S' : St} (h : RC E 0 T g S) (hs : ∀ k, ¬ k = 6 → ¬ k = 7 → ¬ k = 9 → ¬ k = 10 → ¬ k = 11 → ¬ k = 18 → ¬ k = 19 → S'.1 k = S.1 k) : RC E 0 T g S' := by
  unfold RC at h ⊢
  rw [hs 0 (by omega) (by omega) (by omega) (by omega) (by omega) (by omega) (by omega), hs 1 (by omega) (by omega) (by omega) (by omega) (by omega) (by omega) (by omega), hs 2 (by omega) (by omega) (by omega) (by omega) (by omega) (by omega) (by omega), hs 3 (by omega) (by omega) (by omega) (by omega) (by omega) (by omega) (by omega), hs 13 (by omega) (by omega) (by omega) (by omega) (by omega) (by omega) (by omega), hs 4 (by omega) (by omega) (by omega) (by omega) (by omega) (by omega) (by omega), hs 5 (by omega) (by omega) (by omega) (by omega) (by omega) (by omega) (by omega), hs 12 (by omega) (by omega) (by omega) (by omega) (by omega) (by omega) (by omega), hs 14 (by omega) (by omega) (by omega) (by omega) (by omega) (by omega) (by omega), hs 15 (by omega) (by omega) (by omega) (by omega) (by omega) (by omega) (by omega), hs (16 + 2 * 0) (by omega) (by omega) (by omega) (by omega) (by omega) (by omega) (by omega), hs (17 + 2 * 0) (by omega) (by omega) (by omega) (by omega) (by omega) (by omega) (by omega), hs (8 + 2 * 0) (by omega) (by omega) (by omega) (by omega) (by omega) (by omega) (by omega)]
  exact h
