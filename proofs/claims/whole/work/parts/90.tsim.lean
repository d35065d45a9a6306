/-! both go through the time alike -/
theorem cnt_lt {f h : Nat → Bool} (H : ∀ i, i < 32 → f i = true → h i = true) {j : Nat} (hj : j < 32) (h1 : f j = false) (h2 : h j = true) : cntB f 32 + 1 ≤ cntB h 32 := by
  have e : cntB f 32 + 1 = cntB (fun i => f i || decide (i = j)) 32 := cntB_flip (j := j) h1 (by simp) (fun i hi => by simp [hi]) 32 hj
  rw [e]
  refine cntB_mono 32 (fun i hi q => ?_)
  rw [Bool.or_eq_true, decide_eq_true_iff] at q
  rcases q with q | q
  · exact H i hi q
  · rw [q]; exact h2
def cn (c : Nat → Nat) (T : Nat) : Nat := cntB (fun m => decide (¬ c m = 0 ∧ c m ≤ T)) 32
def CT (c : Nat → Nat) (T : Nat) : Prop := (∀ m, c m ≤ T + 20) ∧ ∀ m, ¬ m < 32 → c m = 0
theorem CT_B {c : Nat → Nat} {T : Nat} (h : CT c T) (hT : T ≤ 1900) : CB c := fun m => by have := h.1 m; omega
def NEd (c : Nat → Nat) (T i : Nat) (o : Option Nat) : Prop := (o = none ∧ ∀ m, m < i → c m ≤ T) ∨ ∃ m, m < i ∧ o = some (c m) ∧ T < c m ∧ ∀ m2, m2 < i → T < c m2 → c m ≤ c m2
theorem ne_l {W : Nat → Option Nat} {c : Nat → Nat} {S0 S : St} {T : Nat} (hS : CS W c S0 S) (hb : CB c) (hT : T ≤ 2000) : ∀ (k d i : Nat) (o : Option Nat), i + d = 32 → d < k → NEd c T i o → ∃ o2, zl2 (m_X5_nextEnd_B4 S (nI T)) k (eO o) (nI i) = some (eO o2) ∧ NEd c T 32 o2 := by
  intro k
  induction k with
  | zero => intro d i o _ h; omega
  | succ k ih =>
    intro d i o h1 h2 h3
    show ∃ o2, m_X5_nextEnd_B4 S (nI T) (zl2 (m_X5_nextEnd_B4 S (nI T)) k) (eO o) (nI i) = _ ∧ _
    generalize zl2 (m_X5_nextEnd_B4 S (nI T)) k = G at ih ⊢
    unfold m_X5_nextEnd_B4 m_X5_nextEnd_J41
    simp only [nI_add, zb_e]
    match d, h1, h2 with
    | 0, h1, h2 =>
      rw [if_pos (by rw [le_nI (by omega) (by omega)]; omega)]
      have e : i = 32 := by omega
      subst e
      exact ⟨o, rfl, h3⟩
    | d + 1, h1, h2 =>
      have hi : i < 32 := by omega
      have hci := hb i
      rw [if_neg (by rw [le_nI (by omega) (by omega)]; omega), tg_7 hi (by omega), zo_e, hS.2.1 i hi]
      by_cases hc : c i ≤ T
      · rw [if_pos ((eE_le hci hT).mpr hc)]
        refine ih d (i + 1) o (by omega) (by omega) ?_
        rcases h3 with ⟨e, a⟩ | ⟨m, m1, e, m2, m3⟩
        · refine Or.inl ⟨e, fun m hm => ?_⟩
          by_cases hmi : m = i
          · subst hmi; exact hc
          · exact a m (by omega)
        · refine Or.inr ⟨m, by omega, e, m2, fun m4 q1 q2 => ?_⟩
          by_cases hmi : m4 = i
          · subst hmi; omega
          · exact m3 m4 (by omega) q2
      · rw [if_neg (fun q => hc ((eE_le hci hT).mp q)), show eE (c i) = nI (c i) by unfold eE; rw [if_neg (by omega)]]
        rcases h3 with ⟨rfl, a⟩ | ⟨m, m1, rfl, m2, m3⟩
        · rw [show eO none = -1 from rfl, if_pos rfl]
          refine ih d (i + 1) (some (c i)) (by omega) (by omega) (Or.inr ⟨i, by omega, rfl, by omega, fun m4 q1 q2 => ?_⟩)
          by_cases hmi : m4 = i
          · subst hmi; exact Nat.le_refl _
          · have := a m4 (by omega); omega
        · have hcm := hb m
          rw [show eO (some (c m)) = nI (c m) from rfl, if_neg (nI_n1 (by omega))]
          by_cases hle : c m ≤ c i
          · rw [if_pos (by rw [le_nI (by omega) (by omega)]; exact hle)]
            refine ih d (i + 1) (some (c m)) (by omega) (by omega) (Or.inr ⟨m, by omega, rfl, m2, fun m4 q1 q2 => ?_⟩)
            by_cases hmi : m4 = i
            · subst hmi; exact hle
            · exact m3 m4 (by omega) q2
          · rw [if_neg (by rw [le_nI (by omega) (by omega)]; exact hle)]
            refine ih d (i + 1) (some (c i)) (by omega) (by omega) (Or.inr ⟨i, by omega, rfl, by omega, fun m4 q1 q2 => ?_⟩)
            by_cases hmi : m4 = i
            · subst hmi; exact Nat.le_refl _
            · have := m3 m4 (by omega) q2; omega
theorem ne_v {W : Nat → Option Nat} {c : Nat → Nat} {S0 S : St} {T : Nat} (hS : CS W c S0 S) (hb : CB c) (hT : T ≤ 2000) : ∃ o, m_X5_nextEnd S (nI T) = some (eO o) ∧ NEd c T 32 o :=
  ne_l hS hb hT FU 32 0 none (by omega) (FU_gt (by omega)) (Or.inl ⟨rfl, fun m hm => by omega⟩)
/-! one step of the reference -/
theorem rl_ret {c : Nat → Nat} {R0 S : St} {n p T : Nat} (hn : n < 32) (hS : RS c R0 S) (hb : CB c) (h : ¬ c n = 0) (k : Nat) : zl2 (m_X7_time_B90 (nI n) (nI p)) (k + 1) S (nI T) = some (nI (c n), S) := by
  show m_X7_time_B90 (nI n) (nI p) (zl2 (m_X7_time_B90 (nI n) (nI p)) k) S (nI T) = _
  generalize zl2 (m_X7_time_B90 (nI n) (nI p)) k = G
  unfold m_X7_time_B90
  have hcn := hb n
  rw [zg_in hn (by omega), zg_in hn (by omega), ri_n (by omega), hS.1 n hn, if_neg (by rw [eq0_nI (by omega)]; exact h)]
theorem rl_wait {E : Ev} {g : Gs} {rk : Nat → Nat} {n T p : Nat} {W : Nat → Option Nat} {c : Nat → Nat} {R0 S : St} (hX : TX E g rk n W) (hG : RG E g R0) (hW : RW W R0) (hS : RS c R0 S) (hb : CB c) (hT : T ≤ 2000) (hp : p ≤ 3) (h : c n = 0) (hw : p ≤ rc c T ∨ ∀ m, m < 32 → ¬ canB g W c T m) (k : Nat) : zl2 (m_X7_time_B90 (nI n) (nI p)) (k + 1) S (nI T) = zl2 (m_X7_time_B90 (nI n) (nI p)) k S (nI (T + 1)) := by
  show m_X7_time_B90 (nI n) (nI p) (zl2 (m_X7_time_B90 (nI n) (nI p)) k) S (nI T) = _
  generalize zl2 (m_X7_time_B90 (nI n) (nI p)) k = G
  unfold m_X7_time_B90
  have hn := hX.2.1
  have hrc : rc c T ≤ 32 := cntB_le 32
  rw [zg_in hn (by omega), ri_n (by omega), hS.1 n hn, if_pos (by rw [h]; decide), ga_v hb hT hS, zo_e]
  by_cases hpr : p ≤ rc c T
  · rw [if_pos (by rw [le_nI (by omega) (by omega)]; exact hpr), zb_e, nI_add]
  · rw [if_neg (by rw [le_nI (by omega) (by omega)]; exact hpr)]
    obtain ⟨o, o1, o2⟩ := bn_v hX hG hW hS hb hT
    rw [o1, zo_e]
    rcases o2 with ⟨rfl, a⟩ | ⟨b, rfl, b1, b2, -⟩
    · rw [show eO none = -1 from rfl, if_pos rfl, zb_e, nI_add]
    · rcases hw with q | q
      · exact absurd q hpr
      · exact absurd b2 (q b b1)
theorem rl_begin {E : Ev} {g : Gs} {rk : Nat → Nat} {n T p b : Nat} {W : Nat → Option Nat} {c : Nat → Nat} {R0 S : St} (hX : TX E g rk n W) (hG : RG E g R0) (hW : RW W R0) (hS : RS c R0 S) (hb : CB c) (hT : T ≤ 2000) (hp : p ≤ 3) (h : c n = 0) (hpr : ¬ p ≤ rc c T) (hbb : BSd g W c T 32 (some b)) (k : Nat) : zl2 (m_X7_time_B90 (nI n) (nI p)) (k + 1) S (nI T) = zl2 (m_X7_time_B90 (nI n) (nI p)) k (wi S 46 b (nI (T + tv E b))) (nI T) := by
  show m_X7_time_B90 (nI n) (nI p) (zl2 (m_X7_time_B90 (nI n) (nI p)) k) S (nI T) = _
  generalize zl2 (m_X7_time_B90 (nI n) (nI p)) k = G
  unfold m_X7_time_B90
  have hn := hX.2.1
  have hrc : rc c T ≤ 32 := cntB_le 32
  rw [zg_in hn (by omega), ri_n (by omega), hS.1 n hn, if_pos (by rw [h]; decide), ga_v hb hT hS, zo_e, if_neg (by rw [le_nI (by omega) (by omega)]; exact hpr)]
  obtain ⟨o, o1, o2⟩ := bn_v hX hG hW hS hb hT
  have e := BSd_u o2 hbb
  subst e
  rcases hbb with ⟨q, _⟩ | ⟨b', q, b1, b2, -⟩
  · cases q
  · cases q
    have hd := (hX.2.2.2.1 b b1).mpr b2.1
    rw [o1, zo_e, show eO (some b) = nI b from rfl, if_neg (nI_n1 (by omega)), div_nI (by omega) (by omega) (by omega), zg_in (show b / 2 < 16 by omega) (by omega), zg_in b1 (by omega), ri_n (by omega), hS.2.1 4 _ (by omega), rt_v hX.1 hG b1 hd, tn (by omega), nI_add, zb_e]
theorem RS_set {c : Nat → Nat} {R0 S : St} (h : RS c R0 S) {b v : Nat} : RS (fu c b v) R0 (wi S 46 b (nI v)) :=
  ⟨fun m hm => by
    by_cases hmb : m = b
    · subst hmb; rw [wi_at, fu_s]
    · rw [wi_ne (by omega), fu_n hmb]; exact h.1 m hm, FKn_wi h.2⟩
theorem CS_set {W : Nat → Option Nat} {c : Nat → Nat} {S0 S : St} (h : CS W c S0 S) {b v : Nat} (hv : ¬ v = 0) : CS W (fu c b v) S0 (tb S 7 (upd (S.1 7) (b * 2 + 1) (nI v))) := by
  obtain ⟨h1, h2, h3⟩ := h
  refine ⟨fun m hm => ?_, fun m hm => ?_, fun k q => by rw [tb_n q]; exact h3 k q⟩
  · rw [tb_s, pk_un (by omega)]; exact h1 m hm
  · rw [tb_s]
    by_cases hmb : m = b
    · subst hmb
      rw [pk_us, fu_s]
      unfold eE
      rw [if_neg hv]
    · rw [pk_un (by omega), fu_n hmb]; exact h2 m hm
/-! the class begins -/
theorem nb_l {E : Ev} {g : Gs} {rk : Nat → Nat} {n T : Nat} {W : Nat → Option Nat} {c : Nat → Nat} {S0 S : St} (hX : TX E g rk n W) (hF : FreT E g (S0.1 (9 + 2 * 1))) (hS : CS W c S0 S) (hb : CB c) (hT : T ≤ 2000) (hno : ∀ m, m < 32 → ¬ canB g W c T m) : ∀ (f k : Nat), f ≤ 3 → f < k → zl2 (m_X5_beginAt_B8 (nI T)) k S (nI f) = some S
  | f, 0, _, h => by omega
  | 0, k + 1, _, _ => by
    show m_X5_beginAt_B8 (nI T) (zl2 (m_X5_beginAt_B8 (nI T)) k) S (nI 0) = _
    generalize zl2 (m_X5_beginAt_B8 (nI T)) k = G
    unfold m_X5_beginAt_B8
    rw [if_pos (by decide)]
  | f + 1, k + 1, h3, h => by
    have ih := nb_l hX hF hS hb hT hno f k (by omega) (by omega)
    show m_X5_beginAt_B8 (nI T) (zl2 (m_X5_beginAt_B8 (nI T)) k) S (nI (f + 1)) = _
    generalize zl2 (m_X5_beginAt_B8 (nI T)) k = G at ih ⊢
    unfold m_X5_beginAt_B8
    obtain ⟨o, o1, o2⟩ := bb_v hX hF hS hb hT
    rw [if_neg (by rw [show (0 : Int32) = nI 0 from rfl, le_nI (by omega) (by omega)]; omega), o1, zo_e]
    rcases o2 with ⟨rfl, a⟩ | ⟨b, rfl, b1, b2, -⟩
    · rw [show eO none = -1 from rfl, if_pos rfl, zb_e, nI_m1]
      exact ih
    · exact absurd b2 (hno b b1)
theorem bg_l {E : Ev} {g : Gs} {rk : Nat → Nat} {n T p : Nat} {W : Nat → Option Nat} {S0 R0 : St} (hX : TX E g rk n W) (hF : FreT E g (S0.1 (9 + 2 * 1))) (hG : RG E g R0) (hW : RW W R0) (hT : T ≤ 1900) (hp : p ≤ 3) : ∀ (f : Nat) (c : Nat → Nat) (Sc Sr : St), rc c T + f = p → CS W c S0 Sc → RS c R0 Sr → CT c T →
    ∃ c' Sc', (∀ k, f < k → zl2 (m_X5_beginAt_B8 (nI T)) k Sc (nI f) = some Sc') ∧ CS W c' S0 Sc' ∧ (∀ m, ¬ c m = 0 → c' m = c m) ∧ CT c' T ∧ rc c' T ≤ p ∧ (p ≤ rc c' T ∨ ∀ m, m < 32 → ¬ canB g W c' T m) ∧
      (c n = 0 → ¬ c' n = 0 → ∃ j Sr', j ≤ f ∧ FKn 46 R0 Sr' ∧ ∀ k, zl2 (m_X7_time_B90 (nI n) (nI p)) (k + j + 1) Sr (nI T) = some (nI (c' n), Sr')) ∧
      (c n = 0 → c' n = 0 → ∃ j Sr', j ≤ f ∧ RS c' R0 Sr' ∧ ∀ k, zl2 (m_X7_time_B90 (nI n) (nI p)) (k + j) Sr (nI T) = zl2 (m_X7_time_B90 (nI n) (nI p)) k Sr' (nI T))
  | 0, c, Sc, Sr, h1, h2, h3, h4 => by
    refine ⟨c, Sc, fun k hk => ?_, h2, fun _ _ => rfl, h4, by omega, Or.inl (by omega), fun q1 q2 => absurd q1 q2, fun _ _ => ⟨0, Sr, Nat.le_refl _, h3, fun _ => rfl⟩⟩
    obtain ⟨k', rfl⟩ : ∃ k', k = k' + 1 := ⟨k - 1, by omega⟩
    show m_X5_beginAt_B8 (nI T) (zl2 (m_X5_beginAt_B8 (nI T)) k') Sc (nI 0) = _
    generalize zl2 (m_X5_beginAt_B8 (nI T)) k' = G
    unfold m_X5_beginAt_B8
    rw [if_pos (by decide)]
  | f + 1, c, Sc, Sr, h1, h2, h3, h4 => by
    have hb := CT_B h4 hT
    obtain ⟨o, o1, o2⟩ := bb_v hX hF h2 hb (show T ≤ 2000 by omega)
    have o3 := o2
    rcases o2 with ⟨rfl, a⟩ | ⟨b, rfl, b1, b2, -⟩
    · exact ⟨c, Sc, fun k hk => nb_l hX hF h2 hb (by omega) a (f + 1) k (by omega) hk, h2, fun _ _ => rfl, h4, by omega, Or.inr a, fun q1 q2 => absurd q1 q2, fun _ _ => ⟨0, Sr, Nat.zero_le _, h3, fun _ => rfl⟩⟩
    · have hd := (hX.2.2.2.1 b b1).mpr b2.1
      obtain ⟨-, t1, t2, -⟩ := hX.1 b b1 hd
      have hF' : FreT E g (Sc.1 (9 + 2 * 1)) := by rw [h2.2.2 _ (by omega)]; exact hF
      have hv0 : ¬ T + tv E b = 0 := by omega
      have hrc : rc (fu c b (T + tv E b)) T = rc c T + 1 := by
        refine (cntB_flip (j := b) ?_ ?_ (fun i hi => ?_) 32 b1).symm
        · exact decide_eq_false (by rw [b2.2.1]; omega)
        · exact decide_eq_true (by rw [fu_s]; omega)
        · show decide (T < c i) = decide (T < fu c b (T + tv E b) i)
          rw [fu_n hi]
      have hCT : CT (fu c b (T + tv E b)) T := by
        refine ⟨fun m => ?_, fun m hm => ?_⟩
        · by_cases hmb : m = b
          · subst hmb; rw [fu_s]; omega
          · rw [fu_n hmb]; exact h4.1 m
        · rw [fu_n (fun q => hm (by rw [q]; exact b1))]; exact h4.2 m hm
      obtain ⟨c', Sc', x1, x2, x3, x4, x5, x6, x7, x8⟩ := bg_l hX hF hG hW hT hp f _ _ _ (by rw [hrc]; omega) (CS_set h2 (b := b) hv0) (RS_set h3 (b := b) (v := T + tv E b)) hCT
      have hpr : ¬ p ≤ rc c T := by omega
      refine ⟨c', Sc', fun k hk => ?_, x2, fun m hm => ?_, x4, x5, x6, fun q1 q2 => ?_, fun q1 q2 => ?_⟩
      · obtain ⟨k', rfl⟩ : ∃ k', k = k' + 1 := ⟨k - 1, by omega⟩
        have x1 := x1 k' (by omega)
        show m_X5_beginAt_B8 (nI T) (zl2 (m_X5_beginAt_B8 (nI T)) k') Sc (nI (f + 1)) = _
        generalize zl2 (m_X5_beginAt_B8 (nI T)) k' = G at x1 ⊢
        unfold m_X5_beginAt_B8
        rw [if_neg (by rw [show (0 : Int32) = nI 0 from rfl, le_nI (by omega) (by omega)]; omega), o1, zo_e, show eO (some b) = nI b from rfl, if_neg (nI_n1 (by omega)), tim_v hF' b1 hd, zo_e, nI_add, ts_7 b1 (by omega), zo_e, zb_e, nI_m1]
        exact x1
      · have hmb : ¬ m = b := fun q => by subst q; exact hm b2.2.1
        rw [x3 m (by rw [fu_n hmb]; exact hm), fu_n hmb]
      · by_cases hbn : b = n
        · subst hbn
          have e1 : c' b = T + tv E b := by rw [x3 b (by rw [fu_s]; omega), fu_s]
          refine ⟨1, _, by omega, (RS_set h3 (b := b) (v := T + tv E b)).2, fun k => ?_⟩
          rw [rl_begin hX hG hW h3 hb (by omega) hp q1 hpr o3 (k + 1), rl_ret b1 (RS_set h3 (b := b) (v := T + tv E b)) (CT_B hCT hT) (by rw [fu_s]; omega) k, e1, fu_s]
        · obtain ⟨j, Sr', j1, j2, j3⟩ := x7 (by rw [fu_n (fun q => hbn q.symm)]; exact q1) q2
          refine ⟨j + 1, Sr', by omega, j2, fun k => ?_⟩
          rw [show k + (j + 1) + 1 = (k + j + 1) + 1 by omega, rl_begin hX hG hW h3 hb (by omega) hp q1 hpr o3 (k + j + 1)]
          exact j3 k
      · by_cases hbn : b = n
        · subst hbn
          have e1 : c' b = T + tv E b := by rw [x3 b (by rw [fu_s]; omega), fu_s]
          omega
        · obtain ⟨j, Sr', j1, j2, j3⟩ := x8 (by rw [fu_n (fun q => hbn q.symm)]; exact q1) q2
          refine ⟨j + 1, Sr', by omega, j2, fun k => ?_⟩
          rw [show k + (j + 1) = (k + j) + 1 by omega, rl_begin hX hG hW h3 hb (by omega) hp q1 hpr o3 (k + j)]
          exact j3 k
/-! nothing begins until the next end -/
theorem st_l {E : Ev} {g : Gs} {rk : Nat → Nat} {n p : Nat} {W : Nat → Option Nat} {c : Nat → Nat} {R0 S : St} (hX : TX E g rk n W) (hG : RG E g R0) (hW : RW W R0) (hS : RS c R0 S) (hb : CB c) (hp : p ≤ 3) (h : c n = 0) : ∀ (s T : Nat), T + s ≤ 2000 → (p ≤ rc c T ∨ ∀ m, m < 32 → ¬ canB g W c T m) → (∀ m, T < c m → T + s ≤ c m) → ∀ k, zl2 (m_X7_time_B90 (nI n) (nI p)) (k + s) S (nI T) = zl2 (m_X7_time_B90 (nI n) (nI p)) k S (nI (T + s))
  | 0, T, _, _, _, k => rfl
  | s + 1, T, h1, h2, h3, k => by
    rw [show k + (s + 1) = (k + s) + 1 by omega, rl_wait hX hG hW hS hb (by omega) hp h h2 (k + s)]
    by_cases h0 : s = 0
    · subst h0; rfl
    · have hlt : ∀ m, T < c m ↔ T + 1 < c m := fun m => ⟨fun q => by have := h3 m q; omega, fun q => by omega⟩
      have e := st_l hX hG hW hS hb hp h s (T + 1) (by omega) (by
        rcases h2 with q | q
        · left
          have e : rc c (T + 1) = rc c T := by
            unfold rc
            congr 1
            funext m
            by_cases hm : T < c m
            · rw [decide_eq_true hm, decide_eq_true ((hlt m).mp hm)]
            · rw [decide_eq_false hm, decide_eq_false (fun z => hm ((hlt m).mpr z))]
          rw [e]; exact q
        · right
          refine fun m hm z => q m hm ⟨z.1, z.2.1, fun x hx => ?_⟩
          obtain ⟨z1, z2⟩ := z.2.2 x hx
          refine ⟨z1, Classical.byContradiction (fun z3 => ?_)⟩
          have := (hlt x).mp (by omega)
          omega) (fun m hm => by have := h3 m (by omega); omega) k
      rw [e, show T + 1 + s = T + (s + 1) by omega]
/-! the whole of it -/
theorem cl_ret {W : Nat → Option Nat} {c : Nat → Nat} {S0 S : St} {n p i : Nat} {x3 : Int32} (hn : n < 32) (hS : CS W c S0 S) (hb : CB c) (h : ¬ c n = 0) (k : Nat) : zl3 (m_X5_endOf_B10 (nI n) (nI p)) (k + 1) S x3 (nI i) = some (nI (c n), S) := by
  show m_X5_endOf_B10 (nI n) (nI p) (zl3 (m_X5_endOf_B10 (nI n) (nI p)) k) S x3 (nI i) = _
  generalize zl3 (m_X5_endOf_B10 (nI n) (nI p)) k = G
  unfold m_X5_endOf_B10
  have hcn := hb n
  rw [tg_7 hn (by omega), zo_e, zo_e, hS.2.1 n hn, show eE (c n) = nI (c n) by unfold eE; rw [if_neg h], if_neg (nI_n1 (by omega)), ite_self]
theorem sim_l {E : Ev} {g : Gs} {rk : Nat → Nat} {n p : Nat} {W : Nat → Option Nat} {S0 R0 : St} (hX : TX E g rk n W) (hF : FreT E g (S0.1 (9 + 2 * 1))) (hG : RG E g R0) (hW : RW W R0) (hp1 : 1 ≤ p) (hp : p ≤ 3) : ∀ (r i T : Nat) (c : Nat → Nat) (Sc Sr : St) (k K : Nat), i + r = 33 → r < k → 24 * r + 1 ≤ K → c n = 0 → CS W c S0 Sc → RS c R0 Sr → CT c T → rc c T ≤ p → i ≤ cn c T → T ≤ 20 * i →
    ∃ w Sc' Sr', zl3 (m_X5_endOf_B10 (nI n) (nI p)) k Sc (nI T) (nI i) = some (w, Sc') ∧ zl2 (m_X7_time_B90 (nI n) (nI p)) K Sr (nI T) = some (w, Sr') ∧ (∀ k, ¬ k = 7 → Sc'.1 k = S0.1 k) ∧ FKn 46 R0 Sr'
  | 0, i, T, c, Sc, Sr, k, K, h1, _, _, _, _, _, _, _, h9, _ => by
    have : cn c T ≤ 32 := cntB_le 32
    omega
  | r + 1, i, T, c, Sc, Sr, k, K, h1, h2, h3, h4, h5, h6, h7, h8, h9, h10 => by
    have hT : T ≤ 1900 := by omega
    have hb := CT_B h7 hT
    have hn := hX.2.1
    obtain ⟨f, hf⟩ : ∃ f, rc c T + f = p := ⟨p - rc c T, by omega⟩
    obtain ⟨c', Sc1, x1, x2, x3, x4, x5, x6, x7, x8⟩ := bg_l hX hF hG hW hT hp f c Sc Sr hf h5 h6 h7
    have hb' := CT_B x4 hT
    obtain ⟨o, o1, o2⟩ := ne_v x2 hb' (show T ≤ 2000 by omega)
    obtain ⟨k', rfl⟩ : ∃ k', k = k' + 1 := ⟨k - 1, by omega⟩
    have hcls : zl3 (m_X5_endOf_B10 (nI n) (nI p)) (k' + 1) Sc (nI T) (nI i) = zl3 (m_X5_endOf_B10 (nI n) (nI p)) k' Sc1 (eO o) (nI (i + 1)) := by
      show m_X5_endOf_B10 (nI n) (nI p) (zl3 (m_X5_endOf_B10 (nI n) (nI p)) k') Sc (nI T) (nI i) = _
      generalize zl3 (m_X5_endOf_B10 (nI n) (nI p)) k' = G
      unfold m_X5_endOf_B10 m_X5_beginAt
      have e0 : nI p - nI (rc c T) = nI f := by rw [← hf]; exact nI_sb
      rw [if_neg (by rw [lt_nI (by omega) (by omega)]; omega), tg_7 hn (by omega), zo_e, h5.2.1 n hn, h4, show eE 0 = -1 from rfl, if_pos rfl, hmr_v hb (by omega) h5.2.1, zo_e, zb_e, e0, x1 FU (FU_gt (by omega)), zo_e, o1, zo_e, zb_e, nI_add]
    rw [hcls]
    by_cases hc' : c' n = 0
    · obtain ⟨j, Sr', j1, j2, j3⟩ := x8 h4 hc'
      rcases o2 with ⟨rfl, a⟩ | ⟨m, m1, rfl, m2, m3⟩
      · -- nobody is running: all have begun
        exfalso
        have r0 : rc c' T = 0 := by
          have e : ∀ i, i ≤ 32 → cntB (fun m => decide (T < c' m)) i = 0 := fun i => by
            induction i with
            | zero => intro _; rfl
            | succ i ih =>
              intro hi
              have := a i (by omega)
              show cntB (fun m => decide (T < c' m)) i + (if decide (T < c' i) = true then 1 else 0) = 0
              rw [ih (by omega), decide_eq_false (by omega)]
              rfl
          exact e 32 (Nat.le_refl _)
        have hno : ∀ m, m < 32 → ¬ canB g W c' T m := by
          rcases x6 with q | q
          · omega
          · exact q
        have all : ∀ R m, m < 32 → gDn g m = 3 → rk m < R → ¬ c' m = 0 := fun R => by
          induction R with
          | zero => intro m _ _ h; omega
          | succ R ih =>
            intro m hm hd hr hz
            refine hno m hm ⟨(hX.2.2.2.1 m hm).mp hd, hz, fun x hx => ?_⟩
            obtain ⟨z1, z2, z3⟩ := (hX.1 m hm hd).2.2.2.2 x hx
            exact ⟨ih x z1 z2 (by omega), a x z1⟩
        exact all (rk n + 1) n hn hX.2.2.1 (by omega) hc'
      · have hme := x4.1 m
        obtain ⟨s, hs⟩ : ∃ s, T + s = c' m := ⟨c' m - T, by omega⟩
        have hK : K = (K - j - s) + s + j := by omega
        have hnx : ∀ m2, T < c' m2 → T + s ≤ c' m2 := fun m2 q => by
          by_cases hm2 : m2 < 32
          · have := m3 m2 hm2 q; omega
          · have := x4.2 m2 hm2; omega
        have e1 := st_l hX hG hW j2 hb' hp hc' s T (by omega) x6 hnx (K - j - s)
        have e2 := j3 ((K - j - s) + s)
        rw [hK, e2, e1, hs]
        have hmono : cn c T + 1 ≤ cn c' (c' m) := by
          refine cnt_lt (j := m) (fun i hi q => ?_) m1 (decide_eq_false (fun q => ?_)) (decide_eq_true ⟨by omega, Nat.le_refl _⟩)
          · have q := of_decide_eq_true q
            refine decide_eq_true ?_
            rw [x3 i q.1]
            exact ⟨q.1, by omega⟩
          · have := x3 m q.1
            omega
        have hrc : rc c' (c' m) ≤ p := by
          have : rc c' (c' m) ≤ rc c' T := cntB_mono 32 (fun i hi q => decide_eq_true (by have := of_decide_eq_true q; omega))
          omega
        exact sim_l hX hF hG hW hp1 hp r (i + 1) (c' m) c' Sc1 Sr' k' (K - j - s) (by omega) (by omega) (by omega) hc' x2 j2 ⟨fun m2 => by have := x4.1 m2; omega, x4.2⟩ hrc (by omega) (by omega)
    · obtain ⟨j, Sr', j1, j2, j3⟩ := x7 h4 hc'
      obtain ⟨k2, rfl⟩ : ∃ k2, k' = k2 + 1 := ⟨k' - 1, by omega⟩
      refine ⟨nI (c' n), Sc1, Sr', cl_ret hn x2 hb' hc' k2, ?_, x2.2.2, j2⟩
      have e := j3 (K - j - 1)
      rwa [show K - j - 1 + j + 1 = K by omega] at e
