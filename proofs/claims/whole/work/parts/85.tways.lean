/-! the graph of what was looked at; its ways from the root -/
def er (g : Gs) (m j : Nat) : Option Nat := match (gRd g m)[j]? with
  | some x => if x.2.1 = 2 ∨ x.2.1 = 3 then some (nR m x.2.1 x.2.2.1) else none
  | none => none
def EDG (g : Gs) (m x : Nat) : Prop := ∃ j, j < 5 ∧ er g m j = some x
def tv (E : Ev) (m : Nat) : Nat := match eρ E (m / 2) with
  | some r => tm r
  | none => 0
def TDO (E : Ev) (g : Gs) (rk : Nat → Nat) : Prop := ∀ m, m < 32 → gDn g m = 3 → rk m < 32 ∧ 1 ≤ tv E m ∧ tv E m ≤ 20 ∧ (∃ r, eρ E (m / 2) = some r ∧ RulOK r ∧ WFr r (m % 2) (gRd g m)) ∧ ∀ x, EDG g m x → x < 32 ∧ gDn g x = 3 ∧ rk x < rk m
theorem TDO_of {E : Ev} {g : Gs} (hE : EvOK E) (h : PI E g) : ∃ rk, TDO E g rk := by
  obtain ⟨rk, h⟩ := h
  refine ⟨rk, fun m hm hd => ?_⟩
  obtain ⟨q1, ⟨r, r1, r2⟩, q3⟩ := h m hm hd
  have hr := hE.2 _ _ r1
  have et : tv E m = tm r := by unfold tv; rw [r1]
  have hc : c3 g ≤ 32 := cntB_le 32
  refine ⟨by omega, by rw [et]; exact hr.2.2.2.1, by rw [et]; exact hr.2.2.2.2.1, ⟨r, r1, hr, r2⟩, fun x ⟨j, j1, j2⟩ => ?_⟩
  unfold er at j2
  cases hg : (gRd g m)[j]? with
  | none => rw [hg] at j2; cases j2
  | some y =>
    rw [hg] at j2
    have j2 : (if y.2.1 = 2 ∨ y.2.1 = 3 then some (nR m y.2.1 y.2.2.1) else none) = some x := j2
    by_cases hy : y.2.1 = 2 ∨ y.2.1 = 3
    · rw [if_pos hy] at j2
      cases j2
      have hmem := List.mem_of_getElem? hg
      obtain ⟨z1, z2⟩ := q3 y hmem hy
      refine ⟨?_, z1, z2⟩
      rcases WFr_slot hr r2 y hmem with q | q
      · have := q.2.2.2
        rw [lim_16 (by omega) (by omega)] at this
        exact nR_lt this
      · omega
    · rw [if_neg hy] at j2; cases j2
/-- k reads from the root, taking L -/
def Pt (E : Ev) (g : Gs) (n : Nat) : Nat → Nat → Nat → Prop
  | 0, x, L => x = n ∧ L = tv E n
  | k + 1, x, L => ∃ m L1, m < 32 ∧ Pt E g n k m L1 ∧ EDG g m x ∧ L = L1 + tv E x
theorem Pt_ok {E : Ev} {g : Gs} {rk : Nat → Nat} {n : Nat} (hT : TDO E g rk) (hn : n < 32) (hd : gDn g n = 3) : ∀ k x L, Pt E g n k x L → x < 32 ∧ gDn g x = 3 ∧ rk x + k ≤ 31 ∧ L + 20 * rk x ≤ 640 ∧ 1 ≤ L
  | 0, x, L, ⟨h1, h2⟩ => by
    obtain ⟨a1, a2, a3, -⟩ := hT n hn hd
    subst h1; subst h2
    exact ⟨hn, hd, by omega, by omega, a2⟩
  | k + 1, x, L, ⟨m, L1, h1, h2, h3, h4⟩ => by
    obtain ⟨a1, a2, a3, a4, a5⟩ := Pt_ok hT hn hd k m L1 h2
    obtain ⟨-, -, -, -, b5⟩ := hT m a1 a2
    obtain ⟨c1, c2, c3⟩ := b5 x h3
    obtain ⟨-, d2, d3, -⟩ := hT x c1 c2
    exact ⟨c1, c2, by omega, by omega, by omega⟩
def PA (E : Ev) (g : Gs) (n x L : Nat) : Prop := ∃ k, Pt E g n k x L
theorem PA_st {E : Ev} {g : Gs} {n m x L : Nat} (hm : m < 32) (h : PA E g n m L) (he : EDG g m x) : PA E g n x (L + tv E x) := by
  obtain ⟨k, hk⟩ := h
  exact ⟨k + 1, m, L, hm, hk, he, rfl⟩
def geW (W : Nat → Option Nat) (x L : Nat) : Prop := ∃ v, W x = some v ∧ L ≤ v
def SdW (E : Ev) (g : Gs) (n : Nat) (W : Nat → Option Nat) : Prop := ∀ x v, x < 32 → W x = some v → PA E g n x v
def MoW (W W' : Nat → Option Nat) : Prop := ∀ x L, geW W x L → geW W' x L
theorem MoW_rf {W : Nat → Option Nat} : MoW W W := fun _ _ h => h
theorem MoW_tr {a b c : Nat → Option Nat} (h1 : MoW a b) (h2 : MoW b c) : MoW a c := fun x L h => h2 x L (h1 x L h)
theorem MoW_fu {W : Nat → Option Nat} {x v : Nat} (h : ∀ u, W x = some u → u ≤ v) : MoW W (fu W x (some v)) := fun y L ⟨u, u1, u2⟩ => by
  by_cases hy : y = x
  · subst hy
    exact ⟨v, fu_s, Nat.le_trans u2 (h u u1)⟩
  · exact ⟨u, by rw [fu_n hy]; exact u1, u2⟩
theorem SdW_fu {E : Ev} {g : Gs} {n x v : Nat} {W : Nat → Option Nat} (h : SdW E g n W) (hp : PA E g n x v) : SdW E g n (fu W x (some v)) := fun y u hy q => by
  by_cases hyx : y = x
  · subst hyx
    rw [fu_s] at q
    cases q
    exact hp
  · rw [fu_n hyx] at q
    exact h y u hy q
/-- a step over one read -/
theorem rlx {E : Ev} {g : Gs} {n m x Lm : Nat} {W : Nat → Option Nat} (h : SdW E g n W) (hm : m < 32) (hL : W m = some Lm) (he : EDG g m x) (hn : ¬ geW W x (Lm + tv E x)) : SdW E g n (fu W x (some (Lm + tv E x))) ∧ MoW W (fu W x (some (Lm + tv E x))) ∧ geW (fu W x (some (Lm + tv E x))) x (Lm + tv E x) :=
  ⟨SdW_fu h (PA_st hm (h m Lm hm hL) he), MoW_fu (fun u hu => Classical.byContradiction (fun q => hn ⟨u, hu, by omega⟩)), _, fu_s, Nat.le_refl _⟩
def CPW (E : Ev) (g : Gs) (n : Nat) (W : Nat → Option Nat) : Prop := ∀ x L, PA E g n x L → geW W x L
def FKW (E : Ev) (g : Gs) (n i : Nat) (W : Nat → Option Nat) : Prop := ∀ k, k ≤ i → ∀ x L, Pt E g n k x L → geW W x L
def CLW (E : Ev) (g : Gs) (W W' : Nat → Option Nat) : Prop := ∀ m x, m < 32 → EDG g m x → ∀ L, geW W m L → geW W' x (L + tv E x)
theorem FKW_s {E : Ev} {g : Gs} {n i : Nat} {W W' : Nat → Option Nat} (h : FKW E g n i W) (hM : MoW W W') (hC : CLW E g W W') : FKW E g n (i + 1) W' := fun k hk x L hp => by
  by_cases hki : k ≤ i
  · exact hM x L (h k hki x L hp)
  · rw [show k = i + 1 by omega] at hp
    obtain ⟨m, L1, h1, h2, h3, h4⟩ := hp
    rw [h4]
    exact hC m x h1 h3 L1 (h i (Nat.le_refl _) m L1 h2)
theorem FKW_cl {E : Ev} {g : Gs} {n i : Nat} {W : Nat → Option Nat} (h : FKW E g n i W) (hC : CLW E g W W) : CPW E g n W := fun x L ⟨k, hk⟩ => by
  have : ∀ k, FKW E g n k W := fun k => by
    induction k with
    | zero => exact fun k2 hk2 => h k2 (by omega)
    | succ k ih => exact FKW_s ih MoW_rf hC
  exact this k k (Nat.le_refl _) x L hk
theorem FKW_31 {E : Ev} {g : Gs} {rk : Nat → Nat} {n i : Nat} {W : Nat → Option Nat} (hT : TDO E g rk) (hn : n < 32) (hd : gDn g n = 3) (hi : 31 ≤ i) (h : FKW E g n i W) : CPW E g n W := fun x L ⟨k, hk⟩ => h k (by have := Pt_ok hT hn hd k x L hk; omega) x L hk
theorem W_u {E : Ev} {g : Gs} {n : Nat} {W W' : Nat → Option Nat} (h1 : SdW E g n W) (h2 : CPW E g n W) (h3 : SdW E g n W') (h4 : CPW E g n W') (x : Nat) (hx : x < 32) : W x = W' x := by
  cases hw : W x with
  | none =>
    cases hw2 : W' x with
    | none => rfl
    | some v =>
      obtain ⟨u, u1, -⟩ := h2 x v (h3 x v hx hw2)
      rw [hw] at u1; cases u1
  | some v =>
    obtain ⟨u, u1, u2⟩ := h4 x v (h1 x v hx hw)
    obtain ⟨w, w1, w2⟩ := h2 x u (h3 x u hx u1)
    rw [hw] at w1
    cases w1
    rw [u1, Nat.le_antisymm u2 w2]
/-! the class: reads and times out of the fresh rows -/
theorem nra_v {E : Ev} {g : Gs} {rk : Nat → Nat} {S : St} (hT : TDO E g rk) (hF : FreT E g (S.1 (9 + 2 * 1))) {m j : Nat} (hm : m < 32) (hd : gDn g m = 3) (hj : j < 5) : m_X5_nodeReadAt S (nI m) (nI j) = some (eO (er g m j)) := by
  obtain ⟨r, f1, f2⟩ := hF m hm hd
  obtain ⟨-, -, -, ⟨r', r1, r2, r3⟩, -⟩ := hT m hm hd
  unfold m_X5_nodeReadAt
  rw [pk_mul, nI_add, zb_e, nI_add, nI_add, tg_f (b := 1) (by omega) hm (by omega), zo_e, tg_f (b := 1) (by omega) hm (by omega), zo_e, f2 _ (by omega), f2 _ (by omega), rowC_rd (by omega) (by omega), rowC_rd (by omega) (by omega)]
  have e0 : 15 + j * 7 + 0 - 15 = 7 * j + 0 := by omega
  have e1 : 15 + j * 7 + 1 - 15 = 7 * j + 1 := by omega
  rw [e0, e1, rdC_at (by omega), rdC_at (by omega)]
  unfold er
  cases hg : (gRd g m)[j]? with
  | none =>
    show (if (-1 : Int32) = nI 2 then _ else if (-1 : Int32) = nI 3 then _ else some (-1)) = some (-1)
    rw [if_neg (by decide), if_neg (by decide)]
  | some y =>
    show (if nI y.2.1 = nI 2 then zo (m_X6_nodeRead S (nI m) (nI y.2.1) (nI y.2.2.1)) _ else if nI y.2.1 = nI 3 then zo (m_X6_nodeRead S (nI m) (nI y.2.1) (nI y.2.2.1)) _ else some (-1)) = some (eO (if y.2.1 = 2 ∨ y.2.1 = 3 then some (nR m y.2.1 y.2.2.1) else none))
    have hmem := List.mem_of_getElem? hg
    have hy4 : y.2.1 ≤ 4 ∧ (y.2.1 = 2 ∨ y.2.1 = 3 → y.2.2.1 < 16) := by
      rcases WFr_slot r2 r3 y hmem with q | q
      · refine ⟨by have := q.2.2.1; omega, fun z => ?_⟩
        have := q.2.2.2
        rwa [lim_16 (by omega) (by omega)] at this
      · exact ⟨by omega, fun z => by omega⟩
    by_cases h2 : y.2.1 = 2
    · rw [if_pos (by rw [h2]), if_pos (Or.inl h2), nodeRead_v hm (by omega) (hy4.2 (Or.inl h2)), zo_e]
      rfl
    · rw [if_neg (nI_ne (by omega) (by omega) h2)]
      by_cases h3 : y.2.1 = 3
      · rw [if_pos (by rw [h3]), if_pos (Or.inr h3), nodeRead_v hm (by omega) (hy4.2 (Or.inr h3)), zo_e]
        rfl
      · rw [if_neg (nI_ne (by omega) (by omega) h3), if_neg (by omega)]
        rfl
theorem tim_v {E : Ev} {g : Gs} {S : St} (hF : FreT E g (S.1 (9 + 2 * 1))) {m : Nat} (hm : m < 32) (hd : gDn g m = 3) : m_X5_timeOf S (nI m) = some (nI (tv E m)) := by
  obtain ⟨r, f1, f2⟩ := hF m hm hd
  unfold m_X5_timeOf
  rw [tg_f (b := 1) (by omega) hm (by omega), zo_e, f2 _ (by omega), rowC_ru (by omega)]
  have et : tv E m = tm r := by unfold tv; rw [f1]
  rw [et]
  rfl
/-- the class's cells of table 7 -/
def WC (W : Nat → Option Nat) (S : St) : Prop := ∀ m, m < 32 → S.1 7 (m * 2 + 0) = eO (W m)
def K7 (S0 S : St) : Prop := (∀ m, m < 32 → S.1 7 (m * 2 + 1) = -1) ∧ ∀ k, ¬ k = 7 → S.1 k = S0.1 k
theorem WC_set {W : Nat → Option Nat} {S : St} (h : WC W S) {x v : Nat} : WC (fu W x (some v)) (tb S 7 (upd (S.1 7) (x * 2 + 0) (nI v))) := fun m hm => by
  rw [tb_s]
  by_cases hmx : m = x
  · subst hmx; rw [pk_us, fu_s]; rfl
  · rw [pk_un (by omega), fu_n hmx]; exact h m hm
theorem K7_set {S0 S : St} (h : K7 S0 S) {x : Nat} {v : Int32} : K7 S0 (tb S 7 (upd (S.1 7) (x * 2 + 0) v)) :=
  ⟨fun m hm => by rw [tb_s, pk_un (by omega)]; exact h.1 m hm, fun k q => by rw [tb_n q]; exact h.2 k q⟩
theorem eO_n {o : Option Nat} (h : ∀ v, o = some v → v < 2147483648) : (eO o = -1) = (o = none) := by
  cases o with
  | none => simp [eO]
  | some v =>
    have : ¬ nI v = -1 := nI_n1 (h v rfl)
    simp [eO, this]
