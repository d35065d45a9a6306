/-! numbers, tables -/
theorem tn {r : Nat} (h : r < 2147483648) : Int32.toNatClampNeg (nI r) = r := nI_clamp (by omega)
theorem inb_t {r n : Nat} (h : r < n) (hn : n ≤ 2147483648) : inb (nI r) n = true := by
  have h1 : ¬ nI r < 0 := nI_pos (by omega)
  have h2 : (nI r).toNatClampNeg = r := nI_clamp (by omega)
  have h3 : ¬ n ≤ r := by omega
  simp [inb, h1, h2, h3]
theorem zg_in {β : Type} {r n : Nat} {X : Option β} (h : r < n) (hn : n ≤ 2147483648) : zg (inb (nI r) n) X = X := by
  rw [inb_t h hn]; rfl
theorem zg_tr {β : Type} {X : Option β} : zg true X = X := rfl
theorem zb_e {α β : Type} {e : α} {f : α → Option β} : zb e f = f e := rfl
theorem zo_e {α β : Type} {a : α} {f : α → Option β} : zo (some a) f = f a := rfl
theorem zo2_e {α γ β : Type} {a : α} {b : γ} {f : α → γ → Option β} : zo2 (some (a, b)) f = f a b := rfl
theorem ri_n {S : St} {k r : Nat} (h : r < 2147483648) : ri S k (nI r) = S.1 k r := by simp only [ri, tn h]
theorem rj_n {S : St} {k r : Nat} (h : r < 2147483648) : rj S k (nI r) = S.2 k r := by simp only [rj, tn h]
theorem wi_1 {S : St} {k i : Nat} {v : Int32} {k2 j : Nat} : (wi S k i v).1 k2 j = if k2 = k then (if j = i then v else S.1 k2 j) else S.1 k2 j := by
  by_cases h : k2 = k
  · subst h; simp [wi, va_up, upd]
  · simp [wi, va_up, h]
theorem wi_2 {S : St} {k i : Nat} {v : Int32} : (wi S k i v).2 = S.2 := rfl
theorem wj_1 {S : St} {k i : Nat} {v : Int64} : (wj S k i v).1 = S.1 := rfl
theorem wj_2 {S : St} {k i : Nat} {v : Int64} {k2 j : Nat} : (wj S k i v).2 k2 j = if k2 = k then (if j = i then v else S.2 k2 j) else S.2 k2 j := by
  by_cases h : k2 = k
  · subst h; simp [wj, va_up, vp_updL]
  · simp [wj, va_up, h]
theorem nI_n1 {r : Nat} (h : r < 2147483648) : ¬ nI r = -1 := by
  intro q
  have h1 := congrArg Int32.toInt q
  rw [nI_toInt (by omega)] at h1
  have h2 : (-1 : Int32).toInt = -1 := by decide
  omega
theorem nI_inj {a b : Nat} (ha : a < 2147483648) (hb : b < 2147483648) (h : nI a = nI b) : a = b := (nI_eq (by omega) (by omega)).mp h
theorem nI_ne {a b : Nat} (ha : a < 2147483648) (hb : b < 2147483648) (h : ¬ a = b) : ¬ nI a = nI b := fun q => h (nI_inj ha hb q)
theorem le_nI {a b : Nat} (ha : a < 2147483648) (hb : b < 2147483648) : (nI a ≤ nI b) = (a ≤ b) := propext (nI_leI (by omega) (by omega))
theorem lt_nI {a b : Nat} (ha : a < 2147483648) (hb : b < 2147483648) : (nI a < nI b) = (a < b) := propext (nI_ltI (by omega) (by omega))
theorem eq_nI {a b : Nat} (ha : a < 2147483648) (hb : b < 2147483648) : (nI a = nI b) = (a = b) := propext (nI_eq (by omega) (by omega))
theorem lt0_nI {a : Nat} (ha : a < 2147483648) : (nI a < 0) = False := eq_false (nI_pos (by omega))
theorem le0_nI {a : Nat} (ha : a < 2147483648) : (0 ≤ nI a) = True := eq_true (nI_pos' (by omega))
theorem eq0_nI {a : Nat} (ha : a < 2147483648) : (nI a = 0) = (a = 0) := by rw [← nI_0]; exact eq_nI ha (by omega)
theorem div_nI {a d : Nat} (ha : a < 2147483648) (h0 : 0 < d) (hd : d < 2147483648) : nI a / nI d = nI (a / d) := pk_div (by omega) h0 (by omega)
theorem irm_nI {a d : Nat} (ha : a < 2147483648) (h0 : 0 < d) (hd : d < 2147483648) : irm (nI a) (nI d) = nI (a % d) := pk_rem (by omega) h0 (by omega)
/-! the twelve tables: rows and widths as numbers -/
def mnN : Nat → Nat
  | 0 => 4
  | 1 => 16
  | 2 => 32
  | 3 => 100
  | 4 => 3
  | 5 => 16
  | 6 => 16
  | 7 => 32
  | 8 => 32
  | 9 => 32
  | 10 => 32
  | 11 => 32
  | _ => 0
def wdN : Nat → Nat
  | 0 => 5
  | 1 => 13
  | 2 => 53
  | 3 => 53
  | 4 => 2
  | 5 => 1
  | 6 => 2
  | 7 => 2
  | 8 => 3
  | 9 => 53
  | 10 => 3
  | 11 => 53
  | _ => 0
theorem tab_ok {k : Nat} (h : k < 12) : mny k = nI (mnN k) ∧ wid k = nI (wdN k) ∧ rsz k = mnN k * wdN k ∧ mnN k ≤ 100 ∧ wdN k ≤ 53 ∧ 0 < wdN k ∧ 0 < mnN k := by
  rcases lt12 h with rfl | rfl | rfl | rfl | rfl | rfl | rfl | rfl | rfl | rfl | rfl | rfl <;> decide
theorem ix_lt {r w m p : Nat} (hr : r < m) (hp : p < w) : r * w + p < m * w := by
  have h1 : (r + 1) * w ≤ m * w := Nat.mul_le_mul_right w hr
  rw [Nat.succ_mul] at h1
  omega
theorem ix_le {m w : Nat} (hm : m ≤ 100) (hw : w ≤ 53) : m * w ≤ 5300 := by
  have := Nat.mul_le_mul hm hw
  omega
theorem get_v {k : Nat} (hk : k < 12) {S : St} {r p : Nat} (hr : r < mnN k) (hp : p < wdN k) : m_X4_get k S (nI r) (nI p) = some (S.1 k (r * wdN k + p)) := by
  obtain ⟨e1, e2, e3, b1, b2, b3, b4⟩ := tab_ok hk
  have hx := ix_lt hr hp
  have hm := ix_le b1 b2
  have hz : Int32.ofNat (mnN k * wdN k) = nI (mnN k * wdN k) := rfl
  unfold m_X4_get
  rw [e1, e2, e3, hz, pk_mul, nI_add]
  simp only [lt0_nI (a := r) (by omega), lt0_nI (a := p) (by omega), le_nI (a := mnN k) (b := r) (by omega) (by omega), le_nI (a := wdN k) (b := p) (by omega) (by omega), if_false, zb_e]
  rw [if_neg (by omega), if_neg (by omega), if_neg (nI_pos (by omega)), if_neg (by rw [le_nI (by omega) (by omega)]; omega), zg_in hx (by omega), ri_n (by omega)]
theorem get_hi {k : Nat} (hk : k < 12) {S : St} {r : Nat} {p : Int32} (hr : mnN k ≤ r) (hr2 : r < 2147483648) : m_X4_get k S (nI r) p = some (blk k) := by
  obtain ⟨e1, e2, e3, b1, b2, b3, b4⟩ := tab_ok hk
  unfold m_X4_get
  rw [e1, if_neg (nI_pos (by omega)), if_pos (by rw [le_nI (by omega) hr2]; exact hr)]
  rfl
theorem get_lo {k : Nat} {S : St} {p : Int32} : m_X4_get k S (-1) p = some (blk k) := by
  unfold m_X4_get
  rw [if_pos (by decide)]
  rfl
theorem set_v {k : Nat} (hk : k < 12) {S : St} {r p : Nat} {v : Int32} (hr : r < mnN k) (hp : p < wdN k) : m_X4_set k S (nI r) (nI p) v = some (wi S k (r * wdN k + p) v) := by
  obtain ⟨e1, e2, e3, b1, b2, b3, b4⟩ := tab_ok hk
  have hx := ix_lt hr hp
  have hm := ix_le b1 b2
  have hz : Int32.ofNat (mnN k * wdN k) = nI (mnN k * wdN k) := rfl
  unfold m_X4_set
  rw [e1, e2, e3, hz, pk_mul, nI_add]
  simp only [lt0_nI (a := r) (by omega), lt0_nI (a := p) (by omega), le_nI (a := mnN k) (b := r) (by omega) (by omega), le_nI (a := wdN k) (b := p) (by omega) (by omega), if_false, zb_e]
  rw [if_neg (by omega), if_neg (by omega), if_neg (nI_pos (by omega)), if_neg (by rw [le_nI (by omega) (by omega)]; omega), zg_in hx (by omega), tn (by omega)]
/-- a table with other contents -/
def tb (S : St) (k : Nat) (f : Nat → Int32) : St := (va_up S.1 k f, S.2)
theorem tb_1 {S : St} {k : Nat} {f : Nat → Int32} {k2 : Nat} : (tb S k f).1 k2 = if k2 = k then f else S.1 k2 := by
  simp only [tb, va_up]
theorem tb_s {S : St} {k : Nat} {f : Nat → Int32} : (tb S k f).1 k = f := by simp [tb_1]
theorem tb_2 {S : St} {k : Nat} {f : Nat → Int32} : (tb S k f).2 = S.2 := rfl
theorem tb_tb {S : St} {k : Nat} {f g : Nat → Int32} : tb (tb S k f) k g = tb S k g := by
  simp only [tb]
  congr 1
  funext j
  simp only [va_up]
  split <;> rfl
theorem wi_tb {S : St} {k i : Nat} {v : Int32} : wi S k i v = tb S k (upd (S.1 k) i v) := rfl
theorem tb_id {S : St} {k : Nat} : tb S k (S.1 k) = S := by
  have h : va_up S.1 k (S.1 k) = S.1 := by
    funext j
    simp only [va_up]
    split
    · subst j; rfl
    · rfl
  simp only [tb, h]
/-- a row with blanks -/
def clrF (f : Nat → Int32) (a n : Nat) (v : Int32) : Nat → Int32 := fun i => if a ≤ i ∧ i < a + n then v else f i
theorem clrF_s {f : Nat → Int32} {a n : Nat} {v : Int32} : clrF (upd f a v) (a + 1) n v = clrF f a (n + 1) v := by
  funext i
  simp only [clrF, upd]
  by_cases h : a = i
  · subst h; rw [if_neg (by omega), if_pos rfl, if_pos (by omega)]
  · by_cases h2 : a + 1 ≤ i ∧ i < a + 1 + n
    · rw [if_pos h2, if_pos (by omega)]
    · rw [if_neg h2, if_neg (fun q => h q.symm), if_neg (by omega)]
theorem clrF_0 {f : Nat → Int32} {a : Nat} {v : Int32} : clrF f a 0 v = f := by
  funext i
  simp only [clrF]
  rw [if_neg (by omega)]
theorem clear_l {k : Nat} (hk : k < 12) {t : Nat} : ∀ (n i d : Nat) (S : St), i + d = t + wdN k → t + wdN k ≤ mnN k * wdN k → d < n → zl2 (m_X4_clear_B29 k (nI t)) n S (nI i) = some (tb S k (clrF (S.1 k) i d (blk k))) := by
  obtain ⟨e1, e2, e3, b1, b2, b3, b4⟩ := tab_ok hk
  have hm := ix_le b1 b2
  have hz : Int32.ofNat (mnN k * wdN k) = nI (mnN k * wdN k) := rfl
  intro n
  induction n with
  | zero => intro i d S _ _ h; omega
  | succ n ih =>
    intro i d S h1 h2 h3
    have hu : zl2 (m_X4_clear_B29 k (nI t)) (n + 1) S (nI i) = m_X4_clear_B29 k (nI t) (zl2 (m_X4_clear_B29 k (nI t)) n) S (nI i) := rfl
    rw [hu]
    generalize hG : zl2 (m_X4_clear_B29 k (nI t)) n = G at ih ⊢
    unfold m_X4_clear_B29
    rw [e2, e3, hz, nI_add, if_neg (nI_pos (by omega))]
    simp only [le_nI (a := mnN k * wdN k) (b := i) (by omega) (by omega), le_nI (a := t + wdN k) (b := i) (by omega) (by omega), zb_e]
    match d, h1, h3 with
    | 0, h1, h3 =>
      rw [clrF_0, tb_id]
      by_cases h4 : mnN k * wdN k ≤ i
      · rw [if_pos h4]
      · rw [if_neg h4, if_pos (by omega)]
    | d + 1, h1, h3 =>
      rw [if_neg (by omega), if_neg (by omega), zg_in (by omega) (by omega), tn (by omega), nI_add, ih (i + 1) d (wi S k i (blk k)) (by omega) h2 (by omega), wi_tb, tb_tb, tb_s, clrF_s]
theorem FU_gt {n : Nat} (h : n < 8192) : n < FU := h
theorem clear_v {k : Nat} (hk : k < 12) {S : St} {r : Nat} (hr : r < mnN k) : m_X4_clear k S (nI r) = some (tb S k (clrF (S.1 k) (r * wdN k) (wdN k) (blk k))) := by
  obtain ⟨e1, e2, e3, b1, b2, b3, b4⟩ := tab_ok hk
  have hm := ix_le b1 b2
  have h1 : (r + 1) * wdN k ≤ mnN k * wdN k := Nat.mul_le_mul_right _ hr
  rw [Nat.succ_mul] at h1
  unfold m_X4_clear
  rw [e1, if_neg (nI_pos (by omega)), if_neg (by rw [le_nI (by omega) (by omega)]; omega)]
  unfold m_X4_clear_J26
  rw [e2, pk_mul]
  exact clear_l hk FU (r * wdN k) (wdN k) S rfl (by omega) (FU_gt (by omega))
/-- a row taken over -/
def cpyF (f g : Nat → Int32) (a b n : Nat) : Nat → Int32 := fun i => if a ≤ i ∧ i < a + n then g (b + (i - a)) else f i
theorem cpyF_s {f g : Nat → Int32} {a b n : Nat} : cpyF (upd f a (g b)) g (a + 1) (b + 1) n = cpyF f g a b (n + 1) := by
  funext i
  simp only [cpyF, upd]
  by_cases h : a = i
  · subst h; rw [if_neg (by omega), if_pos rfl, if_pos (by omega)]; simp
  · by_cases h2 : a + 1 ≤ i ∧ i < a + 1 + n
    · rw [if_pos h2, if_pos (by omega), show b + 1 + (i - (a + 1)) = b + (i - a) by omega]
    · rw [if_neg h2, if_neg (fun q => h q.symm), if_neg (by omega)]
theorem cpyF_0 {f g : Nat → Int32} {a b : Nat} : cpyF f g a b 0 = f := by
  funext i
  simp only [cpyF]
  rw [if_neg (by omega)]
theorem copy_l {k k2 : Nat} (hk : k < 12) (hk2 : k2 < 12) (hne : ¬ k2 = k) {r r2 w : Nat} (hr : r < mnN k) (hr2 : r2 < mnN k2) (hw : w = min (wdN k) (wdN k2)) : ∀ (n i d : Nat) (S : St), i + d = w → d < n → zl2 (m_X4_copy_B3 k k2 (nI r2) (nI r)) n S (nI i) = some (tb S k (cpyF (S.1 k) (S.1 k2) (r * wdN k + i) (r2 * wdN k2 + i) d)) := by
  obtain ⟨e1, e2, e3, b1, b2, b3, b4⟩ := tab_ok hk
  obtain ⟨f1, f2, f3, c1, c2, c3, c4⟩ := tab_ok hk2
  intro n
  induction n with
  | zero => intro i d S _ h; omega
  | succ n ih =>
    intro i d S h1 h3
    have hu : zl2 (m_X4_copy_B3 k k2 (nI r2) (nI r)) (n + 1) S (nI i) = m_X4_copy_B3 k k2 (nI r2) (nI r) (zl2 (m_X4_copy_B3 k k2 (nI r2) (nI r)) n) S (nI i) := rfl
    rw [hu]
    generalize hG : zl2 (m_X4_copy_B3 k k2 (nI r2) (nI r)) n = G at ih ⊢
    unfold m_X4_copy_B3
    rw [e2, f2]
    simp only [le_nI (a := wdN k) (b := i) (by omega) (by omega), le_nI (a := wdN k2) (b := i) (by omega) (by omega), zb_e]
    match d, h1, h3 with
    | 0, h1, h3 =>
      rw [cpyF_0, tb_id]
      by_cases h4 : wdN k ≤ i
      · rw [if_pos h4]
      · rw [if_neg h4, if_pos (by omega)]
    | d + 1, h1, h3 =>
      rw [if_neg (by omega), if_neg (by omega), get_v hk2 hr2 (by omega), zo_e, set_v hk hr (by omega), zo_e, nI_add, ih (i + 1) d (wi S k (r * wdN k + i) (S.1 k2 (r2 * wdN k2 + i))) (by omega) (by omega), wi_tb, tb_tb, tb_s]
      have e : (tb S k (upd (S.1 k) (r * wdN k + i) (S.1 k2 (r2 * wdN k2 + i)))).1 k2 = S.1 k2 := by rw [tb_1, if_neg hne]
      rw [e, ← cpyF_s, Nat.add_assoc, Nat.add_assoc]
theorem copy_v {k k2 : Nat} (hk : k < 12) (hk2 : k2 < 12) (hne : ¬ k2 = k) {S : St} {r r2 w : Nat} (hr : r < mnN k) (hr2 : r2 < mnN k2) (hw : w = min (wdN k) (wdN k2)) : m_X4_copy k k2 S (nI r) (nI r2) = some (tb S k (cpyF (S.1 k) (S.1 k2) (r * wdN k) (r2 * wdN k2) w)) := by
  obtain ⟨e1, e2, e3, b1, b2, b3, b4⟩ := tab_ok hk
  have h := copy_l hk hk2 hne hr hr2 hw FU 0 w S (by omega) (FU_gt (by omega))
  exact h
theorem isSame_l {k k2 : Nat} (hk : k < 12) (hk2 : k2 < 12) {r r2 e : Nat} (hr : r < mnN k) (hr2 : r2 < mnN k2) (he : e ≤ wdN k) (he2 : e ≤ wdN k2) {S : St} : ∀ (n i d : Nat), i + d = e → d < n →
    (((∀ p, i ≤ p → p < e → S.1 k (r * wdN k + p) = S.1 k2 (r2 * wdN k2 + p)) → zl1 (m_X4_isSame_B4 (nI e) k S (nI r) k2 (nI r2)) n (nI i) = some (nI 1)) ∧
    ((¬ ∀ p, i ≤ p → p < e → S.1 k (r * wdN k + p) = S.1 k2 (r2 * wdN k2 + p)) → zl1 (m_X4_isSame_B4 (nI e) k S (nI r) k2 (nI r2)) n (nI i) = some (nI 0))) := by
  obtain ⟨e1, e2, e3, b1, b2, b3, b4⟩ := tab_ok hk
  intro n
  induction n with
  | zero => intro i d _ h; omega
  | succ n ih =>
    intro i d h1 h3
    have hu : zl1 (m_X4_isSame_B4 (nI e) k S (nI r) k2 (nI r2)) (n + 1) (nI i) = m_X4_isSame_B4 (nI e) k S (nI r) k2 (nI r2) (zl1 (m_X4_isSame_B4 (nI e) k S (nI r) k2 (nI r2)) n) (nI i) := rfl
    rw [hu]
    generalize hG : zl1 (m_X4_isSame_B4 (nI e) k S (nI r) k2 (nI r2)) n = G at ih ⊢
    unfold m_X4_isSame_B4
    simp only [le_nI (a := e) (b := i) (by omega) (by omega), zb_e, nI_add]
    by_cases h4 : e ≤ i
    · rw [if_pos h4]
      exact ⟨fun _ => rfl, fun h => absurd (fun p h5 h6 => by omega) h⟩
    · rw [if_neg h4, get_v hk hr (by omega), zo_e, get_v hk2 hr2 (by omega), zo_e]
      obtain ⟨i1, i2⟩ := ih (i + 1) (d - 1) (by omega) (by omega)
      by_cases h5 : S.1 k (r * wdN k + i) = S.1 k2 (r2 * wdN k2 + i)
      · rw [if_pos h5]
        refine ⟨fun h => i1 (fun p h6 h7 => h p (by omega) h7), fun h => i2 (fun q => h (fun p h6 h7 => ?_))⟩
        by_cases h8 : i = p
        · subst h8; exact h5
        · exact q p (by omega) h7
      · rw [if_neg h5]
        exact ⟨fun h => absurd (h i (by omega) (by omega)) h5, fun _ => rfl⟩
theorem isSame_t {k k2 : Nat} (hk : k < 12) (hk2 : k2 < 12) {S : St} {r r2 a e : Nat} (hr : r < mnN k) (hr2 : r2 < mnN k2) (he : e ≤ wdN k) (he2 : e ≤ wdN k2) (ha : a ≤ e) (h : ∀ p, a ≤ p → p < e → S.1 k (r * wdN k + p) = S.1 k2 (r2 * wdN k2 + p)) : m_X4_isSame k k2 S (nI r) (nI r2) (nI a) (nI e) = some (nI 1) := by
  obtain ⟨e1, e2, e3, b1, b2, b3, b4⟩ := tab_ok hk
  exact (isSame_l hk hk2 hr hr2 he he2 FU a (e - a) (by omega) (FU_gt (by omega))).1 h
theorem isSame_f {k k2 : Nat} (hk : k < 12) (hk2 : k2 < 12) {S : St} {r r2 a e : Nat} (hr : r < mnN k) (hr2 : r2 < mnN k2) (he : e ≤ wdN k) (he2 : e ≤ wdN k2) (ha : a ≤ e) (h : ¬ ∀ p, a ≤ p → p < e → S.1 k (r * wdN k + p) = S.1 k2 (r2 * wdN k2 + p)) : m_X4_isSame k k2 S (nI r) (nI r2) (nI a) (nI e) = some (nI 0) := by
  obtain ⟨e1, e2, e3, b1, b2, b3, b4⟩ := tab_ok hk
  exact (isSame_l hk hk2 hr hr2 he he2 FU a (e - a) (by omega) (FU_gt (by omega))).2 h
/-- how many of the first n have a property -/
def cntB (f : Nat → Bool) : Nat → Nat
  | 0 => 0
  | n + 1 => cntB f n + (if f n then 1 else 0)
theorem cntB_le {f : Nat → Bool} : ∀ n, cntB f n ≤ n
  | 0 => Nat.le_refl 0
  | n + 1 => by
    have := cntB_le (f := f) n
    simp only [cntB]
    split <;> omega
theorem filled_l {k : Nat} (hk : k < 12) (hw : 1 < wdN k) {S : St} : ∀ (n i d : Nat), i + d = mnN k → d < n → zl2 (m_X4_howManyFilled_B4 k S) n (nI (cntB (fun r => decide (S.1 k (r * wdN k + 1) ≠ -1)) i)) (nI i) = some (nI (cntB (fun r => decide (S.1 k (r * wdN k + 1) ≠ -1)) (mnN k))) := by
  obtain ⟨e1, e2, e3, b1, b2, b3, b4⟩ := tab_ok hk
  intro n
  induction n with
  | zero => intro i d _ h; omega
  | succ n ih =>
    intro i d h1 h3
    generalize hf : (fun r => decide (S.1 k (r * wdN k + 1) ≠ -1)) = f at ih ⊢
    have hu : zl2 (m_X4_howManyFilled_B4 k S) (n + 1) (nI (cntB f i)) (nI i) = m_X4_howManyFilled_B4 k S (zl2 (m_X4_howManyFilled_B4 k S) n) (nI (cntB f i)) (nI i) := rfl
    rw [hu]
    generalize hG : zl2 (m_X4_howManyFilled_B4 k S) n = G at ih ⊢
    unfold m_X4_howManyFilled_B4
    rw [e1]
    simp only [le_nI (a := mnN k) (b := i) (by omega) (by omega), zb_e, nI_add]
    by_cases h4 : mnN k ≤ i
    · rw [if_pos h4, show i = mnN k by omega]
    · rw [if_neg h4, get_v hk (by omega) hw, zo_e]
      have hi := ih (i + 1) (d - 1) (by omega) (by omega)
      have hfi : f i = decide (S.1 k (i * wdN k + 1) ≠ -1) := by rw [← hf]
      by_cases h5 : S.1 k (i * wdN k + 1) = -1
      · rw [if_pos h5]
        have : cntB f (i + 1) = cntB f i := by simp [cntB, hfi, h5]
        rw [this] at hi
        exact hi
      · rw [if_neg h5]
        have : cntB f (i + 1) = cntB f i + 1 := by simp [cntB, hfi, h5]
        rw [this] at hi
        exact hi
theorem filled_v {k : Nat} (hk : k < 12) (hw : 1 < wdN k) {S : St} : m_X4_howManyFilled k S = some (nI (cntB (fun r => decide (S.1 k (r * wdN k + 1) ≠ -1)) (mnN k))) := by
  obtain ⟨e1, e2, e3, b1, b2, b3, b4⟩ := tab_ok hk
  exact filled_l hk hw FU 0 (mnN k) (by omega) (FU_gt (by omega))
