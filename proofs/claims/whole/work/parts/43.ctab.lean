/-! the class's tables -/
theorem tg_0 {S : St} {r p : Nat} (hr : r < 4) (hp : p < 5) : m_X4_get 0 S (nI r) (nI p) = some (S.1 0 (r * 5 + p)) := get_v (k := 0) (by omega) hr hp
theorem tg_1 {S : St} {r p : Nat} (hr : r < 16) (hp : p < 13) : m_X4_get 1 S (nI r) (nI p) = some (S.1 1 (r * 13 + p)) := get_v (k := 1) (by omega) hr hp
theorem tg_2 {S : St} {r p : Nat} (hr : r < 32) (hp : p < 53) : m_X4_get 2 S (nI r) (nI p) = some (S.1 2 (r * 53 + p)) := get_v (k := 2) (by omega) hr hp
theorem tg_3 {S : St} {r p : Nat} (hr : r < 100) (hp : p < 53) : m_X4_get 3 S (nI r) (nI p) = some (S.1 3 (r * 53 + p)) := get_v (k := 3) (by omega) hr hp
theorem tg_4 {S : St} {r p : Nat} (hr : r < 3) (hp : p < 2) : m_X4_get 4 S (nI r) (nI p) = some (S.1 4 (r * 2 + p)) := get_v (k := 4) (by omega) hr hp
theorem tg_5 {S : St} {r : Nat} (hr : r < 16) : m_X4_get 5 S (nI r) (nI 0) = some (S.1 5 r) := by
  have h := get_v (k := 5) (by omega) (S := S) hr (p := 0) (by decide)
  have e : r * wdN 5 + 0 = r := by show r * 1 + 0 = r; omega
  rwa [e] at h
theorem tg_6 {S : St} {r p : Nat} (hr : r < 16) (hp : p < 2) : m_X4_get 6 S (nI r) (nI p) = some (S.1 6 (r * 2 + p)) := get_v (k := 6) (by omega) hr hp
theorem tg_7 {S : St} {r p : Nat} (hr : r < 32) (hp : p < 2) : m_X4_get 7 S (nI r) (nI p) = some (S.1 7 (r * 2 + p)) := get_v (k := 7) (by omega) hr hp
theorem lt2 {b : Nat} (h : b < 2) : b = 0 ∨ b = 1 := by omega
theorem tg_s {b : Nat} (hb : b < 2) {S : St} {r p : Nat} (hr : r < 32) (hp : p < 3) : m_X4_get (8 + 2 * b) S (nI r) (nI p) = some (S.1 (8 + 2 * b) (r * 3 + p)) := by
  rcases lt2 hb with rfl | rfl
  · exact get_v (k := 8) (by omega) hr hp
  · exact get_v (k := 10) (by omega) hr hp
theorem tg_f {b : Nat} (hb : b < 2) {S : St} {r p : Nat} (hr : r < 32) (hp : p < 53) : m_X4_get (9 + 2 * b) S (nI r) (nI p) = some (S.1 (9 + 2 * b) (r * 53 + p)) := by
  rcases lt2 hb with rfl | rfl
  · exact get_v (k := 9) (by omega) hr hp
  · exact get_v (k := 11) (by omega) hr hp
theorem ts_0 {S : St} {r p : Nat} {v : Int32} (hr : r < 4) (hp : p < 5) : m_X4_set 0 S (nI r) (nI p) v = some (tb S 0 (upd (S.1 0) (r * 5 + p) v)) := set_v (k := 0) (by omega) hr hp
theorem ts_1 {S : St} {r p : Nat} {v : Int32} (hr : r < 16) (hp : p < 13) : m_X4_set 1 S (nI r) (nI p) v = some (tb S 1 (upd (S.1 1) (r * 13 + p) v)) := set_v (k := 1) (by omega) hr hp
theorem ts_2 {S : St} {r p : Nat} {v : Int32} (hr : r < 32) (hp : p < 53) : m_X4_set 2 S (nI r) (nI p) v = some (tb S 2 (upd (S.1 2) (r * 53 + p) v)) := set_v (k := 2) (by omega) hr hp
theorem ts_3 {S : St} {r p : Nat} {v : Int32} (hr : r < 100) (hp : p < 53) : m_X4_set 3 S (nI r) (nI p) v = some (tb S 3 (upd (S.1 3) (r * 53 + p) v)) := set_v (k := 3) (by omega) hr hp
theorem ts_4 {S : St} {r p : Nat} {v : Int32} (hr : r < 3) (hp : p < 2) : m_X4_set 4 S (nI r) (nI p) v = some (tb S 4 (upd (S.1 4) (r * 2 + p) v)) := set_v (k := 4) (by omega) hr hp
theorem ts_5 {S : St} {r : Nat} {v : Int32} (hr : r < 16) : m_X4_set 5 S (nI r) (nI 0) v = some (tb S 5 (upd (S.1 5) r v)) := by
  have h := set_v (k := 5) (by omega) (S := S) (v := v) hr (p := 0) (by decide)
  have e : r * wdN 5 + 0 = r := by show r * 1 + 0 = r; omega
  rwa [e] at h
theorem ts_6 {S : St} {r p : Nat} {v : Int32} (hr : r < 16) (hp : p < 2) : m_X4_set 6 S (nI r) (nI p) v = some (tb S 6 (upd (S.1 6) (r * 2 + p) v)) := set_v (k := 6) (by omega) hr hp
theorem ts_7 {S : St} {r p : Nat} {v : Int32} (hr : r < 32) (hp : p < 2) : m_X4_set 7 S (nI r) (nI p) v = some (tb S 7 (upd (S.1 7) (r * 2 + p) v)) := set_v (k := 7) (by omega) hr hp
theorem ts_s {b : Nat} (hb : b < 2) {S : St} {r p : Nat} {v : Int32} (hr : r < 32) (hp : p < 3) : m_X4_set (8 + 2 * b) S (nI r) (nI p) v = some (tb S (8 + 2 * b) (upd (S.1 (8 + 2 * b)) (r * 3 + p) v)) := by
  rcases lt2 hb with rfl | rfl
  · exact set_v (k := 8) (by omega) hr hp
  · exact set_v (k := 10) (by omega) hr hp
theorem ts_f {b : Nat} (hb : b < 2) {S : St} {r p : Nat} {v : Int32} (hr : r < 32) (hp : p < 53) : m_X4_set (9 + 2 * b) S (nI r) (nI p) v = some (tb S (9 + 2 * b) (upd (S.1 (9 + 2 * b)) (r * 53 + p) v)) := by
  rcases lt2 hb with rfl | rfl
  · exact set_v (k := 9) (by omega) hr hp
  · exact set_v (k := 11) (by omega) hr hp
def FilT (φ : Nat → Option Nat) (f : Nat → Int32) : Prop := ∀ i, i < 20 → f i = eO (φ i)
def rlC : Option Rul → Nat → Int32
  | none, _ => -1
  | some r, p => ruC r p
def RulT (ρ : Nat → Option Rul) (f : Nat → Int32) : Prop := ∀ t, t < 16 → ∀ p, p < 13 → f (t * 13 + p) = rlC (ρ t) p
theorem cont_v {S : St} {i : Nat} (hi : i < 20) : m_X6_contentOf 0 S (nI i) = some (S.1 0 i) := by
  unfold m_X6_contentOf
  rw [div_nI (by omega) (by omega) (by omega), irm_nI (by omega) (by omega) (by omega), tg_0 (by omega) (by omega), zo_e, show i / 5 * 5 + i % 5 = i by omega]
theorem nodeRead_v {S : St} {n w y : Nat} (hn : n < 32) (hw : w ≤ 3) (hy : y < 16) : m_X6_nodeRead S (nI n) (nI w) (nI y) = some (nI (nR n w y)) := by
  unfold m_X6_nodeRead m_X6_nodeOf nR
  rw [irm_nI (by omega) (by omega) (by omega), zb_e]
  by_cases h : w = 3
  · subst h
    rw [if_pos rfl, if_pos rfl, pk_sub (by omega), pk_mul, nI_add, zo_e, Nat.mul_comm]
  · rw [if_neg (nI_ne (by omega) (by omega) h), if_neg h, pk_mul, nI_add, zo_e, Nat.mul_comm]
/-! sums of what was read -/
theorem sumO_drop : ∀ (vs : List (Option Nat)) (i : Nat), sumO (vs.drop i) = ((vs[i]?).join).getD 0 + sumO (vs.drop (i + 1))
  | [], i => by simp [sumO]
  | x :: t, 0 => by simp [sumO]
  | x :: t, i + 1 => by
    have h := sumO_drop t i
    simpa using h
theorem sumR_drop (acc : List Rd) {j : Nat} (h : j < acc.length) : sumR (acc.drop j) = sumO (acc[j]).2.2.2 % 1000 + sumR (acc.drop (j + 1)) := by
  rw [List.drop_eq_getElem_cons h]
  rfl
theorem vor_l {b : Nat} (hb : b < 2) {S : St} {n c : Nat} {vs : List (Option Nat)} (hn : n < 32) (hc : c + 7 ≤ 53) (hS : ∀ i, i < 5 → S.1 (9 + 2 * b) (n * 53 + (c + 2 + i)) = eO (vs[i]?).join) (hv : ∀ o ∈ vs, ∀ m, o = some m → m < 1000) (hl : vs.length ≤ 5) :
    ∀ (k d i s : Nat), i + d = 5 → d < k → s ≤ 1000 * i → zl2 (m_X2_valueOfRead_B7 (nI c) b S (nI n)) k (nI s) (nI (c + 2 + i)) = some (nI ((s + sumO (vs.drop i)) % 1000)) := by
  intro k
  induction k with
  | zero => intro d i s _ h; omega
  | succ k ih =>
    intro d i s h1 h2 h3
    have hu : zl2 (m_X2_valueOfRead_B7 (nI c) b S (nI n)) (k + 1) (nI s) (nI (c + 2 + i)) = m_X2_valueOfRead_B7 (nI c) b S (nI n) (zl2 (m_X2_valueOfRead_B7 (nI c) b S (nI n)) k) (nI s) (nI (c + 2 + i)) := rfl
    rw [hu]
    generalize hG : zl2 (m_X2_valueOfRead_B7 (nI c) b S (nI n)) k = G at ih ⊢
    unfold m_X2_valueOfRead_B7
    simp only [nI_add, zb_e]
    match d, h1, h2 with
    | 0, h1, h2 =>
      rw [if_pos (by rw [le_nI (by omega) (by omega)]; omega), irm_nI (by omega) (by omega) (by omega), List.drop_of_length_le (by omega)]
      rfl
    | d + 1, h1, h2 =>
      rw [if_neg (by rw [le_nI (by omega) (by omega)]; omega), tg_f hb hn (by omega), zo_e, hS i (by omega)]
      have hj := sumO_drop vs i
      cases ho : (vs[i]?).join with
      | none =>
        rw [ho] at hj
        rw [show eO none = -1 from rfl, if_pos rfl, show c + 2 + i + 1 = c + 2 + (i + 1) by omega, ih d (i + 1) (s + 0) (by omega) (by omega) (by omega), hj]
        show some (nI ((s + 0 + sumO (vs.drop (i + 1))) % 1000)) = some (nI ((s + (0 + sumO (vs.drop (i + 1)))) % 1000))
        rw [Nat.add_assoc]
      | some m =>
        have hm := join_of hv m ho
        rw [ho] at hj
        rw [show eO (some m) = nI m from rfl, if_neg (nI_n1 (by omega)), nI_add, show c + 2 + i + 1 = c + 2 + (i + 1) by omega, ih d (i + 1) (s + m) (by omega) (by omega) (by omega), hj]
        show some (nI ((s + m + sumO (vs.drop (i + 1))) % 1000)) = some (nI ((s + (m + sumO (vs.drop (i + 1)))) % 1000))
        rw [Nat.add_assoc]
/-- the row of a node that is being read -/
def FrR (S : St) (fr n : Nat) (r : Rul) (acc : List Rd) : Prop := ∀ p, p < 50 → S.1 fr (n * 53 + p) = rowC r (n % 2) acc (-1) (-1) (-1) p
theorem FrR_14 {S : St} {fr n : Nat} {r : Rul} {acc : List Rd} (h : FrR S fr n r acc) : S.1 fr (n * 53 + 14) = nI acc.length := h 14 (by omega)
theorem FrR_ru {S : St} {fr n : Nat} {r : Rul} {acc : List Rd} (h : FrR S fr n r acc) {p : Nat} (hp : p < 13) : S.1 fr (n * 53 + p) = ruC r p := (h p (by omega)).trans (rowC_ru hp)
theorem FrR_rd {S : St} {fr n : Nat} {r : Rul} {acc : List Rd} (h : FrR S fr n r acc) {q : Nat} (hq : q < 35) : S.1 fr (n * 53 + (15 + q)) = rdC acc q := by
  rw [h (15 + q) (by omega), rowC_rd (by omega) (by omega), Nat.add_sub_cancel_left]
theorem RdOK_len {x : Rd} (h : RdOK x) : x.2.2.2.length ≤ 5 := by
  rw [h.2.2.2.1]; split <;> omega
theorem sumO_le {vs : List (Option Nat)} (hv : ∀ o ∈ vs, ∀ m, o = some m → m < 1000) : sumO vs ≤ 1000 * vs.length := by
  induction vs with
  | nil => simp [sumO]
  | cons x t ih =>
    have h1 := ih (fun o ho => hv o (List.mem_cons_of_mem _ ho))
    have h2 := hv x List.mem_cons_self
    simp only [sumO, List.length_cons]
    cases x with
    | none => simp; omega
    | some m => have := h2 m rfl; simp; omega
theorem sor_l {b : Nat} (hb : b < 2) {S : St} {n : Nat} {r : Rul} {acc : List Rd} (hn : n < 32) (hF : FrR S (9 + 2 * b) n r acc) (ha : ∀ x ∈ acc, RdOK x) (hl : acc.length ≤ 5) :
    ∀ (k d j s : Nat), j + d = acc.length → d < k → s ≤ 1000 * j → zl2 (m_X2_sumOfReads_B16 (nI acc.length) b S (nI n)) k (nI s) (nI j) = some (nI (s + sumR (acc.drop j))) := by
  intro k
  induction k with
  | zero => intro d i s _ h; omega
  | succ k ih =>
    intro d j s h1 h2 h3
    have hu : zl2 (m_X2_sumOfReads_B16 (nI acc.length) b S (nI n)) (k + 1) (nI s) (nI j) = m_X2_sumOfReads_B16 (nI acc.length) b S (nI n) (zl2 (m_X2_sumOfReads_B16 (nI acc.length) b S (nI n)) k) (nI s) (nI j) := rfl
    rw [hu]
    generalize hG : zl2 (m_X2_sumOfReads_B16 (nI acc.length) b S (nI n)) k = G at ih ⊢
    unfold m_X2_sumOfReads_B16
    simp only [nI_add, pk_mul, zb_e]
    match d, h1, h2 with
    | 0, h1, h2 =>
      rw [if_pos (by rw [le_nI (by omega) (by omega)]; omega), List.drop_of_length_le (by omega)]
      rfl
    | d + 1, h1, h2 =>
      have hj : j < acc.length := by omega
      have hx := ha _ (List.getElem_mem hj)
      rw [if_neg (by rw [le_nI (by omega) (by omega)]; omega), if_neg (by rw [le_nI (by omega) (by omega)]; omega)]
      have hv : m_X2_valueOfRead b S (nI n) (nI (15 + j * 7)) = some (nI (sumO (acc[j]).2.2.2 % 1000)) := by
        have h := vor_l hb (S := S) (n := n) (c := 15 + j * 7) (vs := (acc[j]).2.2.2) hn (by omega) (fun i hi => by
          have e := FrR_rd hF (q := 7 * j + (2 + i)) (by omega)
          rw [rdC_at (by omega), List.getElem?_eq_getElem hj] at e
          rw [show n * 53 + (15 + j * 7 + 2 + i) = n * 53 + (15 + (7 * j + (2 + i))) by omega, e]
          show (if 2 + i = 0 then _ else if 2 + i = 1 then _ else _) = _
          rw [if_neg (by omega), if_neg (by omega), Nat.add_sub_cancel_left]) hx.2.2.2.2 (RdOK_len hx) FU 5 0 0 rfl (FU_gt (by omega)) (by omega)
        unfold m_X2_valueOfRead
        rw [nI_add, zb_e]
        rw [Nat.zero_add] at h
        exact h
      rw [hv, zo_e, nI_add, ih d (j + 1) (s + sumO (acc[j]).2.2.2 % 1000) (by omega) (by omega) (by omega), sumR_drop acc hj, Nat.add_assoc]
theorem sor_v {b : Nat} (hb : b < 2) {S : St} {n : Nat} {r : Rul} {acc : List Rd} (hn : n < 32) (hF : FrR S (9 + 2 * b) n r acc) (ha : ∀ x ∈ acc, RdOK x) (hl : acc.length ≤ 5) : m_X2_sumOfReads b S (nI n) = some (nI (sumR acc)) := by
  unfold m_X2_sumOfReads
  rw [tg_f hb hn (by omega), zo_e, FrR_14 hF]
  have h := sor_l hb hn hF ha hl FU acc.length 0 0 (by omega) (FU_gt (by omega)) (by omega)
  rw [Nat.zero_add, List.drop_zero] at h
  exact h
theorem sumR_le {acc : List Rd} : sumR acc ≤ 1000 * acc.length := by
  induction acc with
  | nil => simp [sumR]
  | cons x t ih => simp only [sumR, List.length_cons]; omega
def seesP (f : Nat) (q : Nat × Nat) : Bool := decide ((q.1 = 0 ∧ q.2 = f) ∨ (q.1 = 1 ∧ q.2 = f / 5))
theorem sees_l {b : Nat} (hb : b < 2) {S : St} {n f : Nat} {r : Rul} {acc : List Rd} (hn : n < 32) (hF : FrR S (9 + 2 * b) n r acc) (hr : RulOK r) (hf : f < 20) :
    ∀ (k d i : Nat), i + d = (ip r).length → d < k → zl1 (m_X2_seesItsFile_B26 (nI (ip r).length) b S (nI n) (nI f)) k (nI i) = some (nI (if ((ip r).drop i).any (seesP f) = true then 1 else 0)) := by
  have h6 := hr.2.2.2.2.2.1
  intro k
  induction k with
  | zero => intro d i _ h; omega
  | succ k ih =>
    intro d i h1 h2
    have hu : zl1 (m_X2_seesItsFile_B26 (nI (ip r).length) b S (nI n) (nI f)) (k + 1) (nI i) = m_X2_seesItsFile_B26 (nI (ip r).length) b S (nI n) (nI f) (zl1 (m_X2_seesItsFile_B26 (nI (ip r).length) b S (nI n) (nI f)) k) (nI i) := rfl
    rw [hu]
    generalize hG : zl1 (m_X2_seesItsFile_B26 (nI (ip r).length) b S (nI n) (nI f)) k = G at ih ⊢
    unfold m_X2_seesItsFile_B26 m_X2_seesItsFile_J85 m_X2_seesItsFile_J101
    simp only [nI_add, pk_mul, zb_e]
    match d, h1, h2 with
    | 0, h1, h2 =>
      rw [if_pos (by rw [le_nI (by omega) (by omega)]; omega), List.drop_of_length_le (by omega)]
      rfl
    | d + 1, h1, h2 =>
      have hi : i < (ip r).length := by omega
      obtain ⟨q1, q2, q3⟩ := hr.get (List.getElem?_eq_getElem hi)
      have q4 := lim_le (ip r)[i].1
      have e1 : S.1 (9 + 2 * b) (n * 53 + (5 + i * 2 + 0)) = nI (ip r)[i].1 := by
        rw [FrR_ru hF (by omega), show 5 + i * 2 + 0 = 5 + 2 * i by omega, ruC_in.1, List.getElem?_eq_getElem hi]
      have e2 : S.1 (9 + 2 * b) (n * 53 + (5 + i * 2 + 1)) = nI (ip r)[i].2 := by
        rw [FrR_ru hF (by omega), show 5 + i * 2 + 1 = 6 + 2 * i by omega, ruC_in.2, List.getElem?_eq_getElem hi]
      rw [if_neg (by rw [le_nI (by omega) (by omega)]; omega), if_neg (by rw [le_nI (by omega) (by omega)]; omega), tg_f hb hn (by omega), zo_e, tg_f hb hn (by omega), zo_e, e1, e2, div_nI (by omega) (by omega) (by omega), ih d (i + 1) (by omega) (by omega), List.drop_eq_getElem_cons hi, List.any_cons]
      have c1 : (nI (ip r)[i].1 = 0) = ((ip r)[i].1 = 0) := eq0_nI (by omega)
      have c2 : (nI (ip r)[i].1 = nI 1) = ((ip r)[i].1 = 1) := eq_nI (by omega) (by omega)
      have c3 : (nI (ip r)[i].2 = nI f) = ((ip r)[i].2 = f) := eq_nI (by omega) (by omega)
      have c4 : (nI (ip r)[i].2 = nI (f / 5)) = ((ip r)[i].2 = f / 5) := eq_nI (by omega) (by omega)
      simp only [c1, c2, c3, c4]
      generalize (ip r)[i] = q
      generalize ((ip r).drop (i + 1)).any (seesP f) = t
      unfold seesP
      by_cases d1 : q.1 = 0
      · have d2 : ¬ q.1 = 1 := by omega
        by_cases d3 : q.2 = f <;> simp [d1, d3]
      · by_cases d2 : q.1 = 1
        · by_cases d4 : q.2 = f / 5 <;> simp [d2, d4]
        · simp [d1, d2]
theorem sees_v {b : Nat} (hb : b < 2) {S : St} {n : Nat} {r : Rul} {acc : List Rd} (hn : n < 32) (hF : FrR S (9 + 2 * b) n r acc) (hr : RulOK r) : m_X2_seesItsFile b S (nI n) = some (nI (if sees r (nb r % 20) = true then 1 else 0)) := by
  have h2 := hr.2.1
  have h6 := hr.2.2.2.2.2.1
  unfold m_X2_seesItsFile
  rw [tg_f hb hn (by omega), zo_e, FrR_ru hF (by omega), show ruC r 2 = nI (nb r) from rfl, irm_nI (by omega) (by omega) (by omega), zb_e, tg_f hb hn (by omega), zo_e, FrR_ru hF (by omega), show ruC r 4 = nI (ip r).length from rfl]
  exact sees_l hb hn hF hr (Nat.mod_lt _ (by omega)) FU (ip r).length 0 (by omega) (FU_gt (by omega))
theorem res_v {b : Nat} (hb : b < 2) {E : Ev} {S : St} {n : Nat} {r : Rul} {acc : List Rd} (hn : n < 32) (hE : FOK (eφ E)) (h0 : FilT (eφ E) (S.1 0)) (hF : FrR S (9 + 2 * b) n r acc) (hr : RulOK r) (ha : ∀ x ∈ acc, RdOK x) (hl : acc.length ≤ 5) : m_X2_resultOf b S (nI n) = some (nI (ares E r acc)) := by
  obtain ⟨r1, r2, r3, r4, r5, r6, r7⟩ := hr
  have hs := sumR_le (acc := acc)
  have k1 : S.1 (9 + 2 * b) (n * 53 + 1) = nI (kd r) := FrR_ru hF (by omega)
  have k2 : S.1 (9 + 2 * b) (n * 53 + 2) = nI (nb r) := FrR_ru hF (by omega)
  have k3 : S.1 (9 + 2 * b) (n * 53 + 3) = nI (sl r) := FrR_ru hF (by omega)
  unfold m_X2_resultOf ares
  rw [sor_v hb hn hF ha hl, zo_e, tg_f hb hn (by omega), zo_e, k1]
  rw [sees_v hb hn hF ⟨r1, r2, r3, r4, r5, r6, r7⟩]
  simp only [tg_f hb hn (show 3 < 53 by omega), tg_f hb hn (show 2 < 53 by omega), zo_e, zb_e, k2, k3, irm_nI (show nb r < 2147483648 by omega) (show 0 < 20 by omega) (show 20 < 2147483648 by omega), cont_v (S := S) (show nb r % 20 < 20 by omega), h0 _ (show nb r % 20 < 20 by omega)]
  have c1 : (nI (kd r) = nI 1) = (kd r = 1) := eq_nI (by omega) (by omega)
  have c4 : (nI (kd r) = nI 4) = (kd r = 4) := eq_nI (by omega) (by omega)
  simp only [c1, c4]
  by_cases h1 : kd r = 1
  · have h4 : ¬ kd r = 4 := by omega
    simp only [if_pos h1, if_neg h4, if_neg (show ¬ (kd r = 4 ∧ sees r (nb r % 20) = true) from fun q => h4 q.1)]
    rw [div_nI (by omega) (by omega) (by omega), nI_add, irm_nI (by omega) (by omega) (by omega), Nat.add_zero]
  · simp only [if_neg h1]
    by_cases h4 : kd r = 4
    · simp only [if_pos h4]
      by_cases h5 : sees r (nb r % 20) = true
      · simp only [if_pos h5, if_neg (show ¬ nI 1 = 0 by decide), if_pos (show kd r = 4 ∧ sees r (nb r % 20) = true from ⟨h4, h5⟩)]
        cases ho : eφ E (nb r % 20) with
        | none =>
          rw [show eO none = -1 from rfl, if_pos rfl, nI_add, nI_add, irm_nI (by omega) (by omega) (by omega)]
          rfl
        | some m =>
          have hm := hE _ _ ho
          rw [show eO (some m) = nI m from rfl, if_neg (nI_n1 (by omega)), nI_add, nI_add, irm_nI (by omega) (by omega) (by omega)]
          rfl
      · simp only [if_neg h5, if_neg (show ¬ (kd r = 4 ∧ sees r (nb r % 20) = true) from fun q => h5 q.2)]
        rw [if_pos (by decide), nI_add, irm_nI (by omega) (by omega) (by omega), Nat.add_zero]
    · simp only [if_neg h4, if_neg (show ¬ (kd r = 4 ∧ sees r (nb r % 20) = true) from fun q => h4 q.1)]
      rw [nI_add, irm_nI (by omega) (by omega) (by omega), Nat.add_zero]
