/-! reading inputs into the fresh row -/
def LKC (R : Gs → St → Prop) (fr : Nat) (L : Nat → Gs → Ans × Gs) (LK : St → Int32 → Int32 → Option (Int32 × St)) (d : Nat) : Prop :=
  ∀ n g S, n < 32 → WG g → R g S → ∃ S', LK S (nI n) (nI d) = some (enA (L n g).1, S') ∧ R (L n g).2 S' ∧ ∀ m, m < 32 → gDn g m = 5 → ∀ p, p < 53 → S'.1 fr (m * 53 + p) = S.1 fr (m * 53 + p)
/-- what the read phase asks of a relation -/
def RPH (R : Gs → St → Prop) (E : Ev) (b : Nat) : Prop :=
  (∀ g S, R g S → FilT (eφ E) (S.1 0) ∧ RulT (eρ E) (S.1 1)) ∧
  ∀ g S n f, R g S → gDn g n = 5 → (∀ i, i < n * 53 ∨ n * 53 + 53 ≤ i → f i = S.1 (9 + 2 * b) i) → R g (tb S (9 + 2 * b) f)
def celX (x : Rd) (i : Nat) : Int32 := if i = 0 then nI x.2.1 else if i = 1 then nI x.2.2.1 else eO (x.2.2.2[i - 2]?).join
theorem rdC_app {acc : List Rd} {x : Rd} (hl : ∀ i, x.2.2.2.length ≤ i → (x.2.2.2[i]?).join = none) (q : Nat) : rdC (acc ++ [x]) q = if 7 * acc.length ≤ q ∧ q < 7 * acc.length + 7 then celX x (q - 7 * acc.length) else rdC acc q := by
  have e : q = 7 * (q / 7) + q % 7 := by omega
  have h7 : q % 7 < 7 := Nat.mod_lt _ (by omega)
  by_cases h : 7 * acc.length ≤ q ∧ q < 7 * acc.length + 7
  · rw [if_pos h]
    have e2 : q / 7 = acc.length := by omega
    unfold rdC celX
    rw [e2, List.getElem?_append_right (Nat.le_refl _), Nat.sub_self, show q - 7 * acc.length = q % 7 by omega]
    rfl
  · rw [if_neg h]
    unfold rdC
    by_cases h2 : q / 7 < acc.length
    · rw [List.getElem?_append_left h2]
    · rw [List.getElem?_eq_none (l := acc ++ [x]) (by simp; omega), List.getElem?_eq_none (l := acc) (by omega)]
theorem rowC_app {r : Rul} {cf : Nat} {acc : List Rd} {x : Rd} {p : Nat} (hp : p < 50) : rowC r cf (acc ++ [x]) (-1) (-1) (-1) p = if p = 14 then nI (acc.length + 1) else if 15 + 7 * acc.length ≤ p ∧ p < 15 + 7 * acc.length + 7 then celX x (p - (15 + 7 * acc.length)) else rowC r cf acc (-1) (-1) (-1) p := by
  unfold rowC
  by_cases h1 : p < 13
  · rw [if_pos h1, if_pos h1, if_neg (by omega), if_neg (by omega)]
  · rw [if_neg h1, if_neg h1]
    by_cases h2 : p = 13
    · rw [if_pos h2, if_pos h2, if_neg (by omega), if_neg (by omega)]
    · rw [if_neg h2, if_neg h2]
      by_cases h3 : p = 14
      · rw [if_pos h3, if_pos h3]; simp
      · rw [if_neg h3, if_neg h3, if_neg h3, if_pos hp, if_pos hp, rdC_app (fun i hi => by rw [List.getElem?_eq_none hi]; rfl)]
        by_cases h4 : 15 + 7 * acc.length ≤ p ∧ p < 15 + 7 * acc.length + 7
        · rw [if_pos h4, if_pos (by omega), show p - 15 - 7 * acc.length = p - (15 + 7 * acc.length) by omega]
        · rw [if_neg h4, if_neg (by omega)]
/-- the row with a read begun -/
def begF (f : Nat → Int32) (n len w y : Nat) : Nat → Int32 := upd (upd (upd f (n * 53 + 14) (nI (len + 1))) (n * 53 + (15 + len * 7)) (nI w)) (n * 53 + (15 + len * 7 + 1)) (nI y)
theorem begF_o {f : Nat → Int32} {n len w y i : Nat} (hl : len < 5) (h : i < n * 53 ∨ n * 53 + 53 ≤ i) : begF f n len w y i = f i := by
  unfold begF
  rw [pk_un (by omega), pk_un (by omega), pk_un (by omega)]
theorem begF_i {f : Nat → Int32} {n len w y p : Nat} : begF f n len w y (n * 53 + p) = if p = 15 + len * 7 + 1 then nI y else if p = 15 + len * 7 then nI w else if p = 14 then nI (len + 1) else f (n * 53 + p) := by
  unfold begF
  by_cases h1 : p = 15 + len * 7 + 1
  · subst h1; rw [if_pos rfl, pk_us]
  · rw [if_neg h1, pk_un (by omega)]
    by_cases h2 : p = 15 + len * 7
    · subst h2; rw [if_pos rfl, pk_us]
    · rw [if_neg h2, pk_un (by omega)]
      by_cases h3 : p = 14
      · subst h3; rw [if_pos rfl, pk_us]
      · rw [if_neg h3, pk_un (by omega)]
/-- a read with its five places -/
def valF (f : Nat → Int32) (a i : Nat) (h : Nat → Int32) : Nat → Int32 := fun k => if a + i ≤ k ∧ k < a + 5 then h (k - a) else f k
theorem rdB_l {b : Nat} (hb : b < 2) {φ : Nat → Option Nat} {n y c : Nat} (hn : n < 32) (hy : y < 4) (hc : c + 7 ≤ 53) : ∀ (k d i : Nat) (S : St), FilT φ (S.1 0) → i + d = 5 → d < k →
    zl2 (m_X2_read_B108 (nI y) b (nI n) (nI c)) k S (nI i) = some (nI 0, tb S (9 + 2 * b) (valF (S.1 (9 + 2 * b)) (n * 53 + (c + 2)) i (fun j => eO (φ (5 * y + j))))) := by
  intro k
  induction k with
  | zero => intro d i S _ _ h; omega
  | succ k ih =>
    intro d i S h0 h1 h2
    have hu : zl2 (m_X2_read_B108 (nI y) b (nI n) (nI c)) (k + 1) S (nI i) = m_X2_read_B108 (nI y) b (nI n) (nI c) (zl2 (m_X2_read_B108 (nI y) b (nI n) (nI c)) k) S (nI i) := rfl
    rw [hu]
    generalize hG : zl2 (m_X2_read_B108 (nI y) b (nI n) (nI c)) k = G at ih ⊢
    unfold m_X2_read_B108
    simp only [nI_add, zb_e]
    match d, h1, h2 with
    | 0, h1, h2 =>
      rw [if_pos (by rw [le_nI (by omega) (by omega)]; omega)]
      have e : valF (S.1 (9 + 2 * b)) (n * 53 + (c + 2)) i (fun j => eO (φ (5 * y + j))) = S.1 (9 + 2 * b) := by
        funext j
        unfold valF
        rw [if_neg (by omega)]
      rw [e, tb_id]
    | d + 1, h1, h2 =>
      rw [if_neg (by rw [le_nI (by omega) (by omega)]; omega), tg_0 hy (by omega), zo_e, ts_f hb hn (by omega), zo_e]
      have h0' : FilT φ ((tb S (9 + 2 * b) (upd (S.1 (9 + 2 * b)) (n * 53 + (c + 2 + i)) (S.1 0 (y * 5 + i)))).1 0) := by
        rw [tb_1, if_neg (by omega)]; exact h0
      rw [ih d (i + 1) _ h0' (by omega) (by omega), tb_tb, tb_s]
      have e : valF (upd (S.1 (9 + 2 * b)) (n * 53 + (c + 2 + i)) (S.1 0 (y * 5 + i))) (n * 53 + (c + 2)) (i + 1) (fun j => eO (φ (5 * y + j))) = valF (S.1 (9 + 2 * b)) (n * 53 + (c + 2)) i (fun j => eO (φ (5 * y + j))) := by
        funext j
        unfold valF
        by_cases h3 : j = n * 53 + (c + 2 + i)
        · subst h3
          rw [if_neg (by omega), pk_us, if_pos (by omega), h0 _ (by omega)]
          show _ = eO (φ (5 * y + (n * 53 + (c + 2 + i) - (n * 53 + (c + 2)))))
          rw [show 5 * y + (n * 53 + (c + 2 + i) - (n * 53 + (c + 2))) = y * 5 + i by omega]
        · by_cases h4 : n * 53 + (c + 2) + (i + 1) ≤ j ∧ j < n * 53 + (c + 2) + 5
          · rw [if_pos h4, if_pos (by omega)]
          · rw [if_neg h4, if_neg (by omega), pk_un h3]
      rw [e]
/-- what a read leaves of rows of other nodes -/
def FrO (fr n : Nat) (g : Gs) (S S' : St) : Prop := ∀ m, m < 32 → ¬ m = n → gDn g m = 5 → ∀ p, p < 53 → S'.1 fr (m * 53 + p) = S.1 fr (m * 53 + p)
theorem FrO_tr {fr n : Nat} {g g' : Gs} {S S' S2 : St} (h1 : FrO fr n g S S') (h2 : FrO fr n g' S' S2) (ha : AF g g') : FrO fr n g S S2 :=
  fun m hm hn hd p hp => (h2 m hm hn ((ha.1 m).mpr hd) p hp).trans (h1 m hm hn hd p hp)
theorem FrO_rf {fr n : Nat} {g : Gs} {S : St} : FrO fr n g S S := fun _ _ _ _ _ _ => rfl
theorem FrO_tb {fr n : Nat} {g : Gs} {S : St} {f : Nat → Int32} (h : ∀ i, i < n * 53 ∨ n * 53 + 53 ≤ i → f i = S.1 fr i) : FrO fr n g S (tb S fr f) := fun m hm hne _ p hp => by
  rw [tb_s]; exact h _ (by omega)
/-- one read: the row is begun; a value that comes is put behind; a failure goes on -/
theorem read_go {R : Gs → St → Prop} {E : Ev} {b : Nat} (hb : b < 2) (hR : RPH R E b) {LK : St → Int32 → Int32 → Option (Int32 × St)} {g : Gs} {S : St} {n d w y : Nat} {r : Rul} {acc : List Rd} (hn : n < 32) (h5 : gDn g n = 5) (hS : R g S) (hF : FrR S (9 + 2 * b) n r acc) (hl : acc.length < 5) :
    ∃ S5, R g S5 ∧ S5.1 0 = S.1 0 ∧ S5.1 (9 + 2 * b) = begF (S.1 (9 + 2 * b)) n acc.length w y ∧ FrO (9 + 2 * b) n g S S5 ∧
    m_X2_read LK b S (nI n) (nI w) (nI y) (nI d) = (if nI w = nI 1 then zl2 (m_X2_read_B108 (nI y) b (nI n) (nI (15 + acc.length * 7))) FU S5 (nI 0) else
      zo2 (m_X2_valueNow LK b S5 (nI n) (nI w) (nI y) (nI d)) fun x11 S12 =>
      zo (m_X4_set (9 + 2 * b) S12 (nI n) (nI (15 + acc.length * 7 + 2)) x11) fun S13 =>
      if (-1) ≤ x11 then some (nI 0, S13) else some (x11, S13)) := by
  refine ⟨tb S (9 + 2 * b) (begF (S.1 (9 + 2 * b)) n acc.length w y), hR.2 g S n _ hS h5 (fun i hi => begF_o hl hi), ?_, tb_s, FrO_tb (fun i hi => begF_o hl hi), ?_⟩
  · rw [tb_1, if_neg (by omega)]
  · unfold m_X2_read
    rw [tg_f hb hn (by omega), zo_e, FrR_14 hF]
    simp only [pk_mul, nI_add, zb_e]
    rw [ts_f hb hn (by omega), zo_e, ts_f hb hn (by omega), zo_e, ts_f hb hn (by omega), zo_e, tb_tb, tb_s, tb_tb, tb_s]
    rfl
/-- a value is put behind a read that was begun -/
theorem read_put {R : Gs → St → Prop} {E : Ev} {b : Nat} (hR : RPH R E b) {g' : Gs} {S S5 S12 : St} {n w y i : Nat} {v : Int32} {o : Option Nat} {r : Rul} {acc : List Rd} (hn : n < 32) (h5 : gDn g' n = 5) (hF : FrR S (9 + 2 * b) n r acc) (hl : acc.length < 5) (e5 : S5.1 (9 + 2 * b) = begF (S.1 (9 + 2 * b)) n acc.length w y) (hS : R g' S12)
    (hr : ∀ p, p < 53 → S12.1 (9 + 2 * b) (n * 53 + p) = S5.1 (9 + 2 * b) (n * 53 + p)) (hv : v = eO o) :
    R g' (tb S12 (9 + 2 * b) (upd (S12.1 (9 + 2 * b)) (n * 53 + (15 + acc.length * 7 + 2)) v)) ∧ FrR (tb S12 (9 + 2 * b) (upd (S12.1 (9 + 2 * b)) (n * 53 + (15 + acc.length * 7 + 2)) v)) (9 + 2 * b) n r (acc ++ [(i, w, y, [o])]) := by
  refine ⟨hR.2 g' S12 n _ hS h5 (fun j hj => pk_un (by omega)), fun p hp => ?_⟩
  rw [tb_s, rowC_app hp]
  by_cases h1 : p = 15 + acc.length * 7 + 2
  · subst h1
    rw [pk_us, if_neg (by omega), if_pos (by omega), show 15 + acc.length * 7 + 2 - (15 + 7 * acc.length) = 2 by omega, hv]
    rfl
  · rw [pk_un (by omega), hr p (by omega), e5, begF_i]
    by_cases h2 : p = 14
    · rw [if_neg (by omega), if_neg (by omega), if_pos h2, if_pos h2]
    · simp only [if_neg h2]
      by_cases h3 : p = 15 + acc.length * 7 + 1
      · rw [if_pos h3, if_pos (by omega), show p - (15 + 7 * acc.length) = 1 by omega]
        rfl
      · rw [if_neg h3]
        by_cases h4 : p = 15 + acc.length * 7
        · rw [if_pos h4, if_pos (by omega), show p - (15 + 7 * acc.length) = 0 by omega]
          rfl
        · rw [if_neg h4, hF p hp]
          by_cases h6 : 15 + 7 * acc.length ≤ p ∧ p < 15 + 7 * acc.length + 7
          · rw [if_pos h6]
            unfold celX
            rw [if_neg (by omega), if_neg (by omega), rowC, if_neg (by omega), if_neg (by omega), if_neg (by omega), if_pos hp]
            have e : p - 15 = 7 * acc.length + (p - 15 - 7 * acc.length) := by omega
            rw [e, rdC_at (by omega), List.getElem?_eq_none (Nat.le_refl _), List.getElem?_eq_none (by simp; omega)]
            rfl
          · rw [if_neg h6]
theorem enA_r {v : Nat} (h : v < 1000) : (-1 : Int32) ≤ enA (.inr v) ∧ enA (.inr v) = nI v ∧ 0 ≤ nI v := by
  have h1 : (nI v).toInt = (v : Int) := nI_toInt (by omega)
  refine ⟨?_, rfl, nI_pos' (by omega)⟩
  rw [Int32.le_iff_toInt_le]
  show (-1 : Int32).toInt ≤ (nI v).toInt
  rw [h1]
  have h2 : (-1 : Int32).toInt = -1 := by decide
  omega
theorem enA_l {k : Nat} (h : 2 ≤ k ∧ k ≤ 5) : ¬ (-1 : Int32) ≤ enA (.inl k) ∧ ¬ (0 : Int32) ≤ enA (.inl k) ∧ ¬ enA (.inl k) = -1 ∧ ∀ v, v < 1000 → ¬ enA (.inl k) = nI v := by
  have hk : k = 2 ∨ k = 3 ∨ k = 4 ∨ k = 5 := by omega
  have hn : ¬ (0 : Int32) ≤ enA (.inl k) := by rcases hk with rfl | rfl | rfl | rfl <;> decide
  refine ⟨by rcases hk with rfl | rfl | rfl | rfl <;> decide, hn, by rcases hk with rfl | rfl | rfl | rfl <;> decide, fun v hv q => ?_⟩
  rw [q] at hn
  exact hn (nI_pos' (by omega))
def RDO (R : Gs → St → Prop) (E : Ev) (b n : Nat) (r : Rul) (g : Gs) (S : St) (x : Option (Int32 × St)) (p : (Nat ⊕ List Rd) × Gs) : Prop :=
  match p.1 with
  | .inl k => ∃ S', x = some (enA (.inl k), S') ∧ R p.2 S' ∧ FrO (9 + 2 * b) n g S S'
  | .inr acc => ∃ S', x = some (nI 0, S') ∧ R p.2 S' ∧ FrO (9 + 2 * b) n g S S' ∧ FrR S' (9 + 2 * b) n r acc
theorem read_fol {R : Gs → St → Prop} {E : Ev} {b : Nat} (hb : b < 2) (hR : RPH R E b) {LK : St → Int32 → Int32 → Option (Int32 × St)} {g : Gs} {S : St} {n d y i : Nat} {r : Rul} {acc : List Rd} (hn : n < 32) (hy : y < 4) (h5 : gDn g n = 5) (hS : R g S) (hF : FrR S (9 + 2 * b) n r acc) (hl : acc.length < 5) :
    RDO R E b n r g S (m_X2_read LK b S (nI n) (nI 1) (nI y) (nI d)) (.inr (acc ++ [(i, 1, y, fvals (eφ E) y)]), g) := by
  obtain ⟨S5, a1, a2, a3, a4, a5⟩ := read_go hb hR (LK := LK) (d := d) (w := 1) (y := y) hn h5 hS hF hl
  have h0 : FilT (eφ E) (S5.1 0) := (hR.1 g S5 a1).1
  rw [a5, if_pos rfl]
  refine ⟨_, rdB_l hb hn hy (by omega) FU 5 0 S5 h0 (by omega) (FU_gt (by omega)), ?_, ?_, ?_⟩
  · refine hR.2 g S5 n _ a1 h5 (fun j hj => ?_)
    unfold valF
    rw [if_neg (by omega)]
  · refine FrO_tr a4 (FrO_tb (fun j hj => ?_)) (AF_rf g)
    unfold valF
    rw [if_neg (by omega)]
  · intro p hp
    rw [tb_s, rowC_app hp]
    unfold valF
    by_cases h1 : n * 53 + (15 + acc.length * 7 + 2) + 0 ≤ n * 53 + p ∧ n * 53 + p < n * 53 + (15 + acc.length * 7 + 2) + 5
    · rw [if_pos h1, if_neg (by omega), if_pos (by omega)]
      unfold celX
      rw [if_neg (by omega), if_neg (by omega), show n * 53 + p - (n * 53 + (15 + acc.length * 7 + 2)) = p - (15 + 7 * acc.length) - 2 by omega]
      show eO (eφ E (5 * y + (p - (15 + 7 * acc.length) - 2))) = eO ((fvals (eφ E) y)[p - (15 + 7 * acc.length) - 2]?).join
      rw [fvals_get (by omega)]
      rfl
    · rw [if_neg h1, a3, begF_i]
      by_cases h2 : p = 14
      · rw [if_neg (by omega), if_neg (by omega), if_pos h2, if_pos h2]
      · simp only [if_neg h2]
        by_cases h3 : p = 15 + acc.length * 7 + 1
        · rw [if_pos h3, if_pos (by omega), show p - (15 + 7 * acc.length) = 1 by omega]
          rfl
        · rw [if_neg h3]
          by_cases h4 : p = 15 + acc.length * 7
          · rw [if_pos h4, if_pos (by omega), show p - (15 + 7 * acc.length) = 0 by omega]
            rfl
          · rw [if_neg h4, hF p hp, if_neg (by omega)]
theorem read_val {R : Gs → St → Prop} {E : Ev} {b : Nat} (hb : b < 2) (hR : RPH R E b) {LK : St → Int32 → Int32 → Option (Int32 × St)} {g g' : Gs} {S S5 S12 : St} {n d w y i : Nat} {v : Int32} {o : Option Nat} {r : Rul} {acc : List Rd} (hn : n < 32) (hw : ¬ w = 1) (hw4 : w ≤ 4) (ha : AF g g') (h5 : gDn g n = 5) (hF : FrR S (9 + 2 * b) n r acc) (hl : acc.length < 5)
    (e5 : S5.1 (9 + 2 * b) = begF (S.1 (9 + 2 * b)) n acc.length w y) (f5 : FrO (9 + 2 * b) n g S S5) (hS : R g' S12)
    (hr : ∀ m, m < 32 → gDn g m = 5 → ∀ p, p < 53 → S12.1 (9 + 2 * b) (m * 53 + p) = S5.1 (9 + 2 * b) (m * 53 + p)) (hv : v = eO o) (hv2 : (-1 : Int32) ≤ v)
    (hx : m_X2_read LK b S (nI n) (nI w) (nI y) (nI d) = (zo (m_X4_set (9 + 2 * b) S12 (nI n) (nI (15 + acc.length * 7 + 2)) v) fun S13 => if (-1) ≤ v then some (nI 0, S13) else some (v, S13))) :
    RDO R E b n r g S (m_X2_read LK b S (nI n) (nI w) (nI y) (nI d)) (.inr (acc ++ [(i, w, y, [o])]), g') := by
  obtain ⟨p1, p2⟩ := read_put hR (i := i) hn ((ha.1 n).mpr h5) hF hl e5 hS (hr n hn h5) hv
  rw [hx, ts_f hb hn (by omega), zo_e, if_pos hv2]
  refine ⟨_, rfl, p1, ?_, p2⟩
  refine FrO_tr f5 (FrO_tr (g' := g') (fun m hm _ hd => hr m hm hd) (FrO_tb (fun j hj => pk_un (by omega))) ha) (AF_rf g)
theorem read_bad {R : Gs → St → Prop} {E : Ev} {b : Nat} (hb : b < 2) (hR : RPH R E b) {LK : St → Int32 → Int32 → Option (Int32 × St)} {g g' : Gs} {S S5 S12 : St} {n d w y k : Nat} {r : Rul} {acc : List Rd} (hn : n < 32) (ha : AF g g') (h5 : gDn g n = 5) (hl : acc.length < 5)
    (f5 : FrO (9 + 2 * b) n g S S5) (hS : R g' S12)
    (hr : ∀ m, m < 32 → gDn g m = 5 → ∀ p, p < 53 → S12.1 (9 + 2 * b) (m * 53 + p) = S5.1 (9 + 2 * b) (m * 53 + p)) (hk : 2 ≤ k ∧ k ≤ 5)
    (hx : m_X2_read LK b S (nI n) (nI w) (nI y) (nI d) = (zo (m_X4_set (9 + 2 * b) S12 (nI n) (nI (15 + acc.length * 7 + 2)) (enA (.inl k))) fun S13 => if (-1) ≤ enA (.inl k) then some (nI 0, S13) else some (enA (.inl k), S13))) :
    RDO R E b n r g S (m_X2_read LK b S (nI n) (nI w) (nI y) (nI d)) (.inl k, g') := by
  rw [hx, ts_f hb hn (by omega), zo_e, if_neg (enA_l hk).1]
  refine ⟨_, rfl, hR.2 g' S12 n _ hS ((ha.1 n).mpr h5) (fun j hj => pk_un (by omega)), ?_⟩
  refine FrO_tr f5 (FrO_tr (g' := g') (fun m hm _ hd => hr m hm hd) (FrO_tb (fun j hj => pk_un (by omega))) ha) (AF_rf g)
theorem eO_le {o : Option Nat} (h : ∀ n, o = some n → n < 1000) : (-1 : Int32) ≤ eO o := by
  cases o with
  | none => exact Int32.le_refl _
  | some v => exact (enA_r (h v rfl)).1
theorem valNow_n {LK : St → Int32 → Int32 → Option (Int32 × St)} {b : Nat} {S : St} {n w y d : Nat} (hn : n < 32) (hw : w = 2 ∨ w = 3) (hy : y < 16) : m_X2_valueNow LK b S (nI n) (nI w) (nI y) (nI d) = zo2 (LK S (nI (nR n w y)) (nI (d + 1))) fun x3 S4 => some (x3, S4) := by
  unfold m_X2_valueNow
  have h0 : ¬ nI w = 0 := by rcases hw with rfl | rfl <;> decide
  have h4 : ¬ nI w = nI 4 := by rcases hw with rfl | rfl <;> decide
  rw [if_neg h0, if_neg h4, nodeRead_v hn (by omega) hy, zo_e, nI_add]
theorem valNow_4 {LK : St → Int32 → Int32 → Option (Int32 × St)} {b : Nat} {S : St} {n y d : Nat} (hy : y < 20) : m_X2_valueNow LK b S (nI n) (nI 4) (nI y) (nI d) = some (S.1 0 y, S) := by
  unfold m_X2_valueNow
  rw [if_neg (by decide), if_pos rfl, cont_v hy, zo_e]
  by_cases h : S.1 0 y = -1
  · rw [if_pos h, if_neg (by decide)]
  · rw [if_neg h]
theorem valNow_0 {LK : St → Int32 → Int32 → Option (Int32 × St)} {b : Nat} {S : St} {n y d : Nat} (hy : y < 20) : m_X2_valueNow LK b S (nI n) (nI 0) (nI y) (nI d) = some (if S.1 0 y = -1 then -3 else S.1 0 y, S) := by
  unfold m_X2_valueNow
  rw [if_pos (by decide), cont_v hy, zo_e]
  by_cases h : S.1 0 y = -1
  · rw [if_pos h, if_pos h, if_pos (by decide)]
  · rw [if_neg h, if_neg h]
theorem read_one {R : Gs → St → Prop} {E : Ev} {b : Nat} (hb : b < 2) (hE : EvOK E) (hR : RPH R E b) {L : Nat → Gs → Ans × Gs} (hL : LOK L) {LK : St → Int32 → Int32 → Option (Int32 × St)} {d : Nat} (hLK : LKC R (9 + 2 * b) L LK (d + 1)) {g : Gs} {S : St} {n : Nat} {q : Nat × Nat × Nat} {r : Rul} {acc : List Rd} (hn : n < 32) (hq : q.2.1 < 4 ∧ q.2.2 < lim q.2.1) (hg : WG g) (h5 : gDn g n = 5) (hS : R g S) (hF : FrR S (9 + 2 * b) n r acc) (hl : acc.length < 5) :
    RDO R E b n r g S (m_X2_read LK b S (nI n) (nI q.2.1) (nI q.2.2) (nI d)) (ardl E L n [q] acc g) := by
  obtain ⟨i, w, y⟩ := q
  obtain ⟨hw, hy⟩ := hq
  have hw : w < 4 := hw
  have hy : y < lim w := hy
  rw [ardl]
  show RDO R E b n r g S (m_X2_read LK b S (nI n) (nI w) (nI y) (nI d)) (if w = 1 then ardl E L n [] (acc ++ [(i, w, y, fvals (eφ E) y)]) g
    else if w = 0 then (match eφ E y with
      | none => (.inl 3, g)
      | some v => ardl E L n [] (acc ++ [(i, w, y, [some v])]) g)
    else match (L (nR n w y) g).1 with
      | .inl k => (.inl k, (L (nR n w y) g).2)
      | .inr v => ardl E L n [] (acc ++ [(i, w, y, [some v])]) (L (nR n w y) g).2)
  by_cases h1 : w = 1
  · subst h1
    rw [if_pos rfl]
    exact read_fol hb hR hn hy h5 hS hF hl
  · rw [if_neg h1]
    obtain ⟨S5, a1, a2, a3, a4, a5⟩ := read_go hb hR (LK := LK) (d := d) (w := w) (y := y) hn h5 hS hF hl
    rw [if_neg (nI_ne (by omega) (by omega) h1)] at a5
    have h0 : FilT (eφ E) (S5.1 0) := (hR.1 g S5 a1).1
    by_cases h2 : w = 0
    · subst h2
      have hy : y < 20 := hy
      rw [if_pos rfl]
      rw [valNow_0 hy, zo2_e, h0 y hy] at a5
      cases ho : eφ E y with
      | none =>
        rw [ho, show eO none = -1 from rfl, if_pos rfl] at a5
        exact read_bad hb hR (k := 3) hn (AF_rf g) h5 hl a4 a1 (fun _ _ _ _ _ => rfl) (by omega) a5
      | some v =>
        have hv := hE.1 _ _ ho
        rw [ho, show eO (some v) = nI v from rfl, if_neg (nI_n1 (by omega))] at a5
        exact read_val hb hR hn (by omega) (by omega) (AF_rf g) h5 hF hl a3 a4 a1 (fun _ _ _ _ _ => rfl) (o := some v) rfl (enA_r hv).1 a5
    · rw [if_neg h2]
      have hw2 : w = 2 ∨ w = 3 := by omega
      have hy : y < 16 := by rwa [lim_16 h2 h1] at hy
      obtain ⟨b1, b2, b3⟩ := hL (nR n w y) g (nR_lt hy) hg
      obtain ⟨S4, c1, c2, c3⟩ := hLK (nR n w y) g S5 (nR_lt hy) hg a1
      rw [valNow_n hn hw2 hy, c1, zo2_e] at a5
      rw [zo2_e] at a5
      cases hv : (L (nR n w y) g).1 with
      | inl k =>
        rw [hv] at a5 b3
        exact read_bad hb hR hn b2 h5 hl a4 c2 c3 b3 a5
      | inr v =>
        rw [hv] at a5 b3
        have b3 : v < 1000 := b3
        exact read_val hb hR hn h1 (by omega) b2 h5 hF hl a3 a4 c2 c3 (o := some v) rfl (enA_r b3).1 a5
