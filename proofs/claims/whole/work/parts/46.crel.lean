/-! the class's state and the abstract one -/
theorem rs_v {S : St} {k : Nat} : rs S k = S.1 k 0 := rfl
def bI : Bool → Int32
  | true => nI 1
  | false => nI 0
theorem bI_1 {x : Bool} : (bI x = nI 1) = (x = true) := by cases x <;> simp [bI] <;> decide
theorem bI_0 {x : Bool} : (bI x = 0) = (x = false) := by cases x <;> simp [bI] <;> decide
def kpC : Option Kp → Nat → Nat → Int32
  | none, _, _ => -1
  | some q, cf, p => rowC q.1 cf q.2.1 (nI q.2.2.1) (nI q.2.2.2) (-1) p
def KepT (K : Nat → Option Kp) (f : Nat → Int32) : Prop := ∀ n, n < 32 → ∀ p, p < 52 → f (n * 53 + p) = kpC (K n) (n % 2) p
/-- slot, came, entry -/
abbrev Sl : Type := Nat × Nat × En
def rowE (m : Sl) (p : Nat) : Int32 := rowC m.2.2.1 m.2.2.2.1 m.2.2.2.2.1 (nI m.2.2.2.2.2.1) (nI m.2.2.2.2.2.2) (nI m.2.1) p
def CacM (M : List Sl) (c : Nat) (f : Nat → Int32) : Prop :=
  (∀ m ∈ M, m.1 < 100 ∧ m.2.1 < c) ∧ M.Pairwise (fun a b => ¬ a.1 = b.1 ∧ a.2.1 < b.2.1) ∧ (∀ m ∈ M, ∀ p, p < 53 → f (m.1 * 53 + p) = rowE m p) ∧
  ∀ i, i < 100 → (∀ m ∈ M, ¬ m.1 = i) → ∀ p, p < 53 → f (i * 53 + p) = -1
def CacT (L : List En) (c : Nat) (f : Nat → Int32) : Prop := ∃ M : List Sl, M.map (fun m => m.2.2) = L ∧ CacM M c f
def MacT (po aw : Nat → Bool) (f : Nat → Int32) : Prop := ∀ m, m < 3 → f (m * 2 + 0) = bI (po m) ∧ f (m * 2 + 1) = bI (aw m)
def FaiT (tf : Nat → Nat) (f : Nat → Int32) : Prop := ∀ t, t < 16 → f t = nI (tf t)
def SeeT (g : Gs) (f : Nat → Int32) : Prop := ∀ n, n < 32 → gDn g n ≤ 5 ∧ f (n * 3 + 0) = nI (gDn g n) ∧ (¬ gDn g n = 0 → ¬ gDn g n = 5 → f (n * 3 + 1) = enA (gAn g n)) ∧ f (n * 3 + 2) = nI (gWy g n)
def RC (E : Ev) (b T : Nat) (g : Gs) (S : St) : Prop :=
  FilT (eφ E) (S.1 0) ∧ RulT (eρ E) (S.1 1) ∧ KepT (gK g) (S.1 2) ∧ (∃ c, CacT (gL g) c (S.1 3) ∧ S.1 13 0 = nI c ∧ c + uG g ≤ T) ∧
  MacT (ePo E) (gAw g) (S.1 4) ∧ FaiT (gTf g) (S.1 5) ∧ S.1 12 0 = nI (gVn g) ∧ S.1 14 0 = bI (eCk E) ∧ S.1 15 0 = nI (gTu g) ∧
  S.1 (16 + 2 * b) 0 = nI (gRn g) ∧ S.1 (17 + 2 * b) 0 = gLk g ∧ SeeT g (S.1 (8 + 2 * b))
theorem tb_n {S : St} {k k2 : Nat} {f : Nat → Int32} (h : ¬ k2 = k) : (tb S k f).1 k2 = S.1 k2 := by rw [tb_1, if_neg h]
/-- the fresh rows aren't spoken of -/
theorem RC_fr {E : Ev} {b T : Nat} (hb : b < 2) {g : Gs} {S : St} {f : Nat → Int32} (h : RC E b T g S) : RC E b T g (tb S (9 + 2 * b) f) := by
  unfold RC at h ⊢
  rw [tb_n (by omega), tb_n (by omega), tb_n (by omega), tb_n (by omega), tb_n (by omega), tb_n (by omega), tb_n (by omega), tb_n (by omega), tb_n (by omega), tb_n (by omega), tb_n (by omega), tb_n (by omega), tb_n (by omega)]
  exact h
theorem RC_RPH {E : Ev} {b T : Nat} (hb : b < 2) : RPH (RC E b T) E b := ⟨fun _ _ h => ⟨h.1, h.2.1⟩, fun _ _ _ _ h _ _ => RC_fr hb h⟩
/-! the cache -/
theorem pw_uniq {α β : Type} {f : α → β} : ∀ {l : List α}, l.Pairwise (fun a b => ¬ f a = f b) → ∀ {a b : α}, a ∈ l → b ∈ l → f a = f b → a = b
  | [], _, a, b, ha, _, _ => by simp at ha
  | x :: t, h, a, b, ha, hb, e => by
    rw [List.pairwise_cons] at h
    rcases List.mem_cons.mp ha with ha2 | ha2
    · rcases List.mem_cons.mp hb with hb2 | hb2
      · rw [ha2, hb2]
      · rw [ha2] at e; exact absurd e (h.1 b hb2)
    · rcases List.mem_cons.mp hb with hb2 | hb2
      · rw [hb2] at e; exact absurd e.symm (h.1 a ha2)
      · exact pw_uniq h.2 ha2 hb2 e
theorem CacM_slot {M : List Sl} {c : Nat} {f : Nat → Int32} (h : CacM M c f) {a b : Sl} (ha : a ∈ M) (hb : b ∈ M) (e : a.1 = b.1) : a = b :=
  pw_uniq (h.2.1.imp (fun q => q.1)) ha hb e
theorem find_l {fr : Nat} {S : St} {x : Int32} {j0 : Nat} (hs : ∀ i, i < j0 → i < 100 → m_X4_isSame 3 fr S (nI i) x (nI 1) (nI 50) = some (nI 0)) (ht : j0 < 100 → m_X4_isSame 3 fr S (nI j0) x (nI 1) (nI 50) = some (nI 1)) :
    ∀ k d i, i + d = 100 → d < k → i ≤ j0 → zl1 (m_X0_find_B2 fr S x) k (nI i) = some (if j0 < 100 then nI j0 else -1) := by
  intro k
  induction k with
  | zero => intro d i _ h; omega
  | succ k ih =>
    intro d i h1 h2 h3
    have hu : zl1 (m_X0_find_B2 fr S x) (k + 1) (nI i) = m_X0_find_B2 fr S x (zl1 (m_X0_find_B2 fr S x) k) (nI i) := rfl
    rw [hu]
    generalize hG : zl1 (m_X0_find_B2 fr S x) k = G at ih ⊢
    unfold m_X0_find_B2
    simp only [nI_add, zb_e]
    match d, h1, h2 with
    | 0, h1, h2 => rw [if_pos (by rw [le_nI (by omega) (by omega)]; omega), if_neg (by omega)]
    | d + 1, h1, h2 =>
      rw [if_neg (by rw [le_nI (by omega) (by omega)]; omega)]
      by_cases h4 : i = j0
      · subst h4
        rw [ht (by omega), zo_e, if_neg (by decide), if_pos (by omega)]
      · rw [hs i (by omega) (by omega), zo_e, if_pos (by decide)]
        exact ih d (i + 1) (by omega) (by omega) (by omega)
theorem same_at {b : Nat} (hb : b < 2) {M : List Sl} {c n : Nat} {S : St} {r : Rul} {rs : List Rd} (hn : n < 32) (hM : CacM M c (S.1 3)) (hF : FrR S (9 + 2 * b) n r rs) (hr : RulOK r) (hx : ∀ x ∈ rs, RdOK x) (hl : rs.length ≤ 5) (hE : ∀ m ∈ M, EOK m.2.2) {i : Nat} (hi : i < 100) :
    ((∃ m ∈ M, m.1 = i ∧ keyE m.2.2 = keyOf r (n % 2) rs) → m_X4_isSame 3 (9 + 2 * b) S (nI i) (nI n) (nI 1) (nI 50) = some (nI 1)) ∧
    ((¬ ∃ m ∈ M, m.1 = i ∧ keyE m.2.2 = keyOf r (n % 2) rs) → m_X4_isSame 3 (9 + 2 * b) S (nI i) (nI n) (nI 1) (nI 50) = some (nI 0)) := by
  have hk9 : (9 + 2 * b) < 12 := by omega
  have e53 : wdN (9 + 2 * b) = 53 := by rcases lt2 hb with rfl | rfl <;> rfl
  have em : mnN (9 + 2 * b) = 32 := by rcases lt2 hb with rfl | rfl <;> rfl
  constructor
  · rintro ⟨m, h1, rfl, h2⟩
    refine isSame_t (by omega) hk9 hi (by rw [em]; exact hn) (by show 50 ≤ 53; omega) (by rw [e53]; omega) (by omega) (fun p p1 p2 => ?_)
    show S.1 3 (m.1 * 53 + p) = _
    rw [e53, hM.2.2.1 m h1 p (by omega), hF p p2]
    exact rowC_eq h2 p1 p2
  · intro h
    refine isSame_f (by omega) hk9 hi (by rw [em]; exact hn) (by show 50 ≤ 53; omega) (by rw [e53]; omega) (by omega) (fun q => h ?_)
    have q : ∀ p, 1 ≤ p → p < 50 → S.1 3 (i * 53 + p) = rowC r (n % 2) rs (-1) (-1) (-1) p := fun p p1 p2 => by
      rw [← hF p p2]
      have := q p p1 p2
      rwa [e53] at this
    by_cases h3 : ∃ m ∈ M, m.1 = i
    · obtain ⟨m, h4, rfl⟩ := h3
      obtain ⟨e1, e2, e3, e4, e5, e6⟩ := hE m h4
      refine ⟨m, h4, rfl, rowC_inj (v := nI m.2.2.2.2.2.1) (f := nI m.2.2.2.2.2.2) (c := nI m.2.1) (v2 := -1) (f2 := -1) (c3 := -1) e1 hr e2 (Nat.mod_lt _ (by omega)) e3 hx (WFr_le e1 e4) hl (fun p p1 p2 => ?_)⟩
      exact (hM.2.2.1 m h4 p (by omega)).symm.trans (q p p1 p2)
    · exfalso
      have e1 := hM.2.2.2 i hi (fun m h4 h5 => h3 ⟨m, h4, h5⟩) 1 (by omega)
      rw [q 1 (by omega) (by omega), rowC_ru (by omega)] at e1
      exact nI_n1 (by have := hr.1; omega) e1
theorem find_v {b : Nat} (hb : b < 2) {L : List En} {M : List Sl} {c n : Nat} {S : St} {r : Rul} {rs : List Rd} (hn : n < 32) (hL : M.map (fun m => m.2.2) = L) (hM : CacM M c (S.1 3)) (hF : FrR S (9 + 2 * b) n r rs) (hr : RulOK r) (hx : ∀ x ∈ rs, RdOK x) (hl : rs.length ≤ 5) (hE : ∀ e ∈ L, EOK e) (hP : L.Pairwise (fun a b => ¬ keyE a = keyE b)) :
    match L.find? (sameK r (n % 2) rs) with
    | none => m_X0_find (9 + 2 * b) S (nI n) = some (-1)
    | some e => ∃ m ∈ M, m.2.2 = e ∧ keyE e = keyOf r (n % 2) rs ∧ m_X0_find (9 + 2 * b) S (nI n) = some (nI m.1) := by
  have hE' : ∀ m ∈ M, EOK m.2.2 := fun m h => hE _ (by rw [← hL]; exact List.mem_map_of_mem (f := fun m => m.2.2) h)
  have sa := fun i hi => same_at hb hn hM hF hr hx hl hE' (i := i) hi
  cases hf : L.find? (sameK r (n % 2) rs) with
  | none =>
    have h := find_l (fr := 9 + 2 * b) (S := S) (x := nI n) (j0 := 100) (fun i _ hi => (sa i hi).2 (by
      rintro ⟨m, h1, -, h2⟩
      have h3 : m.2.2 ∈ L := by rw [← hL]; exact List.mem_map_of_mem (f := fun m => m.2.2) h1
      exact (List.find?_eq_none.mp hf) m.2.2 h3 (dcP_t.mpr h2))) (fun h => absurd h (by omega)) FU 100 0 (by omega) (FU_gt (by omega)) (by omega)
    rw [if_neg (by omega)] at h
    exact h
  | some e =>
    have he := List.mem_of_find?_eq_some hf
    have hk0 : sameK r (n % 2) rs e = true := List.find?_some hf
    have hk : keyE e = keyOf r (n % 2) rs := dcP_t.mp hk0
    have he2 := he
    rw [← hL, List.mem_map] at he2
    obtain ⟨m, h1, h2⟩ := he2
    refine ⟨m, h1, h2, hk, ?_⟩
    have h100 := (hM.1 m h1).1
    have h := find_l (fr := 9 + 2 * b) (S := S) (x := nI n) (j0 := m.1) (fun i hi hi2 => (sa i hi2).2 (by
      rintro ⟨m2, h3, h4, h5⟩
      have hPm : M.Pairwise (fun a b => ¬ keyE a.2.2 = keyE b.2.2) := by
        rw [← hL, List.pairwise_map] at hP
        exact hP
      have h7 : m2 = m := pw_uniq (f := fun m : Sl => keyE m.2.2) hPm h3 h1 (by
        show keyE m2.2.2 = keyE m.2.2
        rw [h5, h2, hk])
      subst h7
      omega)) (fun _ => (sa m.1 h100).1 ⟨m, h1, rfl, by rw [h2]; exact hk⟩) FU 100 0 (by omega) (FU_gt (by omega)) (by omega)
    rw [if_pos h100] at h
    exact h
theorem CacM_sub {M M' : List Sl} {c : Nat} {f f' : Nat → Int32} (h : CacM M c f) (hs : M'.Sublist M) (h1 : ∀ m ∈ M', ∀ p, p < 53 → f' (m.1 * 53 + p) = f (m.1 * 53 + p)) (h2 : ∀ i, i < 100 → (∀ m ∈ M', ¬ m.1 = i) → ∀ p, p < 53 → f' (i * 53 + p) = -1) : CacM M' c f' := by
  obtain ⟨a1, a2, a3, a4⟩ := h
  exact ⟨fun m hm => a1 m (hs.subset hm), a2.sublist hs, fun m hm p hp => (h1 m hm p hp).trans (a3 m (hs.subset hm) p hp), h2⟩
theorem CacM_clr {M : List Sl} {c : Nat} {f : Nat → Int32} (h : CacM M c f) {m0 : Sl} (h0 : m0 ∈ M) : CacM (M.filter (fun m => decide (¬ m.1 = m0.1))) c (clrF f (m0.1 * 53) 53 (-1)) := by
  refine CacM_sub h List.filter_sublist (fun m hm p hp => ?_) (fun i hi hm p hp => ?_)
  · have h1 := of_decide_eq_true (List.mem_filter.mp hm).2
    unfold clrF
    rw [if_neg (by omega)]
  · unfold clrF
    by_cases h1 : i = m0.1
    · rw [if_pos (by omega)]
    · rw [if_neg (by omega)]
      exact h.2.2.2 i hi (fun m h2 h3 => hm m (List.mem_filter.mpr ⟨h2, decide_eq_true (by omega)⟩) h3) p hp
def losF (f : Nat → Int32) (i : Nat) (x : Int32) : Nat → Int32 := fun j => if j / 53 < i ∧ f (j / 53 * 53 + 51) = x then -1 else f j
theorem lose_l {x : Int32} {f : Nat → Int32} : ∀ (k d i : Nat) (S : St), i + d = 100 → d < k → zl2 (m_X0_loseAllFrom_B2 x) k (tb S 3 (losF f i x)) (nI i) = some (tb S 3 (losF f 100 x)) := by
  intro k
  induction k with
  | zero => intro d i S _ h; omega
  | succ k ih =>
    intro d i S h1 h2
    have hu : zl2 (m_X0_loseAllFrom_B2 x) (k + 1) (tb S 3 (losF f i x)) (nI i) = m_X0_loseAllFrom_B2 x (zl2 (m_X0_loseAllFrom_B2 x) k) (tb S 3 (losF f i x)) (nI i) := rfl
    rw [hu]
    generalize hG : zl2 (m_X0_loseAllFrom_B2 x) k = G at ih ⊢
    unfold m_X0_loseAllFrom_B2
    simp only [nI_add, zb_e]
    match d, h1, h2 with
    | 0, h1, h2 => rw [if_pos (by rw [le_nI (by omega) (by omega)]; omega), show i = 100 by omega]
    | d + 1, h1, h2 =>
      rw [if_neg (by rw [le_nI (by omega) (by omega)]; omega), tg_3 (by omega) (by omega), zo_e, tb_s]
      have e1 : losF f i x (i * 53 + 51) = f (i * 53 + 51) := by
        unfold losF
        rw [if_neg (by omega)]
      rw [e1]
      by_cases h3 : f (i * 53 + 51) = x
      · have hc := clear_v (k := 3) (by omega) (S := tb S 3 (losF f i x)) (r := i) (by show i < 100; omega)
        have e2 : clrF (losF f i x) (i * 53) 53 (-1) = losF f (i + 1) x := by
          funext j
          unfold clrF losF
          by_cases h4 : i * 53 ≤ j ∧ j < i * 53 + 53
          · rw [if_pos h4, if_pos ⟨by omega, by rw [show j / 53 = i by omega]; exact h3⟩]
          · rw [if_neg h4]
            by_cases h5 : j / 53 < i ∧ f (j / 53 * 53 + 51) = x
            · rw [if_pos h5, if_pos ⟨by omega, h5.2⟩]
            · rw [if_neg h5, if_neg (fun q => h5 ⟨by omega, q.2⟩)]
        rw [tb_tb, tb_s] at hc
        have hc : m_X4_clear 3 (tb S 3 (losF f i x)) (nI i) = some (tb S 3 (clrF (losF f i x) (i * 53) 53 (-1))) := hc
        rw [if_pos h3, hc, zo_e, e2]
        exact ih d (i + 1) S (by omega) (by omega)
      · have e2 : losF f i x = losF f (i + 1) x := by
          funext j
          unfold losF
          by_cases h5 : j / 53 < i ∧ f (j / 53 * 53 + 51) = x
          · rw [if_pos h5, if_pos ⟨by omega, h5.2⟩]
          · rw [if_neg h5, if_neg (fun q => by
              by_cases h6 : j / 53 = i
              · rw [h6] at q; exact h3 q.2
              · exact h5 ⟨by omega, q.2⟩)]
        rw [if_neg h3, e2]
        exact ih d (i + 1) S (by omega) (by omega)
theorem lose_v {S : St} {x : Int32} : m_X0_loseAllFrom S x = some (tb S 3 (losF (S.1 3) 100 x)) := by
  have h := lose_l (x := x) (f := S.1 3) FU 100 0 S (by omega) (FU_gt (by omega))
  have e : losF (S.1 3) 0 x = S.1 3 := by
    funext j
    unfold losF
    rw [if_neg (by omega)]
  rw [e, tb_id] at h
  exact h
theorem CacM_los {M : List Sl} {c m : Nat} {f : Nat → Int32} (h : CacM M c f) (hE : ∀ m ∈ M, EOK m.2.2) (hm : m < 3) : CacM (M.filter (fun x => decide (¬ x.2.2.2.2.2.2 = m))) c (losF f 100 (nI m)) := by
  have fr : ∀ x ∈ M, f (x.1 * 53 + 51) = nI x.2.2.2.2.2.2 := fun x hx => h.2.2.1 x hx 51 (by omega)
  refine CacM_sub h List.filter_sublist (fun x hx p hp => ?_) (fun i hi hx p hp => ?_)
  · obtain ⟨h1, h2⟩ := List.mem_filter.mp hx
    have h3 := of_decide_eq_true h2
    have h4 := (hE x h1).2.2.2.2.2
    unfold losF
    rw [if_neg (fun q => by
      have q2 := q.2
      rw [show (x.1 * 53 + p) / 53 = x.1 by omega, fr x h1] at q2
      exact h3 (nI_inj (by omega) (by omega) q2))]
  · unfold losF
    rw [show (i * 53 + p) / 53 = i by omega]
    by_cases h1 : ∃ x ∈ M, x.1 = i
    · obtain ⟨x, h2, rfl⟩ := h1
      by_cases h3 : x.2.2.2.2.2.2 = m
      · rw [if_pos ⟨hi, by rw [fr x h2, h3]⟩]
      · exact absurd rfl (hx x (List.mem_filter.mpr ⟨h2, decide_eq_true h3⟩))
    · have h2 := h.2.2.2 i hi (fun x h3 h4 => h1 ⟨x, h3, h4⟩)
      split
      · rfl
      · exact h2 p hp
