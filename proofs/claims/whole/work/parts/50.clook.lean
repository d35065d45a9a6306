def OUT (fr n : Nat) (S S' : St) : Prop := ∀ i, i < n * 53 ∨ n * 53 + 53 ≤ i → S'.1 fr i = S.1 fr i
theorem OUT_eq {fr n : Nat} {S S' : St} (h : S'.1 fr = S.1 fr) : OUT fr n S S' := fun i _ => by rw [h]
theorem OUT_tr {fr n : Nat} {S S1 S2 : St} (h1 : OUT fr n S S1) (h2 : OUT fr n S1 S2) : OUT fr n S S2 := fun i hi => (h2 i hi).trans (h1 i hi)
theorem OUT_O {fr n : Nat} {g : Gs} {S S' : St} (h : OUT fr n S S') : FrO fr n g S S' := fun m _ hne _ p hp => h _ (by omega)
theorem FrR_eq {fr n : Nat} {S S' : St} {r : Rul} {rs : List Rd} (h : FrR S fr n r rs) (e : S'.1 fr = S.1 fr) : FrR S' fr n r rs := fun p hp => by rw [e]; exact h p hp
theorem RC_T {E : Ev} {b T T' : Nat} {g : Gs} {S : St} (h : RC E b T g S) (hT : T ≤ T') : RC E b T' g S := by
  obtain ⟨c0, c1, c2, ⟨c, x1, x2, x3⟩, c4⟩ := h
  exact ⟨c0, c1, c2, ⟨c, x1, x2, Nat.le_trans x3 hT⟩, c4⟩
theorem put_v {E : Ev} {b T m : Nat} (hb : b < 2) {g : Gs} {S : St} (hg : WG g) (h : RC E b T g S) (hm : m < 3) : ∃ S', m_X2_putAway b S (nI m) = some S' ∧ RC E b T (aput m g) S' ∧ S'.1 (9 + 2 * b) = S.1 (9 + 2 * b) := by
  have k2 := hg.2.1
  obtain ⟨c0, c1, c2, ⟨c, ⟨M, hM1, hM⟩, x2, x3⟩, c4, c5, c12, c14, c15, c16, c17, c8⟩ := h
  unfold m_X2_putAway
  rw [ts_4 hm (by omega), zo_e, lose_v, zo_e, tb_n (by omega)]
  generalize hS2 : tb (tb S 4 (upd (S.1 4) (m * 2 + 1) (nI 1))) 3 (losF (S.1 3) 100 (nI m)) = S2
  have n0 : ∀ k, ¬ k = 3 → ¬ k = 4 → S2.1 k = S.1 k := fun k h3 h4 => by rw [← hS2, tb_n h3, tb_n h4]
  obtain ⟨f, f1, f2⟩ := put_l hb hg hm FU 32 0 S2 (by omega) (FU_gt (by omega)) (by
    rw [n0 2 (by omega) (by omega)]
    intro n hn p hp
    rw [c2 n hn p hp]
    rfl) (by rw [n0 _ (by omega) (by omega)]; exact c8)
  refine ⟨_, f1, ?_, by rw [tb_n (by omega), n0 _ (by omega) (by omega)]⟩
  refine ⟨?_, ?_, ?_, ?_, ?_, ?_, ?_, ?_, ?_, ?_, ?_, ?_⟩
  · rw [tb_n (by omega), n0 _ (by omega) (by omega)]; exact c0
  · rw [tb_n (by omega), n0 _ (by omega) (by omega)]; exact c1
  · rw [tb_s]
    intro n hn p hp
    rw [f2 n hn p hp]
    congr 1
    exact if_pos hn
  · rw [tb_n (by omega), tb_n (by omega), n0 13 (by omega) (by omega)]
    refine ⟨c, ⟨M.filter (fun x => decide (¬ x.2.2.2.2.2.2 = m)), ?_, ?_⟩, x2, x3⟩
    · show _ = (gL g).filter (fun e => decide (¬ e.2.2.2.2 = m))
      rw [← hM1, List.filter_map]
      rfl
    · rw [← hS2, tb_s]
      exact CacM_los hM (fun x hx => k2 _ (by rw [← hM1]; exact List.mem_map_of_mem (f := fun m => m.2.2) hx)) hm
  · rw [tb_n (by omega), ← hS2, tb_n (by omega), tb_s]
    intro j hj
    show _ ∧ _ = bI (fu (gAw g) m true j)
    by_cases h1 : j = m
    · subst h1
      rw [pk_un (by omega), pk_us, fu_s]
      exact ⟨(c4 j hj).1, rfl⟩
    · rw [pk_un (by omega), pk_un (by omega), fu_n h1]
      exact c4 j hj
  · rw [tb_n (by omega), n0 _ (by omega) (by omega)]; exact c5
  · rw [tb_n (by omega), n0 _ (by omega) (by omega)]; exact c12
  · rw [tb_n (by omega), n0 _ (by omega) (by omega)]; exact c14
  · rw [tb_n (by omega), n0 _ (by omega) (by omega)]; exact c15
  · rw [tb_n (by omega), n0 _ (by omega) (by omega)]; exact c16
  · rw [tb_n (by omega), n0 _ (by omega) (by omega)]; exact c17
  · rw [tb_n (by omega), n0 _ (by omega) (by omega)]; exact SeeT_same c8 rfl rfl rfl
/-- value and from are laid into the fresh row -/
theorem lay_v {E : Ev} {b T n v f : Nat} (hb : b < 2) {g : Gs} {S : St} {r : Rul} {rs : List Rd} (hn : n < 32) (h : RC E b T g S) (hF : FrR S (9 + 2 * b) n r rs) :
    ∃ S', (zo (m_X4_set (9 + 2 * b) S (nI n) (nI 50) (nI v)) fun S2 => zo (m_X4_set (9 + 2 * b) S2 (nI n) (nI 51) (nI f)) fun S3 => some S3) = some S' ∧ RC E b T g S' ∧ FrR S' (9 + 2 * b) n r rs ∧ S'.1 (9 + 2 * b) (n * 53 + 50) = nI v ∧ S'.1 (9 + 2 * b) (n * 53 + 51) = nI f ∧ OUT (9 + 2 * b) n S S' ∧ S'.1 0 = S.1 0 := by
  rw [ts_f hb hn (by omega), zo_e, ts_f hb hn (by omega), zo_e, tb_tb, tb_s]
  refine ⟨_, rfl, RC_fr hb h, fun p hp => ?_, ?_, ?_, fun i hi => ?_, tb_n (by omega)⟩
  · rw [tb_s, pk_un (by omega), pk_un (by omega)]; exact hF p hp
  · rw [tb_s, pk_un (by omega), pk_us]
  · rw [tb_s, pk_us]
  · rw [tb_s, pk_un (by omega), pk_un (by omega)]
theorem tell_v {E : Ev} {b T n m : Nat} (hb : b < 2) {g : Gs} {S : St} {r : Rul} {rs : List Rd} {res : Nat} (hn : n < 32) (hg : WG g) (h : RC E b T g S) (hF : FrR S (9 + 2 * b) n r rs) (hm : m ≤ 3) (hr : res < 1000) :
    ∃ S', m_X2_tell b S (nI n) (nI m) (nI res) = some S' ∧ RC E b T (atell E m res g).2 S' ∧ FrR S' (9 + 2 * b) n r rs ∧ S'.1 (9 + 2 * b) (n * 53 + 50) = nI (atell E m res g).1.1 ∧ S'.1 (9 + 2 * b) (n * 53 + 51) = nI (atell E m res g).1.2 ∧ OUT (9 + 2 * b) n S S' := by
  unfold m_X2_tell m_X2_tell_J30 atell
  rw [tells_v h.2.2.2.2.1 hm hr, zo_e]
  have c14' : (S.1 14 0 = 0) = (eCk E = false) := by
    rw [h.2.2.2.2.2.2.2.1, bI_0]
  have c3 : (nI m = nI 3) = (m = 3) := eq_nI (by omega) (by omega)
  simp only [rs_v, c14', c3]
  by_cases h1 : eCk E = false
  · rw [if_pos h1, if_neg (show ¬ (eCk E = true ∧ ¬ m = 3) from fun q => by rw [h1] at q; cases q.1)]
    by_cases h2 : ¬ m = 3 ∧ ePo E m = true
    · rw [if_pos h2, if_pos h2]
      obtain ⟨S', a1, a2, a3, a4, a5, a6, a7⟩ := lay_v hb (v := (res + 1) % 1000) (f := m) hn h hF
      exact ⟨S', a1, a2, a3, a4, a5, a6⟩
    · rw [if_neg h2, if_neg h2]
      obtain ⟨S', a1, a2, a3, a4, a5, a6, a7⟩ := lay_v hb (v := res) (f := m) hn h hF
      exact ⟨S', a1, a2, a3, a4, a5, a6⟩
  · have h1t : eCk E = true := by
      cases hc : eCk E with
      | false => exact absurd hc h1
      | true => rfl
    rw [if_neg h1]
    by_cases h3 : m = 3
    · rw [if_pos h3, if_neg (show ¬ (eCk E = true ∧ ¬ m = 3) from fun q => q.2 h3), if_neg (show ¬ (¬ m = 3 ∧ ePo E m = true) from fun q => q.1 h3), if_neg (show ¬ (¬ m = 3 ∧ ePo E m = true) from fun q => q.1 h3)]
      obtain ⟨S', a1, a2, a3, a4, a5, a6, a7⟩ := lay_v hb (v := res) (f := m) hn h hF
      exact ⟨S', a1, a2, a3, a4, a5, a6⟩
    · rw [if_neg h3, if_pos (show eCk E = true ∧ ¬ m = 3 from ⟨h1t, h3⟩), zb_e]
      have r2 := RC_rn hb h (v := S.1 (16 + 2 * b) 0 + nI 1) (by
        rw [h.2.2.2.2.2.2.2.2.2.1, nI_add])
      have f2 : (wi S (16 + 2 * b) 0 (S.1 (16 + 2 * b) 0 + nI 1)).1 (9 + 2 * b) = S.1 (9 + 2 * b) := by rw [wi_tb, tb_n (by omega)]
      generalize wi S (16 + 2 * b) 0 (S.1 (16 + 2 * b) 0 + nI 1) = S2 at r2 f2 ⊢
      have hg2 : WG (sRn g (gRn g + 1)) := WG_same hg rfl rfl rfl rfl rfl rfl rfl (fun _ q => q)
      by_cases h4 : ePo E m = true
      · rw [if_pos (show ¬ m = 3 ∧ ePo E m = true from ⟨h3, h4⟩), if_neg (show ¬ nI ((res + 1) % 1000) = nI res from nI_ne (by omega) (by omega) (by omega)), if_pos h4]
        obtain ⟨S3, b1, b2, b3⟩ := put_v hb hg2 r2 (m := m) (by omega)
        rw [b1, zo_e]
        obtain ⟨S', a1, a2, a3, a4, a5, a6, a7⟩ := lay_v hb (v := res) (f := 3) hn b2 (FrR_eq hF (b3.trans f2))
        exact ⟨S', a1, a2, a3, a4, a5, OUT_tr (OUT_eq (b3.trans f2)) a6⟩
      · rw [if_neg (show ¬ (¬ m = 3 ∧ ePo E m = true) from fun q => h4 q.2), if_pos rfl, if_neg h4]
        obtain ⟨S', a1, a2, a3, a4, a5, a6, a7⟩ := lay_v hb (v := res) (f := m) hn r2 (FrR_eq hF f2)
        exact ⟨S', a1, a2, a3, a4, a5, OUT_tr (OUT_eq f2) a6⟩
/-! a new entry -/
theorem i32_le_tr {a b c : Int32} (h1 : a ≤ b) (h2 : b ≤ c) : a ≤ c := by
  rw [Int32.le_iff_toInt_le] at *
  omega
theorem i32_nle {a b : Int32} (h : ¬ a ≤ b) : b ≤ a := by
  rw [Int32.le_iff_toInt_le] at *
  omega
theorem ftg_l {S : St} : ∀ (k d i a : Nat), i + d = 100 → d < k → a < i → a < 100 → (∀ j, j < i → S.1 3 (a * 53 + 52) ≤ S.1 3 (j * 53 + 52)) → ∃ a', a' < 100 ∧ zl2 (m_X0_firstToGo_B4 S) k (nI a) (nI i) = some (nI a') ∧ ∀ j, j < 100 → S.1 3 (a' * 53 + 52) ≤ S.1 3 (j * 53 + 52) := by
  intro k
  induction k with
  | zero => intro d i a _ h; omega
  | succ k ih =>
    intro d i a h1 h2 h3 h4 h5
    show ∃ a', a' < 100 ∧ m_X0_firstToGo_B4 S (zl2 (m_X0_firstToGo_B4 S) k) (nI a) (nI i) = _ ∧ _
    unfold m_X0_firstToGo_B4
    simp only [nI_add, zb_e]
    match d, h1, h2 with
    | 0, h1, h2 =>
      rw [if_pos (by rw [le_nI (by omega) (by omega)]; omega)]
      exact ⟨a, h4, rfl, fun j hj => h5 j (by omega)⟩
    | d + 1, h1, h2 =>
      rw [if_neg (by rw [le_nI (by omega) (by omega)]; omega), tg_3 (by omega) (by omega), zo_e, tg_3 h4 (by omega), zo_e]
      by_cases h6 : S.1 3 (a * 53 + 52) ≤ S.1 3 (i * 53 + 52)
      · rw [if_pos h6]
        exact ih d (i + 1) a (by omega) (by omega) (by omega) h4 (fun j hj => by
          by_cases h7 : j = i
          · subst h7; exact h6
          · exact h5 j (by omega))
      · rw [if_neg h6]
        have h7 := i32_nle h6
        exact ih d (i + 1) i (by omega) (by omega) (by omega) (by omega) (fun j hj => by
          by_cases h8 : j = i
          · subst h8; exact Int32.le_refl _
          · exact i32_le_tr h7 (h5 j (by omega)))
theorem ftg_v {S : St} : ∃ a, a < 100 ∧ m_X0_firstToGo S = some (nI a) ∧ ∀ j, j < 100 → S.1 3 (a * 53 + 52) ≤ S.1 3 (j * 53 + 52) :=
  ftg_l FU 99 1 0 (by omega) (FU_gt (by omega)) (by omega) (by omega) (fun j hj => by rw [show j = 0 by omega]; exact Int32.le_refl _)
theorem cnt_list {n : Nat} : ∀ (l : List Nat), l.Pairwise (fun a b => ¬ a = b) → (∀ x ∈ l, x < n) → cntB (fun i => decide (i ∈ l)) n = l.length
  | [], _, _ => by
    have h : ∀ m, cntB (fun i => decide (i ∈ ([] : List Nat))) m = 0 := fun m => by
      induction m with
      | zero => rfl
      | succ m ih =>
        rw [cntB, ih, decide_eq_false (by simp)]
        rfl
    exact h n
  | x :: t, h, hx => by
    rw [List.pairwise_cons] at h
    have ih := cnt_list t h.2 (fun y hy => hx y (List.mem_cons_of_mem _ hy))
    have hf := cntB_flip (f := fun i => decide (i ∈ t)) (h := fun i => decide (i ∈ x :: t)) (j := x) (decide_eq_false (fun q => h.1 x q rfl)) (decide_eq_true List.mem_cons_self) (fun i hi => by
      show decide (i ∈ t) = decide (i ∈ x :: t)
      have e : (i ∈ x :: t) = (i ∈ t) := by rw [List.mem_cons]; exact propext ⟨fun q => q.resolve_left hi, Or.inr⟩
      simp only [e]) n (hx x List.mem_cons_self)
    rw [← hf, ih, List.length_cons]
theorem CacM_cnt {M : List Sl} {c : Nat} {f : Nat → Int32} (h : CacM M c f) : cntB (fun i => decide (∃ m ∈ M, m.1 = i)) 100 = M.length := by
  have h1 := cnt_list (n := 100) (M.map (fun m => m.1)) (by rw [List.pairwise_map]; exact h.2.1.imp (fun q => q.1)) (fun x hx => by
    obtain ⟨m, h2, rfl⟩ := List.mem_map.mp hx
    exact (h.1 m h2).1)
  rw [List.length_map] at h1
  rw [← h1]
  refine cntB_eq 100 (fun i _ => ?_)
  simp only [List.mem_map]
theorem CacM_full {M : List Sl} {c : Nat} {f : Nat → Int32} (h : CacM M c f) (hl : 100 ≤ M.length) {i : Nat} (hi : i < 100) : ∃ m ∈ M, m.1 = i := by
  refine Classical.byContradiction (fun q => ?_)
  have h1 := CacM_cnt h
  have h2 := cntB_flip (f := fun j => decide (∃ m ∈ M, m.1 = j) && decide (¬ j = i)) (h := fun j => decide (j < 100) && (decide (∃ m ∈ M, m.1 = j) || decide (j = i))) (j := i) (by simp) (by simp [hi]) (fun j hj => by
    by_cases h3 : ∃ m ∈ M, m.1 = j
    · obtain ⟨m, h4, rfl⟩ := h3
      have h5 := (h.1 m h4).1
      simp [h5, hj]
    · simp [h3, hj]) 100 hi
  have h3 : cntB (fun j => decide (∃ m ∈ M, m.1 = j) && decide (¬ j = i)) 100 = cntB (fun j => decide (∃ m ∈ M, m.1 = j)) 100 := cntB_eq 100 (fun j _ => by
    by_cases h4 : j = i
    · subst h4; simp [q]
    · simp [h4])
  have h4 := cntB_le (f := fun j => decide (j < 100) && (decide (∃ m ∈ M, m.1 = j) || decide (j = i))) 100
  omega
theorem CacM_free {M : List Sl} {c : Nat} {f : Nat → Int32} (h : CacM M c f) (hl : M.length < 100) : ∃ i, i < 100 ∧ ∀ m ∈ M, ¬ m.1 = i := by
  refine Classical.byContradiction (fun q => ?_)
  have h1 := CacM_cnt h
  have h2 : cntB (fun i => decide (∃ m ∈ M, m.1 = i)) 100 = cntB (fun _ => true) 100 := cntB_eq 100 (fun i hi => decide_eq_true (Classical.byContradiction (fun h3 => q ⟨i, hi, fun m h4 h5 => h3 ⟨m, h4, h5⟩⟩)))
  have h3 : cntB (fun _ => true) 100 = 100 := by decide
  omega
/-- a slot is taken over -/
theorem CacM_add {M : List Sl} {c a : Nat} {f f' : Nat → Int32} {e : En} (h : CacM M c f) (ha : a < 100) (hfree : ∀ m ∈ M, ¬ m.1 = a) (h1 : ∀ i, i < 100 → ¬ i = a → ∀ p, p < 53 → f' (i * 53 + p) = f (i * 53 + p)) (h2 : ∀ p, p < 53 → f' (a * 53 + p) = rowE (a, c, e) p) : CacM (M ++ [(a, c, e)]) (c + 1) f' := by
  obtain ⟨a1, a2, a3, a4⟩ := h
  refine ⟨fun m hm => ?_, ?_, fun m hm p hp => ?_, fun i hi hm p hp => ?_⟩
  · rcases List.mem_append.mp hm with q | q
    · have := a1 m q; omega
    · rw [List.mem_singleton.mp q]; exact ⟨ha, by show c < c + 1; omega⟩
  · refine List.pairwise_append.mpr ⟨a2, List.pairwise_singleton _ _, fun x hx y hy => ?_⟩
    rw [List.mem_singleton.mp hy]
    exact ⟨hfree x hx, (a1 x hx).2⟩
  · rcases List.mem_append.mp hm with q | q
    · rw [h1 m.1 (a1 m q).1 (hfree m q) p hp]; exact a3 m q p hp
    · rw [List.mem_singleton.mp q]; exact h2 p hp
  · have h3 : ¬ i = a := fun q => hm (a, c, e) (List.mem_append_right _ List.mem_cons_self) q.symm
    rw [h1 i hi h3 p hp]
    exact a4 i hi (fun m q => hm m (List.mem_append_left _ q)) p hp
theorem add_v {E : Ev} {b T n v f : Nat} (hb : b < 2) {g : Gs} {S : St} {r : Rul} {rs : List Rd} (hn : n < 32) (hT : T < 1000000) (hg : WG g) (h : RC E b T g S) (hF : FrR S (9 + 2 * b) n r rs) (hv : S.1 (9 + 2 * b) (n * 53 + 50) = nI v) (hf : S.1 (9 + 2 * b) (n * 53 + 51) = nI f) :
    ∃ S', m_X0_add (9 + 2 * b) S (nI n) = some S' ∧ RC E b (T + 1) (aadd (r, n % 2, rs, v, f) g) S' ∧ S'.1 (9 + 2 * b) = S.1 (9 + 2 * b) := by
  have e53 : wdN (9 + 2 * b) = 53 := by rcases lt2 hb with rfl | rfl <;> rfl
  have em : mnN (9 + 2 * b) = 32 := by rcases lt2 hb with rfl | rfl <;> rfl
  have k3 := hg.2.2.1
  obtain ⟨c0, c1, c2, ⟨c, ⟨M, hM1, hM⟩, x2, x3⟩, c4, c5, c12, c14, c15, c16, c17, c8⟩ := h
  have hlen : M.length = (gL g).length := by rw [← hM1, List.length_map]
  obtain ⟨a, ha, e1, e2⟩ := ftg_v (S := S)
  unfold m_X0_add
  simp only [rs_v]
  rw [e1, zo_e, cpy_v (by omega) (by omega) (by omega) rfl e53 ha (by rw [em]; exact hn), zo_e, ts_3 ha (by omega), zo_e, tb_tb, tb_s, zb_e, wi_tb]
  generalize hf3 : upd (cpyF (S.1 3) (S.1 (9 + 2 * b)) (a * 53) (n * 53) 53) (a * 53 + 52) ((tb S 3 (cpyF (S.1 3) (S.1 (9 + 2 * b)) (a * 53) (n * 53) 53)).1 13 0) = f3
  have r13 : (tb S 3 (cpyF (S.1 3) (S.1 (9 + 2 * b)) (a * 53) (n * 53) 53)).1 13 0 = nI c := by
    rw [tb_n (by omega)]; exact x2
  have h1 : ∀ i, i < 100 → ¬ i = a → ∀ p, p < 53 → f3 (i * 53 + p) = S.1 3 (i * 53 + p) := fun i hi hne p hp => by
    rw [← hf3, pk_un (by omega), cpyF_out (by omega)]
  have h2 : ∀ p, p < 53 → f3 (a * 53 + p) = rowE (a, c, (r, n % 2, rs, v, f)) p := fun p hp => by
    rw [← hf3, r13]
    show _ = rowC r (n % 2) rs (nI v) (nI f) (nI c) p
    by_cases q0 : p = 52
    · subst q0; rw [pk_us]; rfl
    · rw [pk_un (by omega), cpyF_in hp]
      by_cases q1 : p < 50
      · rw [hF p q1]
        unfold rowC
        rw [if_pos q1, if_pos q1]
      · by_cases q2 : p = 50
        · subst q2; exact hv
        · have q3 : p = 51 := by omega
          subst q3; exact hf
  have hC : CacT (gL (aadd (r, n % 2, rs, v, f) g)) (c + 1) f3 := by
    have came : ∀ m ∈ M, S.1 3 (m.1 * 53 + 52) = nI m.2.1 := fun m hm => hM.2.2.1 m hm 52 (by omega)
    by_cases hfull : M.length < 100
    · obtain ⟨i, hi, hfr⟩ := CacM_free hM hfull
      have hfree : ∀ m ∈ M, ¬ m.1 = a := fun m hm q => by
        have q1 := e2 i hi
        rw [hM.2.2.2 i hi hfr 52 (by omega), ← q, came m hm] at q1
        have q2 := (hM.1 m hm).2
        rw [Int32.le_iff_toInt_le, nI_toInt (by omega)] at q1
        have q3 : (-1 : Int32).toInt = -1 := by decide
        omega
      have hgl : gL (aadd (r, n % 2, rs, v, f) g) = gL g ++ [(r, n % 2, rs, v, f)] := if_neg (by rw [List.length_append]; simp; omega)
      rw [hgl]
      exact ⟨M ++ [(a, c, (r, n % 2, rs, v, f))], by rw [List.map_append, hM1]; rfl, CacM_add hM ha hfree h1 h2⟩
    · obtain ⟨ma, m1, m2⟩ := CacM_full hM (by omega) ha
      have hgl : gL (aadd (r, n % 2, rs, v, f) g) = (gL g ++ [(r, n % 2, rs, v, f)]).drop 1 := if_pos (by rw [List.length_append]; simp; omega)
      rw [hgl]
      cases M with
      | nil => simp at hfull
      | cons hd t =>
        have hp := hM.2.1
        rw [List.pairwise_cons] at hp
        have hma : ma = hd := by
          rcases List.mem_cons.mp m1 with q | q
          · exact q
          · exfalso
            have q1 := (hp.1 ma q).2
            have q2 := e2 hd.1 (hM.1 hd List.mem_cons_self).1
            have q3 := (hM.1 ma m1).2
            rw [← m2, came ma m1, came hd List.mem_cons_self, le_nI (by omega) (by omega)] at q2
            omega
        subst hma
        have ht : CacM t c (fun i => if ma.1 * 53 ≤ i ∧ i < ma.1 * 53 + 53 then -1 else S.1 3 i) := by
          refine CacM_sub hM (List.sublist_cons_self _ _) (fun m hm p hp2 => ?_) (fun i hi hm p hp2 => ?_)
          · have q := (hp.1 m hm).1
            show (if _ then _ else _) = _
            rw [if_neg (by omega)]
          · show (if _ then _ else _) = _
            by_cases q : i = ma.1
            · rw [if_pos (by omega)]
            · rw [if_neg (by omega)]
              exact hM.2.2.2 i hi (fun m q2 q3 => by
                rcases List.mem_cons.mp q2 with q4 | q4
                · subst q4; exact q q3.symm
                · exact hm m q4 q3) p hp2
        refine ⟨t ++ [(a, c, (r, n % 2, rs, v, f))], ?_, CacM_add ht ha (fun m hm q => (hp.1 m hm).1 (by omega)) (fun i hi hne p hp2 => ?_) h2⟩
        · rw [← hM1]
          simp
        · rw [h1 i hi hne p hp2]
          show _ = (if _ then _ else _)
          rw [if_neg (by omega)]
  refine ⟨_, rfl, ?_, by rw [tb_n (by omega), tb_n (by omega)]⟩
  refine ⟨?_, ?_, ?_, ?_, ?_, ?_, ?_, ?_, ?_, ?_, ?_, ?_⟩
  · rw [tb_n (by omega), tb_n (by omega)]; exact c0
  · rw [tb_n (by omega), tb_n (by omega)]; exact c1
  · rw [tb_n (by omega), tb_n (by omega)]; exact c2
  · refine ⟨c + 1, ?_, ?_, ?_⟩
    · rw [tb_n (by omega), tb_s]; exact hC
    · rw [tb_s, pk_us]
      show (tb S 3 f3).1 13 0 + nI 1 = _
      rw [tb_n (by omega), x2, nI_add]
    · have : uG (aadd (r, n % 2, rs, v, f) g) = uG g := rfl
      omega
  · rw [tb_n (by omega), tb_n (by omega)]; exact c4
  · rw [tb_n (by omega), tb_n (by omega)]; exact c5
  · rw [tb_n (by omega), tb_n (by omega)]; exact c12
  · rw [tb_n (by omega), tb_n (by omega)]; exact c14
  · rw [tb_n (by omega), tb_n (by omega)]; exact c15
  · rw [tb_n (by omega), tb_n (by omega)]; exact c16
  · rw [tb_n (by omega), tb_n (by omega)]; exact c17
  · rw [tb_n (by omega), tb_n (by omega)]; exact SeeT_same c8 rfl rfl rfl
