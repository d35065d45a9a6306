def IP (n i : Nat) (acc : List Rd) (S : St) : Prop := S.1 36 n = nI 0 ∧ S.1 37 n = nI i ∧ S.1 38 n = nI acc.length ∧ ∀ j x, acc[j]? = some x → S.1 39 (5 * n + j) = nI x.1 ∧ S.1 40 (5 * n + j) = nI (if x.1 = 4 then x.2.2.1 else 0) ∧ S.2 41 (5 * n + j) = encV x
theorem notes_v {S : St} {n len : Nat} {p2 p3 : Int32} {p4 : Int64} (hn : n < 32) (hl : len < 5) (h38 : S.1 38 n = nI len) : m_X7_notes S (nI n) p2 p3 p4 = some (wi (wj (wi (wi S 39 (5 * n + len) p2) 40 (5 * n + len) p3) 41 (5 * n + len) p4) 38 n (nI (len + 1))) := by
  unfold m_X7_notes
  rw [zg_in hn (by omega), ri_n (by omega), h38, pk_mul, nI_add, zg_in (by omega) (by omega), tn (by omega), zb_e]
  rw [zg_in hn (by omega), ri_n (by omega), wi_ne (by omega), h38, nI_add, zg_in (by omega) (by omega), tn (by omega), zb_e]
  rw [zg_in hn (by omega), ri_n (by omega), wi_ne (by omega), wi_ne (by omega), h38, nI_add, zg_in (by omega) (by omega), tn (by omega), zb_e]
  rw [zg_in hn (by omega), zg_in hn (by omega), ri_n (by omega), wj_1, wi_ne (by omega), wi_ne (by omega), h38, nI_add, tn (by omega), zb_e]
theorem note_go {S : St} {n i : Nat} {acc : List Rd} {x : Rd} {p2 p3 : Int32} {p4 : Int64} (hn : n < 32) (hl : acc.length < 5) (h : IP n i acc S) (e2 : p2 = nI x.1) (e3 : p3 = nI (if x.1 = 4 then x.2.2.1 else 0)) (e4 : p4 = encV x) :
    ∃ S', m_X7_notes S (nI n) p2 p3 p4 = some S' ∧ DIF n S S' ∧ IP n i (acc ++ [x]) S' := by
  obtain ⟨a1, a2, a3, a4⟩ := h
  refine ⟨_, notes_v hn hl a3, ⟨fun k j b1 b2 b3 b4 => ?_, fun k j b1 b2 => ?_⟩, ?_, ?_, ?_, fun j y hy => ?_⟩
  · rw [wi_ne (by omega), wj_1, wi_ne (by omega), wi_ne (by omega)]
  · rw [wi_2, wj_ne (by omega), wi_2, wi_2]
  · rw [wi_ne (by omega), wj_1, wi_ne (by omega), wi_ne (by omega)]; exact a1
  · rw [wi_ne (by omega), wj_1, wi_ne (by omega), wi_ne (by omega)]; exact a2
  · rw [wi_at, List.length_append]; rfl
  · have hj := (List.getElem?_eq_some_iff.mp hy).1
    rw [List.length_append, List.length_singleton] at hj
    by_cases h1 : j < acc.length
    · rw [List.getElem?_append_left h1] at hy
      rw [wi_ne (by omega), wj_1, wi_ne (by omega), wi_ne (by omega), wi_ne (by omega), wj_1, wi_ne (by omega), wi_ne (by omega), wi_2, wj_ne (by omega), wi_2, wi_2]
      exact a4 j y hy
    · have h2 : j = acc.length := by omega
      subst h2
      rw [List.getElem?_append_right (Nat.le_refl _), Nat.sub_self] at hy
      cases hy
      rw [wi_ne (by omega), wj_1, wi_ne (by omega), wi_at, wi_ne (by omega), wj_1, wi_at, wi_2, wj_at]
      exact ⟨e2, e3, e4⟩
theorem ats_go {S : St} {n i : Nat} {acc : List Rd} (h : IP n i acc S) : DIF n S (wi S 37 n (nI (i + 1))) ∧ IP n (i + 1) acc (wi S 37 n (nI (i + 1))) := by
  obtain ⟨a1, a2, a3, a4⟩ := h
  refine ⟨⟨fun k j b1 b2 b3 b4 => wi_ne (by omega), fun k j b1 b2 => by rw [wi_2]⟩, ?_, wi_at, ?_, fun j y hy => ?_⟩
  · rw [wi_ne (by omega)]; exact a1
  · rw [wi_ne (by omega)]; exact a3
  · rw [wi_ne (by omega), wi_ne (by omega), wi_2]; exact a4 j y hy
/-! the end of a node -/
def FIN4 (S : St) (n : Nat) (v : Int32) (how h : Nat) : St := wi (wi (wi (wi S 29 n (nI 2)) 30 n v) 31 n (nI how)) 34 0 (nI h)
theorem FIN4_ne {S : St} {n how h : Nat} {v : Int32} {k i : Nat} (h1 : ¬ (k = 29 ∧ i = n)) (h2 : ¬ (k = 30 ∧ i = n)) (h3 : ¬ (k = 31 ∧ i = n)) (h4 : ¬ (k = 34 ∧ i = 0)) : (FIN4 S n v how h).1 k i = S.1 k i := by
  unfold FIN4
  rw [wi_ne h4, wi_ne h3, wi_ne h2, wi_ne h1]
theorem FIN4_2 {S : St} {n how h : Nat} {v : Int32} : (FIN4 S n v how h).2 = S.2 := rfl
theorem fins_v {S : St} {n how h : Nat} {v : Int32} (hn : n < 32) (h34 : S.1 34 0 = nI (h + 1)) : m_X7_finishes S (nI n) v (nI how) = if S.1 43 0 = 0 then (if 0 ≤ v then some (FIN4 S n v how h) else some (wi (FIN4 S n v how h) 15 n (nI 0))) else some (FIN4 S n v how h) := by
  unfold m_X7_finishes
  simp only [zg_in hn (show 32 ≤ 2147483648 by omega), tn (show n < 2147483648 by omega), zb_e]
  have e34 : rs (wi (wi (wi S 29 n (nI 2)) 30 n v) 31 n (nI how)) 34 = nI (h + 1) := by
    show (wi (wi (wi S 29 n (nI 2)) 30 n v) 31 n (nI how)).1 34 0 = _
    rw [wi_ne (by omega), wi_ne (by omega), wi_ne (by omega)]; exact h34
  have e1 : nI (h + 1) - nI 1 = nI h := pk_sub (by omega)
  rw [e34, e1]
  have e43 : rs (wi (wi (wi (wi S 29 n (nI 2)) 30 n v) 31 n (nI how)) 34 0 (nI h)) 43 = S.1 43 0 := FIN4_ne (by omega) (by omega) (by omega) (by omega)
  rw [e43]
  rfl
theorem bG_end {g : Gs} {n how h : Nat} {a : Ans} (hn : n < 32) (h5 : gDn g n = 5) (hh : ¬ how = 5) (hb : bG g = h + 1) : bG (sEnd g n how a) = h := by
  have e : cntB (fun i => decide (gDn (sEnd g n how a) i = 5)) 32 + 1 = cntB (fun i => decide (gDn g i = 5)) 32 := by
    have e1 : ∀ i, gDn (sEnd g n how a) i = fu (gDn g) n how i := fun i => rfl
    refine cntB_flip (j := n) ?_ ?_ (fun i hi => ?_) 32 hn
    · simp only [e1, fu_s]; exact decide_eq_false hh
    · simp only [h5]; decide
    · simp only [e1, fu_n hi]
  have e2 : bG (sEnd g n how a) + 1 = bG g := e
  omega
theorem cG_end {g : Gs} {n how : Nat} {a : Ans} (hn : n < 32) (h5 : gDn g n = 5) {x : Nat} (hx : ¬ x = 5) : cG (sEnd g n how a) x = if how = x then cG g x + 1 else cG g x := by
  have e1 : ∀ i, gDn (sEnd g n how a) i = fu (gDn g) n how i := fun i => rfl
  by_cases h1 : how = x
  · rw [if_pos h1]
    have e : cntB (fun i => decide (gDn g i = x)) 32 + 1 = cntB (fun i => decide (gDn (sEnd g n how a) i = x)) 32 := by
      refine cntB_flip (j := n) ?_ ?_ (fun i hi => ?_) 32 hn
      · simp only [h5]; exact decide_eq_false (fun q => hx q.symm)
      · simp only [e1, fu_s]; exact decide_eq_true h1
      · simp only [e1, fu_n hi]
    exact e.symm
  · rw [if_neg h1]
    refine cntB_eq 32 (fun i _ => ?_)
    simp only [e1]
    by_cases h2 : i = n
    · subst h2
      rw [fu_s, h5, decide_eq_false h1, decide_eq_false (fun q => hx q.symm)]
    · rw [fu_n h2]
theorem RR0_end {E : Ev} {g : Gs} {S : St} {n how h : Nat} {a : Ans} (hn : n < 32) (h5 : gDn g n = 5) (hb : bG g = h + 1) (hh : ¬ how = 5 ∧ ¬ how = 0 ∧ how ≤ 4) (hR : RR0 E g S) : RR0 E (sEnd g n how a) (FIN4 S n (enA a) how h) := by
  obtain ⟨a1, a2, a3, a4⟩ := hR
  refine ⟨FilT_eq a1 (fun k i hk => FIN4_ne (by omega) (by omega) (by omega) (by omega)), RrT_eq a2 (fun k i hk => FIN4_ne (by omega) (by omega) (by omega) (by omega)), fun m hm => ?_, ?_⟩
  · show fu (gDn g) n how m ≤ 5 ∧ (fu (gDn g) n how m = 0 → _) ∧ (fu (gDn g) n how m = 5 → _) ∧ (¬ fu (gDn g) n how m = 0 → ¬ fu (gDn g) n how m = 5 → _ ∧ _ = enA (fu (gAn g) n a m))
    by_cases h1 : m = n
    · subst h1
      rw [fu_s, fu_s]
      refine ⟨by omega, fun q => absurd q hh.2.1, fun q => absurd q hh.1, fun _ _ => ⟨?_, ?_⟩⟩
      · unfold FIN4
        rw [wi_ne (by omega), wi_ne (by omega), wi_ne (by omega), wi_at]
      · unfold FIN4
        rw [wi_ne (by omega), wi_ne (by omega), wi_at]
    · rw [fu_n h1, fu_n h1, FIN4_ne (by omega) (by omega) (by omega) (by omega), FIN4_ne (by omega) (by omega) (by omega) (by omega)]
      exact a3 m hm
  · rw [bG_end hn h5 hh.1 hb]
    unfold FIN4
    rw [wi_at]
/-- the end of a node in a build; what is kept of it stands already -/
theorem RB_end {E : Ev} {g : Gs} {S : St} {n how h : Nat} {a : Ans} (hn : n < 32) (h5 : gDn g n = 5) (hb : bG g = h + 1) (hh : ¬ how = 5 ∧ ¬ how = 0 ∧ how ≤ 4) (h0 : RR0 E g S) (h43 : S.1 43 0 = 0) (hM : MaR E g S) (hK : KeR (gK g) (gAw g) S) (hC : CaR (gL g) S) (hD : DoR g S) (hCo : CoR (sEnd g n how a) S) : RB E (sEnd g n how a) (FIN4 S n (enA a) how h) := by
  have e : ∀ k i, ¬ k = 29 → ¬ k = 30 → ¬ k = 31 → ¬ k = 34 → (FIN4 S n (enA a) how h).1 k i = S.1 k i := fun k i b1 b2 b3 b4 => FIN4_ne (by omega) (by omega) (by omega) (by omega)
  refine ⟨RR0_end hn h5 hb hh h0, by rw [e _ _ (by omega) (by omega) (by omega) (by omega)]; exact h43, MaR_eq hM rfl rfl rfl rfl rfl (fun k i b1 b2 => e k i (by omega) (by omega) (by omega) (by omega)), KeR_eq hK (fun k i b1 => e k i (by omega) (by omega) (by omega) (by omega)) (fun k i _ => rfl), CaR_eq hC (fun k i b1 => e k i (by omega) (by omega) (by omega) (by omega)) (fun i => rfl), fun m hm => ?_, CoR_eq hCo rfl rfl (fun i => e _ _ (by omega) (by omega) (by omega) (by omega))⟩
  obtain ⟨d1, d2, d3⟩ := hD m hm
  show (¬ fu (gDn g) n how m = 5 → _ = nI (fu (gDn g) n how m)) ∧ _ = nI (gWy g m) ∧ (fu (gDn g) n how m = 0 → gWy g m = 0)
  rw [e 32 m (by omega) (by omega) (by omega) (by omega)]
  by_cases h1 : m = n
  · subst h1
    rw [fu_s]
    refine ⟨fun _ => ?_, d2, fun q => absurd q hh.2.1⟩
    unfold FIN4
    rw [wi_ne (by omega), wi_at]
  · rw [fu_n h1, FIN4_ne (by omega) (by omega) (by omega) (by omega)]
    exact ⟨d1, d2, d3⟩
theorem CoR_end {g : Gs} {S : St} {n how : Nat} {a : Ans} (hn : n < 32) (h5 : gDn g n = 5) (hh : ¬ how = 1 ∧ ¬ how = 2 ∧ ¬ how = 0) (h : CoR g S) : CoR (sEnd g n how a) S := by
  unfold CoR at h ⊢
  rw [cG_end hn h5 (by omega), cG_end hn h5 (by omega), uG_end h5 hh.2.2, if_neg hh.1, if_neg hh.2.1]
  exact h
theorem bG_pos {g : Gs} {n : Nat} (hn : n < 32) (h5 : gDn g n = 5) : ∃ h, bG g = h + 1 ∧ h < 32 := by
  have h2 := bG_le g
  have h3 := bG_end (how := 4) (a := .inr 0) hn h5 (by omega) (h := bG g - 1)
  have h4 : 0 < bG g := by
    unfold bG
    refine Nat.lt_of_lt_of_le (Nat.zero_lt_succ (cntB (fun i => decide (gDn g i = 5) && decide (¬ i = n)) 32)) (Nat.le_of_eq ?_)
    refine cntB_flip (j := n) (by simp) (by simp [h5]) (fun i hi => by simp [hi]) 32 hn
  exact ⟨bG g - 1, by omega, by omega⟩
/-- a failure in a build -/
theorem failB {E : Ev} {g : Gs} {S : St} {n k : Nat} (hn : n < 32) (h5 : gDn g n = 5) (hk : 2 ≤ k ∧ k ≤ 5) (h : RB E g S) : ∃ S', m_X7_finishes S (nI n) (enA (.inl k)) (nI 4) = some S' ∧ RB E (afail n k g).2 S' ∧ ∀ h0 g0, KP h0 n g0 S S' := by
  obtain ⟨a1, a2, a3, a4, a5, a6, a7⟩ := h
  obtain ⟨h0, hb, hb2⟩ := bG_pos hn h5
  refine ⟨wi (FIN4 S n (enA (.inl k)) 4 h0) 15 n (nI 0), ?_, ?_, ?_⟩
  · rw [fins_v hn (by rw [a1.2.2.2, hb]), if_pos a2, if_neg (enA_l hk).2.1]
  · have hr : RB E (sEnd g n 4 (.inl k)) (FIN4 S n (enA (.inl k)) 4 h0) := RB_end hn h5 hb (by omega) a1 a2 a3 a4 a5 a6 (CoR_end hn h5 (by omega) a7)
    obtain ⟨b1, b2, b3, b4, b5, b6, b7⟩ := hr
    have e : ∀ k2 i, ¬ k2 = 15 → (wi (FIN4 S n (enA (.inl k)) 4 h0) 15 n (nI 0)).1 k2 i = (FIN4 S n (enA (.inl k)) 4 h0).1 k2 i := fun k2 i q => wi_ne (by omega)
    refine ⟨RR0_eq b1 rfl rfl (fun k2 i q => e k2 i (by omega)), by rw [e _ _ (by omega)]; exact b2, MaR_eq b3 rfl rfl rfl rfl rfl (fun k2 i q q2 => e k2 i ?_), fun m hm => ?_, CaR_eq b5 (fun k2 i q => e k2 i (by omega)) (fun i => rfl), DoR_eq b6 rfl rfl (fun k2 i q => e k2 i (by omega)), CoR_eq b7 rfl rfl (fun i => e _ _ (by omega))⟩
    · omega
    · show (fu (gK g) n none m = none → _) ∧ ∀ q, fu (gK g) n none m = some q → KeR1 m q (gAw g) _
      by_cases h1 : m = n
      · subst h1
        rw [fu_s]
        exact ⟨fun _ => wi_at, fun q hq => by cases hq⟩
      · rw [fu_n h1]
        obtain ⟨c1, c2⟩ := b4 m hm
        refine ⟨fun hn2 => ?_, fun q hq => ?_⟩
        · rw [wi_ne (by omega)]; exact c1 hn2
        · obtain ⟨d1, d2, d3, d4, d5, d6, d7, d8⟩ := c2 q hq
          unfold KeR1
          rw [wi_ne (by omega), wi_2, e _ _ (by omega), e _ _ (by omega), e _ _ (by omega), e _ _ (by omega), e _ _ (by omega)]
          refine ⟨d1, d2, d3, d4, fun j x hx => ?_, d6, d7, d8⟩
          rw [e _ _ (by omega), e _ _ (by omega)]
          exact d5 j x hx
  · intro hh g0
    exact KP_out (fun k2 i q => by rw [wi_ne (by omega), FIN4_ne (by omega) (by omega) (by omega) (by omega)]) (fun i => rfl) (fun m _ => by rw [wi_ne (by omega), FIN4_ne (by omega) (by omega) (by omega) (by omega)])
/-- an end without a change of what is kept, plainly -/
theorem endP {E : Ev} {S0 : St} {g : Gs} {S : St} {n how : Nat} {a : Ans} (hn : n < 32) (h5 : gDn g n = 5) (hh : how = 3 ∨ how = 4) (h : RPl E S0 g S) (hd : how = 3 → (gRd g n).length ≤ 5 ∧ S.1 38 n = nI (gRd g n).length ∧ ∀ j x, (gRd g n)[j]? = some x → S.1 39 (5 * n + j) = nI x.1) :
    ∃ S', m_X7_finishes S (nI n) (enA a) (nI how) = some S' ∧ RPl E S0 (sEnd g n how a) S' ∧ ∀ h0 g0, KP h0 n g0 S S' := by
  obtain ⟨a1, a2, a3, a4, a5, a6⟩ := h
  obtain ⟨h0, hb, hb2⟩ := bG_pos hn h5
  have e : ∀ k i, ¬ k = 29 → ¬ k = 30 → ¬ k = 31 → ¬ k = 34 → (FIN4 S n (enA a) how h0).1 k i = S.1 k i := fun k i b1 b2 b3 b4 => FIN4_ne (by omega) (by omega) (by omega) (by omega)
  refine ⟨FIN4 S n (enA a) how h0, ?_, ⟨RR0_end hn h5 hb (by omega) a1, ?_, fun k i hk => ?_, fun i hi => ?_, a5, fun m hm hdm => ?_⟩, ?_⟩
  · rw [fins_v hn (by rw [a1.2.2.2, hb]), if_neg (by rw [a2]; decide)]
  · rw [e _ _ (by omega) (by omega) (by omega) (by omega)]; exact a2
  · rw [e _ _ (by omega) (by omega) (by omega) (by omega)]; exact a3 k i hk
  · rw [e _ _ (by omega) (by omega) (by omega) (by omega)]; exact a4 i hi
  · have hdm : fu (gDn g) n how m = 3 := hdm
    show (gRd g m).length ≤ 5 ∧ _ = nI (gRd g m).length ∧ ∀ j x, (gRd g m)[j]? = some x → _
    rw [e _ _ (by omega) (by omega) (by omega) (by omega)]
    have fin : ∀ (_ : (gRd g m).length ≤ 5 ∧ S.1 38 m = nI (gRd g m).length ∧ ∀ j x, (gRd g m)[j]? = some x → S.1 39 (5 * m + j) = nI x.1), (gRd g m).length ≤ 5 ∧ S.1 38 m = nI (gRd g m).length ∧ ∀ j x, (gRd g m)[j]? = some x → (FIN4 S n (enA a) how h0).1 39 (5 * m + j) = nI x.1 := fun q => ⟨q.1, q.2.1, fun j x hx => by rw [e _ _ (by omega) (by omega) (by omega) (by omega)]; exact q.2.2 j x hx⟩
    by_cases h1 : m = n
    · subst h1
      rw [fu_s] at hdm
      exact fin (hd hdm)
    · rw [fu_n h1] at hdm
      exact fin (a6 m hm hdm)
  · intro hh2 g0
    exact KP_out (fun k2 i q => FIN4_ne (by omega) (by omega) (by omega) (by omega)) (fun i => rfl) (fun m _ => FIN4_ne (by omega) (by omega) (by omega) (by omega))
