/-! what the class does behind its reading -/
theorem b1_eq {i n : Nat} {k : Nat} (h : i * k + 0 = n * k + 0) (hk : 0 < k) : i = n := by
  rw [Nat.add_zero, Nat.add_zero] at h
  exact Nat.eq_of_mul_eq_mul_right hk h
/-- the end of a look -/
theorem end_v {b : Nat} (hb : b < 2) {S : St} {n how : Nat} {a : Int32} (hn : n < 32) : ∃ f, m_X2_end b S (nI n) (nI how) a = some (a, tb S (8 + 2 * b) f) ∧ (∀ m, ¬ m = n → ∀ p, p < 3 → f (m * 3 + p) = S.1 (8 + 2 * b) (m * 3 + p)) ∧ f (n * 3 + 0) = nI how ∧ f (n * 3 + 1) = a ∧ f (n * 3 + 2) = S.1 (8 + 2 * b) (n * 3 + 2) := by
  unfold m_X2_end
  rw [ts_s hb hn (by omega), zo_e, ts_s hb hn (by omega), zo_e, tb_tb, tb_s]
  refine ⟨_, rfl, fun m hm p hp => ?_, ?_, pk_us, ?_⟩
  · rw [pk_un (by omega), pk_un (by omega)]
  · rw [pk_un (by omega), pk_us]
  · rw [pk_un (by omega), pk_un (by omega)]
theorem SeeT_end {g : Gs} {n how : Nat} {a : Ans} {f f0 : Nat → Int32} (h : SeeT g f0) (hh : how ≤ 5) (h1 : ∀ m, ¬ m = n → ∀ p, p < 3 → f (m * 3 + p) = f0 (m * 3 + p)) (h2 : f (n * 3 + 0) = nI how) (h3 : f (n * 3 + 1) = enA a) (h4 : f (n * 3 + 2) = f0 (n * 3 + 2)) : SeeT (sEnd g n how a) f := fun m hm => by
  obtain ⟨a1, a2, a3, a4⟩ := h m hm
  show fu (gDn g) n how m ≤ 5 ∧ f (m * 3 + 0) = nI (fu (gDn g) n how m) ∧ (¬ fu (gDn g) n how m = 0 → ¬ fu (gDn g) n how m = 5 → f (m * 3 + 1) = enA (fu (gAn g) n a m)) ∧ f (m * 3 + 2) = nI (gWy g m)
  by_cases hmn : m = n
  · subst hmn
    rw [fu_s, fu_s]
    exact ⟨hh, h2, fun _ _ => h3, h4.trans a4⟩
  · rw [fu_n hmn, fu_n hmn, h1 m hmn 0 (by omega), h1 m hmn 1 (by omega), h1 m hmn 2 (by omega)]
    exact ⟨a1, a2, a3, a4⟩
theorem SeeT_same {g g' : Gs} {f : Nat → Int32} (h : SeeT g f) (h1 : gDn g' = gDn g) (h2 : gAn g' = gAn g) (h3 : gWy g' = gWy g) : SeeT g' f := by
  unfold SeeT at h ⊢
  rw [h1, h2, h3]
  exact h
theorem uG_end {g : Gs} {n how : Nat} {a : Ans} (h5 : gDn g n = 5) (h0 : ¬ how = 0) : uG (sEnd g n how a) = uG g := cntB_eq 32 (fun i _ => by
  show decide (fu (gDn g) n how i = 0) = decide (gDn g i = 0)
  by_cases h : i = n
  · subst h; rw [fu_s, h5, decide_eq_false h0]; rfl
  · rw [fu_n h])
/-- the words of a relation, table by table -/
theorem RC_mk {E : Ev} {b T T' : Nat} {g g' : Gs} {S S' : St} (h : RC E b T g S) (e0 : S'.1 0 = S.1 0) (e1 : S'.1 1 = S.1 1) (e2 : KepT (gK g') (S'.1 2)) (e3 : ∃ c, CacT (gL g') c (S'.1 3) ∧ S'.1 13 0 = nI c ∧ c + uG g' ≤ T') (e4 : MacT (ePo E) (gAw g') (S'.1 4)) (e5 : FaiT (gTf g') (S'.1 5))
    (e12 : S'.1 12 0 = nI (gVn g')) (e14 : S'.1 14 0 = S.1 14 0) (e15 : S'.1 15 0 = nI (gTu g')) (e16 : S'.1 (16 + 2 * b) 0 = nI (gRn g')) (e17 : S'.1 (17 + 2 * b) 0 = gLk g') (e8 : SeeT g' (S'.1 (8 + 2 * b))) : RC E b T' g' S' := by
  refine ⟨by rw [e0]; exact h.1, by rw [e1]; exact h.2.1, e2, e3, e4, e5, e12, ?_, e15, e16, e17, e8⟩
  rw [e14]; exact h.2.2.2.2.2.2.2.1
/-- another T, where the node that was begun is done -/
theorem endS_v {E : Ev} {b T : Nat} (hb : b < 2) {g : Gs} {S : St} {n how : Nat} {a : Ans} (hn : n < 32) (h5 : gDn g n = 5) (h0 : ¬ how = 0) (hh : how ≤ 5) (h : RC E b T g S) : ∃ S', m_X2_end b S (nI n) (nI how) (enA a) = some (enA a, S') ∧ RC E b T (sEnd g n how a) S' ∧ S'.1 (9 + 2 * b) = S.1 (9 + 2 * b) := by
  obtain ⟨f, h1, h2, h3, h4, h6⟩ := end_v hb (S := S) (how := how) (a := enA a) hn
  obtain ⟨c0, c1, c2, c3, c4, c5, c12, c14, c15, c16, c17, c8⟩ := h
  refine ⟨_, h1, ⟨?_, ?_, ?_, ?_, ?_, ?_, ?_, ?_, ?_, ?_, ?_, ?_⟩, tb_n (by omega)⟩
  · rw [tb_n (by omega)]; exact c0
  · rw [tb_n (by omega)]; exact c1
  · rw [tb_n (by omega)]; exact c2
  · rw [tb_n (by omega), tb_n (by omega), uG_end h5 h0]; exact c3
  · rw [tb_n (by omega)]; exact c4
  · rw [tb_n (by omega)]; exact c5
  · rw [tb_n (by omega)]; exact c12
  · rw [tb_n (by omega)]; exact c14
  · rw [tb_n (by omega)]; exact c15
  · rw [tb_n (by omega)]; exact c16
  · rw [tb_n (by omega)]; exact c17
  · rw [tb_s]; exact SeeT_end c8 hh h2 h3 h4 h6
theorem KepT_clr {K : Nat → Option Kp} {f : Nat → Int32} (h : KepT K f) {n : Nat} : KepT (fu K n none) (clrF f (n * 53) 53 (-1)) := fun m hm p hp => by
  unfold clrF
  by_cases h1 : m = n
  · subst h1; rw [if_pos (by omega), fu_s]; rfl
  · rw [if_neg (by omega), fu_n h1]; exact h m hm p hp
theorem clr2_v {S : St} {n : Nat} (hn : n < 32) : m_X4_clear 2 S (nI n) = some (tb S 2 (clrF (S.1 2) (n * 53) 53 (-1))) := clear_v (k := 2) (by omega) (S := S) (r := n) hn
theorem RC_K {E : Ev} {b T : Nat} (hb : b < 2) {g : Gs} {S : St} {K : Nat → Option Kp} {f : Nat → Int32} (h : RC E b T g S) (hK : KepT K f) : RC E b T (sK g K) (tb S 2 f) := by
  obtain ⟨c0, c1, c2, c3, c4, c5, c12, c14, c15, c16, c17, c8⟩ := h
  unfold RC
  rw [tb_n (by omega), tb_n (by omega), tb_s, tb_n (by omega), tb_n (by omega), tb_n (by omega), tb_n (by omega), tb_n (by omega), tb_n (by omega), tb_n (by omega), tb_n (by omega), tb_n (by omega), tb_n (by omega)]
  exact ⟨c0, c1, hK, c3, c4, c5, c12, c14, c15, c16, c17, SeeT_same c8 rfl rfl rfl⟩
theorem fail_v {E : Ev} {b T : Nat} (hb : b < 2) {g : Gs} {S : St} {n k : Nat} (hn : n < 32) (h5 : gDn g n = 5) (h : RC E b T g S) : ∃ S', m_X2_fail b S (nI n) (enA (.inl k)) = some (enA (afail n k g).1, S') ∧ RC E b T (afail n k g).2 S' ∧ S'.1 (9 + 2 * b) = S.1 (9 + 2 * b) := by
  unfold m_X2_fail
  rw [clr2_v hn, zo_e]
  obtain ⟨S', h1, h2, h3⟩ := endS_v hb (how := 4) (a := .inl k) hn (g := sK g (fu (gK g) n none)) h5 (by omega) (by omega) (RC_K hb h (KepT_clr h.2.2.1 (n := n)))
  rw [h1, zo2_e]
  exact ⟨S', rfl, h2, h3.trans (tb_n (by omega))⟩
theorem cpy_v {k k2 : Nat} {S : St} {r r2 : Nat} (hk : k < 12) (hk2 : k2 < 12) (hne : ¬ k2 = k) (hw : wdN k = 53) (hw2 : wdN k2 = 53) (hr : r < mnN k) (hr2 : r2 < mnN k2) : m_X4_copy k k2 S (nI r) (nI r2) = some (tb S k (cpyF (S.1 k) (S.1 k2) (r * 53) (r2 * 53) 53)) := by
  have h := copy_v hk hk2 hne (S := S) hr hr2 (w := 53) (by rw [hw, hw2]; rfl)
  rwa [hw, hw2] at h
theorem cpyF_in {f g : Nat → Int32} {a b p : Nat} (hp : p < 53) : cpyF f g a b 53 (a + p) = g (b + p) := by
  unfold cpyF
  rw [if_pos (by omega), Nat.add_sub_cancel_left]
theorem cpyF_out {f g : Nat → Int32} {a b i : Nat} (h : i < a ∨ a + 53 ≤ i) : cpyF f g a b 53 i = f i := by
  unfold cpyF
  rw [if_neg (by omega)]
theorem keep_v {E : Ev} {b T : Nat} (hb : b < 2) {g : Gs} {S : St} {n how v f : Nat} {r : Rul} {rs : List Rd} (hn : n < 32) (h5 : gDn g n = 5) (h0 : ¬ how = 0) (hh : how ≤ 5) (h : RC E b T g S) (hF : FrR S (9 + 2 * b) n r rs) (hv : S.1 (9 + 2 * b) (n * 53 + 50) = nI v) (hf : S.1 (9 + 2 * b) (n * 53 + 51) = nI f) :
    ∃ S', m_X2_keep b S (nI n) (nI how) = some (enA (akeep n how r rs v f g).1, S') ∧ RC E b T (akeep n how r rs v f g).2 S' ∧ S'.1 (9 + 2 * b) = S.1 (9 + 2 * b) := by
  have e53 : wdN (9 + 2 * b) = 53 := by rcases lt2 hb with rfl | rfl <;> rfl
  have em : mnN (9 + 2 * b) = 32 := by rcases lt2 hb with rfl | rfl <;> rfl
  unfold m_X2_keep
  rw [cpy_v (by omega) (by omega) (by omega) rfl e53 hn (by rw [em]; exact hn), zo_e, tg_2 hn (by omega), zo_e, tb_s, cpyF_in (by omega), hv]
  have hK : KepT (fu (gK g) n (some (r, rs, v, f))) (cpyF (S.1 2) (S.1 (9 + 2 * b)) (n * 53) (n * 53) 53) := fun m hm p hp => by
    by_cases h1 : m = n
    · subst h1
      rw [fu_s, cpyF_in (by omega)]
      show _ = rowC r (m % 2) rs (nI v) (nI f) (-1) p
      by_cases h2 : p < 50
      · rw [hF p h2]
        unfold rowC
        rw [if_pos h2, if_pos h2]
      · by_cases h3 : p = 50
        · subst h3; exact hv
        · have h4 : p = 51 := by omega
          subst h4; exact hf
    · rw [fu_n h1, cpyF_out (by omega)]
      exact h.2.2.1 m hm p hp
  obtain ⟨S', h1, h2, h3⟩ := endS_v hb (how := how) (a := .inr v) hn (g := sK g (fu (gK g) n (some (r, rs, v, f)))) h5 h0 hh (RC_K hb h hK)
  have h1 : m_X2_end b (tb S 2 (cpyF (S.1 2) (S.1 (9 + 2 * b)) (n * 53) (n * 53) 53)) (nI n) (nI how) (nI v) = some (nI v, S') := h1
  rw [h1, zo2_e]
  exact ⟨S', rfl, h2, h3.trans (tb_n (by omega))⟩
theorem leak_v {E : Ev} {b T : Nat} (hb : b < 2) {g : Gs} {S : St} {n : Nat} {r : Rul} {rs : List Rd} (hn : n < 32) (h : RC E b T g S) (hF : FrR S (9 + 2 * b) n r rs) (hr : RulOK r) : ∃ S', m_X2_noteLeak b S (nI n) = some S' ∧ RC E b T (aleak n r g) S' ∧ S'.1 (9 + 2 * b) = S.1 (9 + 2 * b) := by
  unfold m_X2_noteLeak aleak
  rw [tg_f hb hn (by omega), zo_e, FrR_ru hF (by omega), show ruC r 1 = nI (kd r) from rfl]
  by_cases h4 : kd r = 4
  · rw [if_pos (by rw [h4]), sees_v hb hn hF hr, zo_e, div_nI (by omega) (by omega) (by omega)]
    by_cases h6 : sees r (nb r % 20) = true
    · rw [if_pos h6, if_neg (by decide), if_neg (fun q => q.2 h6)]
      exact ⟨S, rfl, h, rfl⟩
    · rw [if_neg h6, if_pos (by decide), if_pos ⟨h4, h6⟩, zb_e]
      refine ⟨_, rfl, ?_, ?_⟩
      · obtain ⟨c0, c1, c2, c3, c4, c5, c12, c14, c15, c16, c17, c8⟩ := h
        rw [wi_tb]
        unfold RC
        rw [tb_n (by omega), tb_n (by omega), tb_n (by omega), tb_n (by omega), tb_n (by omega), tb_n (by omega), tb_n (by omega), tb_n (by omega), tb_n (by omega), tb_n (by omega), tb_n (by omega), tb_s, tb_n (by omega)]
        refine ⟨c0, c1, c2, c3, c4, c5, c12, c14, c15, c16, ?_, SeeT_same c8 rfl rfl rfl⟩
        rw [pk_us]
        show S.1 (17 + 2 * b) 0 ||| _ = gLk g ||| _
        rw [c17]
      · rw [wi_tb, tb_n (by omega)]
  · rw [if_neg (nI_ne (by have := hr.1; omega) (by omega) h4), if_neg (fun q => h4 q.1)]
    exact ⟨S, rfl, h, rfl⟩
/-- a fetch: found, or not, or gone as it was told -/
theorem RC_cac {E : Ev} {b T c : Nat} (hb : b < 2) {g : Gs} {S : St} {L : List En} {f : Nat → Int32} (h : RC E b T g S) (hc : S.1 13 0 = nI c) (hu : c + uG g ≤ T) (hC : CacT L c f) : RC E b T (sL g L) (tb S 3 f) := by
  obtain ⟨c0, c1, c2, c3, c4, c5, c12, c14, c15, c16, c17, c8⟩ := h
  unfold RC
  rw [tb_n (by omega), tb_n (by omega), tb_n (by omega), tb_s, tb_n (by omega), tb_n (by omega), tb_n (by omega), tb_n (by omega), tb_n (by omega), tb_n (by omega), tb_n (by omega), tb_n (by omega), tb_n (by omega)]
  exact ⟨c0, c1, c2, ⟨c, hC, hc, hu⟩, c4, c5, c12, c14, c15, c16, c17, SeeT_same c8 rfl rfl rfl⟩
def FETo (E : Ev) (b T n : Nat) (r : Rul) (rs : List Rd) (g : Gs) (S : St) (o : Option En) : Prop := match o with
  | none => m_X2_isFetched b S (nI n) = some (nI 0, S)
  | some e => (0 < gVn g → ∃ S', m_X2_isFetched b S (nI n) = some (nI 0, S') ∧ RC E b T (sL (sVn g (gVn g - 1)) ((gL g).filter (fun e => !sameK r (n % 2) rs e))) S' ∧ S'.1 (9 + 2 * b) = S.1 (9 + 2 * b)) ∧
    (¬ 0 < gVn g → ∃ f, m_X2_isFetched b S (nI n) = some (nI 1, tb S (9 + 2 * b) f) ∧ (∀ i, i < n * 53 ∨ n * 53 + 53 ≤ i → f i = S.1 (9 + 2 * b) i) ∧ (∀ p, p < 50 → f (n * 53 + p) = S.1 (9 + 2 * b) (n * 53 + p)) ∧ f (n * 53 + 50) = nI e.2.2.2.1 ∧ f (n * 53 + 51) = nI e.2.2.2.2)
theorem fet_v {E : Ev} {b T : Nat} (hb : b < 2) {g : Gs} {S : St} {n : Nat} {r : Rul} {rs : List Rd} (hn : n < 32) (hg : WG g) (h : RC E b T g S) (hF : FrR S (9 + 2 * b) n r rs) (hr : RulOK r) (hx : ∀ x ∈ rs, RdOK x) (hl : rs.length ≤ 5) : FETo E b T n r rs g S ((gL g).find? (sameK r (n % 2) rs)) := by
  obtain ⟨k1, k2, k3, k4, k5, k6, k7, k8, k9, k10, k11⟩ := hg
  obtain ⟨c, ⟨M, hM1, hM⟩, hc, hu⟩ := h.2.2.2.1
  have hf := find_v hb hn hM1 hM hF hr hx hl k2 k4
  unfold FETo m_X2_isFetched
  cases ho : (gL g).find? (sameK r (n % 2) rs) with
  | none =>
    rw [ho] at hf
    have hf : m_X0_find (9 + 2 * b) S (nI n) = some (-1) := hf
    show zo (m_X0_find (9 + 2 * b) S (nI n)) _ = _
    rw [hf, zo_e, if_pos rfl]
  | some e =>
    rw [ho] at hf
    obtain ⟨m, m1, m2, m3, m4⟩ := hf
    have m5 := (hM.1 m m1).1
    have c12 := h.2.2.2.2.2.2.1
    rw [m4, zo_e, if_neg (nI_n1 (by omega))]
    rw [rs_v, c12]
    constructor
    · intro hv
      rw [if_neg (nI_nle hv (by omega)), zb_e]
      have hcl := clear_v (k := 3) (by omega) (S := wi S 12 0 (nI (gVn g) - nI 1)) (r := m.1) m5
      have hcl : m_X4_clear 3 (wi S 12 0 (nI (gVn g) - nI 1)) (nI m.1) = some (tb (wi S 12 0 (nI (gVn g) - nI 1)) 3 (clrF (S.1 3) (m.1 * 53) 53 (-1))) := hcl
      rw [hcl, zo_e]
      refine ⟨_, rfl, ?_, ?_⟩
      · have h2 : RC E b T (sVn g (gVn g - 1)) (wi S 12 0 (nI (gVn g) - nI 1)) := by
          obtain ⟨d0, d1, d2, d3, d4, d5, d12, d14, d15, d16, d17, d8⟩ := h
          rw [wi_tb]
          unfold RC
          rw [tb_n (by omega), tb_n (by omega), tb_n (by omega), tb_n (by omega), tb_n (by omega), tb_n (by omega), tb_n (by omega), tb_s, tb_n (by omega), tb_n (by omega), tb_n (by omega), tb_n (by omega), tb_n (by omega)]
          refine ⟨d0, d1, d2, d3, d4, d5, ?_, d14, d15, d16, d17, SeeT_same d8 rfl rfl rfl⟩
          rw [pk_us, pk_sub (by omega)]
          rfl
        refine RC_cac hb h2 hc hu ⟨_, ?_, CacM_clr hM m1⟩
        rw [← hM1, List.filter_map]
        congr 1
        refine List.filter_congr (fun x hx2 => ?_)
        show decide (¬ x.1 = m.1) = !sameK r (n % 2) rs x.2.2
        by_cases h3 : x.1 = m.1
        · have h4 : x = m := CacM_slot hM hx2 m1 h3
          subst h4
          have h5 : sameK r (n % 2) rs x.2.2 = true := dcP_t.mpr (by rw [m2]; exact m3)
          rw [h5, decide_eq_false (fun q => q h3)]; rfl
        · have h5 : sameK r (n % 2) rs x.2.2 = false := dcP_f.mpr (fun q => h3 (by
            have hPm : M.Pairwise (fun a b => ¬ keyE a.2.2 = keyE b.2.2) := by
              rw [← hM1, List.pairwise_map] at k4
              exact k4
            rw [pw_uniq (f := fun m : Sl => keyE m.2.2) hPm hx2 m1 (by
              show keyE x.2.2 = keyE m.2.2
              rw [m2, m3]; exact q)]))
          rw [h5, decide_eq_true h3]; rfl
      · rw [tb_n (by omega), wi_tb, tb_n (by omega)]
    · intro hv
      have e50 : S.1 3 (m.1 * 53 + 50) = nI e.2.2.2.1 := by
        rw [hM.2.2.1 m m1 50 (by omega), ← m2]
        rfl
      have e51 : S.1 3 (m.1 * 53 + 51) = nI e.2.2.2.2 := by
        rw [hM.2.2.1 m m1 51 (by omega), ← m2]
        rfl
      rw [if_pos (by rw [show gVn g = 0 by omega]; decide), tg_3 m5 (by omega), zo_e, ts_f hb hn (by omega), zo_e, tg_3 m5 (by omega), zo_e, tb_n (by omega), ts_f hb hn (by omega), zo_e, tb_tb, tb_s, e50, e51]
      refine ⟨_, rfl, fun i hi => ?_, fun p hp => ?_, ?_, pk_us⟩
      · rw [pk_un (by omega), pk_un (by omega)]
      · rw [pk_un (by omega), pk_un (by omega)]
      · rw [pk_un (by omega), pk_us]
