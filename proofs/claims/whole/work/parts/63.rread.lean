/-! the reference reads one input -/
theorem expIn_at {r : Rul} {cf i : Nat} : (expIn r cf)[i]? = if kd r = 2 then (if i = 0 then ((ip r)[cf]?).map (fun q => (cf, q.1, q.2)) else none) else ((ip r)[i]?).map (fun q => (i, q.1, q.2)) := by
  unfold expIn
  by_cases h : kd r = 2
  · rw [if_pos h, if_pos h]
    cases hq : (ip r)[cf]? with
    | none =>
      show ([] : List (Nat × Nat × Nat))[i]? = _
      rw [List.getElem?_nil]
      split <;> rfl
    | some q =>
      show [(cf, q.1, q.2)][i]? = _
      by_cases hi : i = 0
      · subst hi; rfl
      · rw [if_neg hi, List.getElem?_eq_none (by simp; omega)]
  · rw [if_neg h, if_neg h, List.getElem?_mapIdx]
theorem rnode_v {S : St} {n w y : Nat} (hn : n < 32) (hw : w ≤ 3) : m_X7_nodeOf S (nI w) (nI y) (irm (nI n) (nI 2)) = some (nI (nR n w y)) := by
  unfold m_X7_nodeOf nR
  rw [irm_nI (by omega) (by omega) (by omega)]
  by_cases h : w = 3
  · subst h
    rw [if_pos rfl, if_pos rfl, pk_sub (by omega), pk_mul, nI_add]
  · rw [if_neg (nI_ne (by omega) (by omega) h), if_neg h, pk_mul, nI_add]
theorem rd_slot {S : St} {n i : Nat} {r : Rul} {acc : List Rd} (hn : n < 32) (hr : RulOK r) (hM : RrM S (n / 2) r) (hI : IP n i acc S) (hi : i ≤ 5) :
    ((expIn r (n % 2))[i]? = none → m_X7_readsOne S (nI n) = zo (m_X7_endsReading S (nI n)) fun s => some s) ∧
    ∀ s w y, (expIn r (n % 2))[i]? = some (s, w, y) → m_X7_readsOne S (nI n) = m_X7_readsOne_J63 (nI (n / 2)) (nI s) S (nI n) (nI 0) ∧ (ip r)[s]? = some (w, y) := by
  obtain ⟨i1, i2, i3, i4⟩ := hI
  obtain ⟨m1, m2, m3, m4, m5, m6⟩ := hM
  have r1 := hr.1
  have r6 := hr.2.2.2.2.2.1
  rw [expIn_at]
  unfold m_X7_readsOne m_X7_readsOne_J42 m_X7_readsOne_J62
  rw [div_nI (by omega) (by omega) (by omega), zb_e, zg_in (by omega) (by omega), ri_n (by omega), m1, zb_e, if_neg (nI_n1 (by omega))]
  have c2 : (nI (kd r) = nI 2) = (kd r = 2) := eq_nI (by omega) (by omega)
  simp only [c2, zg_in hn (show 32 ≤ 2147483648 by omega), ri_n (show n < 2147483648 by omega), i2]
  have j1 : ∀ s, m_X7_readsOne_J63 (nI (n / 2)) s S (nI n) (nI 1) = zo (m_X7_endsReading S (nI n)) fun s => some s := fun s => by
    unfold m_X7_readsOne_J63
    rw [if_neg (by decide)]
  have j0 : ∀ s, s ≤ 5 → (ip r).length ≤ s → m_X7_readsOne_J63 (nI (n / 2)) (nI s) S (nI n) (nI 0) = zo (m_X7_endsReading S (nI n)) fun s => some s := fun s hs hs2 => by
    unfold m_X7_readsOne_J63
    rw [if_pos (by decide), zg_in (by omega) (by omega), ri_n (by omega), m5, if_neg (by rw [lt_nI (by omega) (by omega)]; omega)]
  by_cases h2 : kd r = 2
  · simp only [if_pos h2]
    rw [irm_nI (by omega) (by omega) (by omega)]
    by_cases h3 : i = 0
    · subst h3
      rw [if_pos rfl, if_pos (by decide)]
      refine ⟨fun q => j0 _ (by omega) ?_, fun s w y q => ?_⟩
      · cases hq : (ip r)[n % 2]? with
        | none => exact List.getElem?_eq_none_iff.mp hq
        | some x => rw [hq] at q; cases q
      · cases hq : (ip r)[n % 2]? with
        | none => rw [hq] at q; cases q
        | some x => rw [hq] at q; cases q; exact ⟨rfl, hq⟩
    · rw [if_neg h3, if_neg (nI_nle (by omega) (by omega)), j1]
      exact ⟨fun _ => rfl, fun s w y q => by cases q⟩
  · simp only [if_neg h2]
    refine ⟨fun q => j0 _ (by omega) ?_, fun s w y q => ?_⟩
    · cases hq : (ip r)[i]? with
      | none => exact List.getElem?_eq_none_iff.mp hq
      | some x => rw [hq] at q; cases q
    · cases hq : (ip r)[i]? with
      | none => rw [hq] at q; cases q
      | some x => rw [hq] at q; cases q; exact ⟨rfl, hq⟩
/-- the four roads behind a slot -/
theorem rd_body {S : St} {n s w y : Nat} {r : Rul} (hn : n < 32) (hr : RulOK r) (hM : RrM S (n / 2) r) (hs : (ip r)[s]? = some (w, y)) :
    (w = 0 → S.1 0 y = -1 → m_X7_readsOne_J63 (nI (n / 2)) (nI s) S (nI n) (nI 0) = zo (m_X7_finishes S (nI n) (-3) (nI 4)) fun s => some s) ∧
    (w = 0 → ¬ S.1 0 y = -1 → m_X7_readsOne_J63 (nI (n / 2)) (nI s) S (nI n) (nI 0) = zo (m_X7_notes S (nI n) (nI s) (nI 0) (Int32.toInt64 (S.1 0 y))) fun S1 => some (wi S1 37 n (S1.1 37 n + nI 1))) ∧
    (w = 1 → m_X7_readsOne_J63 (nI (n / 2)) (nI s) S (nI n) (nI 0) = zo (m_X7_folder S (nI y)) fun x => zo (m_X7_notes S (nI n) (nI s) (nI 0) x) fun S1 => some (wi S1 37 n (S1.1 37 n + nI 1))) ∧
    (¬ w = 0 → ¬ w = 1 → m_X7_readsOne_J63 (nI (n / 2)) (nI s) S (nI n) (nI 0) =
      if S.1 29 (nR n w y) = 0 then (zo (m_X7_pushes S (nI (nR n w y))) fun s => some s)
      else if S.1 29 (nR n w y) = nI 1 then (zo (m_X7_finishes S (nI n) (-4) (nI 4)) fun s => some s)
      else if 0 ≤ S.1 30 (nR n w y) then (zo (m_X7_notes S (nI n) (nI s) (nI 0) (Int32.toInt64 (S.1 30 (nR n w y)))) fun S1 => some (wi S1 37 n (S1.1 37 n + nI 1)))
      else (zo (m_X7_finishes S (nI n) (S.1 30 (nR n w y)) (nI 4)) fun s => some s)) := by
  obtain ⟨m1, m2, m3, m4, m5, m6⟩ := hM
  have r6 := hr.2.2.2.2.2.1
  obtain ⟨h1, h2, h3⟩ := hr.get hs
  have h2 : w < 4 := h2
  have h3 : y < lim w := h3
  have h4 := lim_le w
  have hsl : s < (ip r).length := (List.getElem?_eq_some_iff.mp hs).1
  obtain ⟨e6, e7⟩ := m6 s _ hs
  unfold m_X7_readsOne_J63
  rw [if_pos (by decide), zg_in (by omega) (by omega), ri_n (by omega), m5, if_pos (by rw [lt_nI (by omega) (by omega)]; exact hsl)]
  simp only [pk_mul, nI_add]
  rw [zg_in (show 4 * (n / 2) + s < 64 by omega) (by omega), ri_n (by omega), e6, zb_e, zg_in (show 4 * (n / 2) + s < 64 by omega) (by omega), ri_n (by omega), e7, zb_e]
  simp only [tn (show n < 2147483648 by omega), ri_n (show n < 2147483648 by omega), zg_in hn (show 32 ≤ 2147483648 by omega), zb_e]
  refine ⟨fun q e => ?_, fun q e => ?_, fun q => ?_, fun q0 q1 => ?_⟩
  · subst q
    have h3 : y < 20 := h3
    rw [if_pos (by decide), if_pos (by decide), zg_in h3 (by omega), ri_n (by omega), if_pos e]
  · subst q
    have h3 : y < 20 := h3
    rw [if_pos (by decide), if_pos (by decide), zg_in h3 (by omega), ri_n (by omega), if_neg e, if_pos (by decide), zg_in h3 (by omega)]
  · subst q
    rw [if_pos (by decide), if_neg (by decide), if_neg (by decide)]
  · have h3 : y < 16 := by rwa [lim_16 q0 q1] at h3
    have ho := nR_lt (n := n) (w := w) h3
    rw [if_neg (by rw [le_nI (by omega) (by omega)]; omega), rnode_v hn (by omega), zo_e, zg_in ho (by omega), ri_n (by omega)]
    by_cases c0 : S.1 29 (nR n w y) = 0
    · rw [if_pos c0, if_pos c0]
    · rw [if_neg c0, if_neg c0, zg_in ho (by omega)]
      by_cases c1 : S.1 29 (nR n w y) = nI 1
      · rw [if_pos c1, if_pos c1]
      · rw [if_neg c1, if_neg c1, zg_in ho (by omega), ri_n (by omega)]
/-! the read phase -/
def AC (E : Ev) (x : Rd) : Prop := RdGd x ∧ (x.2.1 = 1 → x.2.2.2 = fvals (eφ E) x.2.2.1)
def amid (E : Ev) (L : Nat → Gs → Ans × Gs) (n : Nat) (FL : Nat → Gs → Ans × Gs) (EN : List Rd → Gs → Ans × Gs) (l : List (Nat × Nat × Nat)) (acc : List Rd) (g : Gs) : Ans × Gs :=
  match ardl E L n l acc g with
  | (.inl k, g1) => FL k g1
  | (.inr a, g1) => EN a g1
/-- a nested look of the reference -/
def RLK (R : Gs → St → Prop) (L : Nat → Gs → Ans × Gs) (f : Nat) : Prop :=
  (∀ m g, gDn g m = 5 → L m g = (.inl 4, g)) ∧ (∀ m g, m < 32 → ¬ gDn g m = 0 → ¬ gDn g m = 5 → 32 ≤ bG g + f → L m g = (gAn g m, g)) ∧
  ∀ m g S, m < 32 → WG g → R g S → gDn g m = 0 → 32 ≤ bG g + f → (¬ gDn (L m g).2 m = 0 ∧ ¬ gDn (L m g).2 m = 5 ∧ gAn (L m g).2 m = (L m g).1) ∧
    ∃ S1 k S', m_X7_pushes S (nI m) = some S1 ∧ Steps k S1 S' ∧ R (L m g).2 S' ∧ k + 30 * uG (L m g).2 ≤ 30 * uG g ∧ KP (bG g) m g S S'
def FLS (R : Gs → St → Prop) (n : Nat) (FL : Nat → Gs → Ans × Gs) : Prop := ∀ k g S, 2 ≤ k ∧ k ≤ 5 → R g S → gDn g n = 5 → uG (FL k g).2 = uG g ∧ ∃ S', m_X7_finishes S (nI n) (enA (.inl k)) (nI 4) = some S' ∧ R (FL k g).2 S' ∧ ∀ h g0, KP h n g0 S S'
def ENS (R : Gs → St → Prop) (E : Ev) (n : Nat) (r : Rul) (EN : List Rd → Gs → Ans × Gs) : Prop := ∀ acc g S i, WG g → R g S → gDn g n = 5 → IP n i acc S → acc.map pj = expIn r (n % 2) → (∀ x ∈ acc, AC E x) → uG (EN acc g).2 = uG g ∧ ∃ S', m_X7_endsReading S (nI n) = some S' ∧ R (EN acc g).2 S' ∧ ∀ h g0, KP h n g0 S S'
theorem IP_KP {n i o h : Nat} {acc : List Rd} {g : Gs} {S S' : St} (hI : IP n i acc S) (hK : KP h o g S S') (hn : n < 32) (hne : ¬ n = o) (h5 : gDn g n = 5) (hl : acc.length ≤ 5) : IP n i acc S' := by
  obtain ⟨a1, a2, a3, a4⟩ := hI
  obtain ⟨-, b2, b3, b4, b5⟩ := hK.1 n hn hne h5
  refine ⟨b2.trans a1, b3.trans a2, b4.trans a3, fun j x hx => ?_⟩
  have hj := (List.getElem?_eq_some_iff.mp hx).1
  obtain ⟨c1, c2, c3⟩ := b5 j (by omega)
  obtain ⟨d1, d2, d3⟩ := a4 j x hx
  exact ⟨c1.trans d1, c2.trans d2, c3.trans d3⟩
theorem drop_cons {α : Type} {l : List α} {i : Nat} {q : α} {t : List α} (h : l.drop i = q :: t) : l[i]? = some q ∧ l.drop (i + 1) = t ∧ l.take (i + 1) = l.take i ++ [q] ∧ i < l.length := by
  have hi : i < l.length := by
    refine Classical.byContradiction (fun hc => ?_)
    rw [List.drop_of_length_le (by omega)] at h
    cases h
  rw [List.drop_eq_getElem_cons hi] at h
  obtain ⟨h1, h2⟩ := List.cons.inj h
  refine ⟨by rw [List.getElem?_eq_getElem hi, h1], h2, ?_, hi⟩
  rw [List.take_succ, List.getElem?_eq_getElem hi, h1]
  rfl
theorem rread {R : Gs → St → Prop} {E : Ev} (hE : EvOK E) (hR : RCL R E) {L : Nat → Gs → Ans × Gs} (hL : LOK L) {f : Nat} (hLK : RLK R L f) {n h : Nat} {r : Rul} (hn : n < 32) (hρ : eρ E (n / 2) = some r) {FL : Nat → Gs → Ans × Gs} {EN : List Rd → Gs → Ans × Gs} (hFL : FLS R n FL) (hEN : ENS R E n r EN) :
    ∀ (l : List (Nat × Nat × Nat)) (i : Nat) (acc : List Rd) (g : Gs) (S : St), (expIn r (n % 2)).drop i = l → acc.map pj = (expIn r (n % 2)).take i → i ≤ 5 → (∀ x ∈ acc, AC E x) → WG g → R g S → gDn g n = 5 → 32 ≤ bG g + f → bG g = h + 1 → S.1 35 h = nI n → IP n i acc S →
    ∃ k S', Steps k S S' ∧ R (amid E L n FL EN l acc g).2 S' ∧ k + 30 * uG (amid E L n FL EN l acc g).2 ≤ 30 * uG g + (2 * l.length + 1) ∧ KP h n g S S' := by
  have hr := hE.2 _ _ hρ
  have hx4 := expIn_le hr (n % 2)
  intro l
  induction l with
  | nil =>
    intro i acc g S h1 h2 hi5 h3 h4 h5 h6 h7 h8 h9 h10
    have hb := bG_le g
    obtain ⟨a1, a2, a3, a4⟩ := hR.1 g S h5
    have hlen : (expIn r (n % 2)).length ≤ i := List.drop_eq_nil_iff.mp h1
    have hnone : (expIn r (n % 2))[i]? = none := List.getElem?_eq_none hlen
    have e1 := (rd_slot hn hr ((a2 (n / 2) (by omega)).2 r hρ) h10 hi5).1 hnone
    rw [List.take_of_length_le hlen] at h2
    obtain ⟨u1, S', b1, b2, b3⟩ := hEN acc g S i h4 h5 h6 h10 h2 h3
    have b1' : m_X7_readsOne S (nI n) = some S' := by rw [e1, b1, zo_e]
    have am : amid E L n FL EN [] acc g = EN acc g := rfl
    rw [am]
    refine ⟨1, S', step_r (by omega) hn (by rw [a4, h8]) h9 h10.1 b1', b2, ?_, b3 h g⟩
    rw [u1]
    simp only [List.length_nil]
    omega
  | cons q t ih =>
    intro i acc g S h1 h2 hi5 h3 h4 h5 h6 h7 h8 h9 h10
    have hb := bG_le g
    obtain ⟨s, w, y⟩ := q
    obtain ⟨d1, d2, d3, d4⟩ := drop_cons h1
    have hacc : acc.length ≤ 4 := by
      have := congrArg List.length h2
      rw [List.length_map, List.length_take] at this
      omega
    have hacc2 : acc.length ≤ i := by
      have := congrArg List.length h2
      rw [List.length_map, List.length_take] at this
      omega
    obtain ⟨x1, x2, x3, x4⟩ := expIn_mem hr (List.mem_of_getElem? d1)
    have x1 : s < 4 := x1
    have x3 : w < 4 := x3
    have x4 : y < lim w := x4
    have rd : ∀ (g2 : Gs) (S2 : St), R g2 S2 → IP n i acc S2 → m_X7_readsOne S2 (nI n) = m_X7_readsOne_J63 (nI (n / 2)) (nI s) S2 (nI n) (nI 0) ∧ RrM S2 (n / 2) r ∧ (ip r)[s]? = some (w, y) := fun g2 S2 q1 q2 => by
      have q3 := ((hR.1 g2 S2 q1).2.1 (n / 2) (by omega)).2 r hρ
      obtain ⟨q4, q5⟩ := (rd_slot hn hr q3 q2 hi5).2 s w y d1
      exact ⟨q4, q3, q5⟩
    -- a value is noted, then the rest is read
    have nx : ∀ (g2 : Gs) (S2 : St) (vs : List (Option Nat)) (v : Int64), WG g2 → R g2 S2 → gDn g2 n = 5 → 32 ≤ bG g2 + f → bG g2 = h + 1 → S2.1 35 h = nI n → IP n i acc S2 → AC E (s, w, y, vs) → v = encV (s, w, y, vs) →
        m_X7_readsOne S2 (nI n) = (zo (m_X7_notes S2 (nI n) (nI s) (nI 0) v) fun S1 => some (wi S1 37 n (S1.1 37 n + nI 1))) →
        ∃ k S', Steps k S2 S' ∧ R (amid E L n FL EN t (acc ++ [(s, w, y, vs)]) g2).2 S' ∧ k + 30 * uG (amid E L n FL EN t (acc ++ [(s, w, y, vs)]) g2).2 ≤ 30 * uG g2 + (2 * t.length + 2) ∧ KP h n g2 S2 S' := by
      intro g2 S2 vs v q1 q2 q3 q4 q5 q6 q7 q8 q9 q10
      obtain ⟨S3, n1, n2, n3⟩ := note_go (x := (s, w, y, vs)) (p2 := nI s) (p3 := nI 0) (p4 := v) hn (by omega) q7 rfl (by
        show nI 0 = nI (if s = 4 then y else 0)
        rw [if_neg (by omega)]) q9
      obtain ⟨n4, n5⟩ := ats_go n3
      have e37 : S3.1 37 n + nI 1 = nI (i + 1) := by rw [n3.2.1, nI_add]
      rw [n1, zo_e, e37] at q10
      have hd := DIF_tr n2 n4
      have hR3 := hR.2 g2 S2 _ n q2 q3 hd
      have hst := step_r (by omega) hn (by rw [(hR.1 g2 S2 q2).2.2.2, q5]) q6 q7.1 q10
      obtain ⟨k, S', r1, r2, r3, r4⟩ := ih (i + 1) (acc ++ [(s, w, y, vs)]) g2 _ d2 (by rw [List.map_append, h2, d3]; rfl) (by omega) (fun x hx => by
        rcases List.mem_append.mp hx with z | z
        · exact h3 x z
        · rw [List.mem_singleton.mp z]; exact q8) q1 hR3 q3 q4 q5 (by rw [DIF_lo hd (by omega)]; exact q6) n5
      refine ⟨1 + k, S', Steps_tr hst r1, r2, by omega, KP_tr (KP_dif hd) r4 (fun _ _ z => z)⟩
    -- a failure
    have fl : ∀ (g2 : Gs) (S2 : St) (k2 : Nat) (v : Int32), R g2 S2 → gDn g2 n = 5 → bG g2 = h + 1 → S2.1 35 h = nI n → IP n i acc S2 → (2 ≤ k2 ∧ k2 ≤ 5) → v = enA (.inl k2) →
        m_X7_readsOne S2 (nI n) = (zo (m_X7_finishes S2 (nI n) v (nI 4)) fun s => some s) →
        ∃ k S', Steps k S2 S' ∧ R (FL k2 g2).2 S' ∧ k + 30 * uG (FL k2 g2).2 ≤ 30 * uG g2 + (2 * t.length + 2) ∧ KP h n g2 S2 S' := by
      intro g2 S2 k2 v q2 q3 q5 q6 q7 q8 q9 q10
      obtain ⟨u1, S', b1, b2, b3⟩ := hFL k2 g2 S2 q8 q2 q3
      rw [q9, b1, zo_e] at q10
      refine ⟨1, S', step_r (by omega) hn (by rw [(hR.1 g2 S2 q2).2.2.2, q5]) q6 q7.1 q10, b2, by rw [u1]; omega, b3 h g2⟩
    by_cases w1 : w = 1
    · subst w1
      obtain ⟨e1, e2, e3⟩ := rd g S h5 h10
      have hy : y < 4 := x4
      have hf := folder_v (S := S) (k := y) hE.1 (hR.1 g S h5).1 hy
      have e4 := (rd_body hn hr e2 e3).2.2.1 rfl
      rw [hf, zo_e] at e4
      have am : amid E L n FL EN ((s, 1, y) :: t) acc g = amid E L n FL EN t (acc ++ [(s, 1, y, fvals (eφ E) y)]) g := by
        unfold amid
        rw [ardl, if_pos rfl]
      rw [am]
      obtain ⟨k, S', r1, r2, r3, r4⟩ := nx g S (fvals (eφ E) y) _ h4 h5 h6 h7 h8 h9 h10 ⟨⟨⟨by show s ≤ 4; omega, by show 1 ≤ 4; omega, by show y < 20; omega, by show (fvals (eφ E) y).length = _; rw [fvals_len]; rfl, fvals_lt hE.1 y⟩, fun q => absurd rfl q⟩, fun _ => rfl⟩ (by unfold encV; rw [if_pos rfl]) (e1.trans e4)
      exact ⟨k, S', r1, r2, by simp only [List.length_cons]; omega, r4⟩
    · by_cases w0 : w = 0
      · subst w0
        obtain ⟨e1, e2, e3⟩ := rd g S h5 h10
        have hy : y < 20 := x4
        have hφ := (hR.1 g S h5).1 y hy
        have am : amid E L n FL EN ((s, 0, y) :: t) acc g = match eφ E y with
            | none => FL 3 g
            | some v => amid E L n FL EN t (acc ++ [(s, 0, y, [some v])]) g := by
          unfold amid
          rw [ardl, if_neg (by show ¬ 0 = 1; omega), if_pos rfl]
          cases eφ E y <;> rfl
        rw [am]
        cases ho : eφ E y with
        | none =>
          rw [ho] at hφ
          have e4 := (rd_body hn hr e2 e3).1 rfl hφ
          obtain ⟨k, S', r1, r2, r3, r4⟩ := fl g S 3 (-3) h5 h6 h8 h9 h10 (by omega) rfl (e1.trans e4)
          exact ⟨k, S', r1, r2, by simp only [List.length_cons]; omega, r4⟩
        | some v =>
          rw [ho] at hφ
          have hv := hE.1 _ _ ho
          have hφ : S.1 0 y = nI v := hφ
          have e4 := (rd_body hn hr e2 e3).2.1 rfl (by rw [hφ]; exact nI_n1 (by omega))
          rw [hφ, nI_l (by omega)] at e4
          obtain ⟨k, S', r1, r2, r3, r4⟩ := nx g S [some v] _ h4 h5 h6 h7 h8 h9 h10 ⟨RdOK_1 (by omega) (by omega) (by omega) hy hv, fun q => absurd q (by show ¬ 0 = 1; omega)⟩ rfl (e1.trans e4)
          exact ⟨k, S', r1, r2, by simp only [List.length_cons]; omega, r4⟩
      · have hy : y < 16 := by rwa [lim_16 w0 w1] at x4
        have ho := nR_lt (n := n) (w := w) hy
        have am : amid E L n FL EN ((s, w, y) :: t) acc g = match (L (nR n w y) g).1 with
            | .inl k => FL k (L (nR n w y) g).2
            | .inr v => amid E L n FL EN t (acc ++ [(s, w, y, [some v])]) (L (nR n w y) g).2 := by
          unfold amid
          rw [ardl, if_neg (by exact w1), if_neg (by exact w0)]
          show (match (match (L (nR n w y) g).1 with
            | .inl k => (.inl k, (L (nR n w y) g).2)
            | .inr v => ardl E L n t (acc ++ [(s, w, y, [some v])]) (L (nR n w y) g).2 : (Nat ⊕ List Rd) × Gs) with
            | (.inl k, g1) => FL k g1
            | (.inr a, g1) => EN a g1) = _
          cases (L (nR n w y) g).1 <;> rfl
        rw [am]
        -- the other one is done
        have dn : ∀ (g2 : Gs) (S2 : St) (a : Ans), WG g2 → R g2 S2 → gDn g2 n = 5 → 32 ≤ bG g2 + f → bG g2 = h + 1 → S2.1 35 h = nI n → IP n i acc S2 → ¬ gDn g2 (nR n w y) = 0 → ¬ gDn g2 (nR n w y) = 5 → gAn g2 (nR n w y) = a →
            ∃ k S', Steps k S2 S' ∧ R (match a with
              | .inl k => FL k g2
              | .inr v => amid E L n FL EN t (acc ++ [(s, w, y, [some v])]) g2).2 S' ∧ k + 30 * uG (match a with
              | .inl k => FL k g2
              | .inr v => amid E L n FL EN t (acc ++ [(s, w, y, [some v])]) g2).2 ≤ 30 * uG g2 + (2 * t.length + 2) ∧ KP h n g2 S2 S' := by
          intro g2 S2 a q1 q2 q3 q4 q5 q6 q7 q8 q9 q10
          obtain ⟨e1, e2, e3⟩ := rd g2 S2 q2 q7
          have e4 := (rd_body hn hr e2 e3).2.2.2 w0 w1
          obtain ⟨-, -, -, l4⟩ := (hR.1 g2 S2 q2).2.2.1 (nR n w y) ho
          obtain ⟨l5, l6⟩ := l4 q8 q9
          rw [l5, if_neg (by decide), if_neg (by decide), l6, q10] at e4
          have ha : AOK a := by rw [← q10]; exact q1.2.2.2.2.2.2.2.1 _
          cases a with
          | inl k2 =>
            rw [if_neg (enA_l ha).2.1] at e4
            exact fl g2 S2 k2 _ q2 q3 q5 q6 q7 ha rfl (e1.trans e4)
          | inr v =>
            have ha : v < 1000 := ha
            rw [(enA_r ha).2.1, if_pos (enA_r ha).2.2, nI_l (by omega)] at e4
            exact nx g2 S2 [some v] _ q1 q2 q3 q4 q5 q6 q7 ⟨RdOK_1 (by omega) (by omega) w1 (by omega) ha, fun q => absurd q w1⟩ (by
              unfold encV
              rw [if_neg w1]
              rfl) (e1.trans e4)
        by_cases c5 : gDn g (nR n w y) = 5
        · rw [hLK.1 _ g c5]
          obtain ⟨e1, e2, e3⟩ := rd g S h5 h10
          have e4 := (rd_body hn hr e2 e3).2.2.2 w0 w1
          obtain ⟨-, -, l3, -⟩ := (hR.1 g S h5).2.2.1 (nR n w y) ho
          rw [l3 c5, if_neg (by decide), if_pos rfl] at e4
          obtain ⟨k, S', r1, r2, r3, r4⟩ := fl g S 4 (-4) h5 h6 h8 h9 h10 (by omega) rfl (e1.trans e4)
          exact ⟨k, S', r1, r2, by simp only [List.length_cons]; omega, r4⟩
        · by_cases c0 : gDn g (nR n w y) = 0
          · obtain ⟨e1, e2, e3⟩ := rd g S h5 h10
            have e4 := (rd_body hn hr e2 e3).2.2.2 w0 w1
            obtain ⟨-, l2, -, -⟩ := (hR.1 g S h5).2.2.1 (nR n w y) ho
            rw [l2 c0, if_pos (by decide)] at e4
            obtain ⟨⟨z1, z2, z3⟩, S1, k1, S2, p1, p2, p3, p4, p5⟩ := hLK.2.2 (nR n w y) g S ho h4 h5 c0 h7
            obtain ⟨v1, v2, v3⟩ := hL (nR n w y) g ho h4
            have hne : ¬ n = nR n w y := fun q => by rw [← q] at c5; exact c5 h6
            rw [p1, zo_e] at e4
            have st1 := step_r (by omega) hn (by rw [(hR.1 g S h5).2.2.2, h8]) h9 h10.1 (e1.trans e4)
            obtain ⟨k, S', r1, r2, r3, r4⟩ := dn (L (nR n w y) g).2 S2 (L (nR n w y) g).1 v1 p3 (AF_dn v2 h6) (by rw [bG_AF v2]; exact h7) (by rw [bG_AF v2]; exact h8) (by rw [p5.2.1 h (by omega)]; exact h9) (IP_KP h10 p5 hn hne h6 (by omega)) z1 z2 z3
            refine ⟨1 + k1 + k, S', Steps_tr (Steps_tr st1 p2) r1, r2, by simp only [List.length_cons]; omega, ?_⟩
            refine KP_tr (g' := (L (nR n w y) g).2) ⟨fun m hm hmn hd => p5.1 m hm (fun q => by subst q; exact c5 hd) hd, fun j hj => p5.2.1 j (by omega), p5.2.2⟩ r4 (fun m _ hd => AF_dn v2 hd)
          · rw [hLK.2.1 _ g ho c0 c5 h7]
            obtain ⟨k, S', r1, r2, r3, r4⟩ := dn g S (gAn g (nR n w y)) h4 h5 h6 h7 h8 h9 h10 c0 c5 rfl
            exact ⟨k, S', r1, r2, by simp only [List.length_cons]; omega, r4⟩
