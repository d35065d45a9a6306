/-! the reference compares what is kept -/
theorem RB_wy0 {E : Ev} {g : Gs} {S : St} {n v : Nat} (h5 : gDn g n = 5) (h : RB E g S) (hv : S.1 32 n = nI v) : RB E (sWy g n v) S := by
  obtain ⟨a1, a2, a3, a4, a5, a6, a7⟩ := h
  refine ⟨RR0_eq a1 rfl rfl (fun _ _ _ => rfl), a2, MaR_eq a3 rfl rfl rfl rfl rfl (fun _ _ _ _ => rfl), a4, a5, fun m hm => ?_, CoR_eq a7 rfl rfl (fun _ => rfl)⟩
  obtain ⟨d1, d2, d3⟩ := a6 m hm
  show (¬ gDn g m = 5 → _) ∧ _ = nI (fu (gWy g) n v m) ∧ (gDn g m = 0 → fu (gWy g) n v m = 0)
  by_cases h1 : m = n
  · subst h1
    rw [fu_s]
    exact ⟨d1, hv, fun q => by omega⟩
  · rw [fu_n h1]
    exact ⟨d1, d2, d3⟩
theorem RB_wy {E : Ev} {g : Gs} {S : St} {n v : Nat} (h5 : gDn g n = 5) (h : RB E g S) : RB E (sWy g n v) (wi S 32 n (nI v)) := by
  obtain ⟨a1, a2, a3, a4, a5, a6, a7⟩ := h
  have e : ∀ k i, ¬ k = 32 → (wi S 32 n (nI v)).1 k i = S.1 k i := fun k i hk => wi_ne (by omega)
  refine ⟨RR0_eq a1 rfl rfl (fun k i _ => e k i (by omega)), by rw [e _ _ (by omega)]; exact a2, MaR_eq a3 rfl rfl rfl rfl rfl (fun k i _ _ => e k i (by omega)), KeR_eq a4 (fun k i _ => e k i (by omega)) (fun _ _ _ => rfl), CaR_eq a5 (fun k i _ => e k i (by omega)) (fun _ => rfl), fun m hm => ?_, CoR_eq a7 rfl rfl (fun _ => e _ _ (by omega))⟩
  obtain ⟨d1, d2, d3⟩ := a6 m hm
  rw [e 31 m (by omega)]
  show (¬ gDn g m = 5 → _) ∧ _ = nI (fu (gWy g) n v m) ∧ (gDn g m = 0 → fu (gWy g) n v m = 0)
  by_cases h1 : m = n
  · subst h1
    rw [fu_s, wi_at]
    exact ⟨d1, rfl, fun q => by omega⟩
  · rw [fu_n h1, wi_ne (by omega)]
    exact ⟨d1, d2, d3⟩
def cAL (S : St) (n j : Nat) : St := wi S 37 n (nI (j + 1))
def cMS (S : St) (n j : Nat) : St := wi (wi (wi S 32 n (nI (10 + j))) 36 n (nI 0)) 37 n (nI 0)
theorem rc172_lo {S : St} {n j t4 : Nat} {t5 x1 : Int32} (hn : n < 32) (ht : t4 ≤ 1) (h37 : S.1 37 n = nI j) : m_X7_comparesOne_J172 (nI t4) (nI n) S t5 x1 (nI 1) = some (cAL S n j) ∧ m_X7_comparesOne_J172 (nI t4) (nI n) S t5 x1 (nI 0) = some (cMS S n j) := by
  have ht : nI t4 ≤ nI 1 := by rw [le_nI (by omega) (by omega)]; exact ht
  constructor
  · unfold m_X7_comparesOne_J172
    rw [if_pos ht, if_neg (by decide)]
    simp only [zg_in hn (show 32 ≤ 2147483648 by omega), tn (show n < 2147483648 by omega), zb_e, ri_n (show n < 2147483648 by omega), h37, nI_add]
    rfl
  · unfold m_X7_comparesOne_J172
    rw [if_pos ht, if_pos (by decide)]
    simp only [zg_in hn (show 32 ≤ 2147483648 by omega), tn (show n < 2147483648 by omega), zb_e, ri_n (show n < 2147483648 by omega), h37, nI_add]
    rfl
theorem rc_v {E : Ev} {g : Gs} {S : St} {n j : Nat} {q : Kp} {sl0 w y : Nat} {vs : List (Option Nat)} (hE : EvOK E) (hn : n < 32) (hq : KOK n q) (hρ : eρ E (n / 2) = some q.1) (hK : KeR1 n q (gAw g) S) (hR : RR0 E g S) (h37 : S.1 37 n = nI j) (hx : q.2.1[j]? = some (sl0, w, y, vs)) :
    (w = 0 ∨ w = 4 → m_X7_comparesOne S (nI n) = some (if [eφ E y] = vs then cAL S n j else cMS S n j)) ∧
    (w = 1 → m_X7_comparesOne S (nI n) = some (if fvals (eφ E) y = vs then cAL S n j else cMS S n j)) ∧
    (¬ w = 0 → ¬ w = 1 → ¬ w = 4 → y < 16 ∧ m_X7_comparesOne S (nI n) = if S.1 29 (nR n w y) = 0 then (zo (m_X7_pushes S (nI (nR n w y))) fun s => some s) else if S.1 29 (nR n w y) = nI 2 then some (if Int32.toInt64 (S.1 30 (nR n w y)) = eO64 (vs[0]?).join then cAL S n j else cMS S n j) else some (cMS S n j)) := by
  obtain ⟨k1, k2, k3, k4, k5⟩ := hq
  obtain ⟨e1, e2, e3, e4, e5, e6, e7, e8⟩ := hK
  have hl := WFr_le k1 k3
  have hj := (List.getElem?_eq_some_iff.mp hx).1
  have hmem := List.mem_of_getElem? hx
  obtain ⟨⟨o1, o2, o3, o4, o5⟩, o6⟩ := k2 _ hmem
  have hs := WFr_slot k1 k3 _ hmem
  obtain ⟨f1, f2, f3⟩ := e5 j _ hx
  have o1 : sl0 ≤ 4 := o1
  have o2 : w ≤ 4 := o2
  have o3 : y < 20 := o3
  have o4 : vs.length = if w = 1 then 5 else 1 := o4
  have o5 : ∀ o ∈ vs, ∀ n, o = some n → n < 1000 := o5
  have f1 : S.1 19 (5 * n + j) = nI sl0 := f1
  have f2 : sl0 = 4 → S.1 20 (5 * n + j) = nI y := f2
  have f3 : S.2 21 (5 * n + j) = encV (sl0, w, y, vs) := f3
  have hM := (hR.2.1 (n / 2) (by omega)).2 q.1 hρ
  obtain ⟨m1, m2, m3, m4, m5, m6⟩ := hM
  -- the head of the walk
  have hd : m_X7_comparesOne S (nI n) = m_X7_comparesOne_J108 (nI (if w = 4 then 0 else w)) (nI (5 * n + j)) S (nI n) (nI y) := by
    unfold m_X7_comparesOne m_X7_comparesOne_J81
    rw [zg_in hn (by omega), zg_in hn (by omega), ri_n (by omega), ri_n (by omega), h37, e4, if_neg (nI_ne (by omega) (by omega) (by omega)), zg_in hn (by omega), pk_mul, nI_add, zb_e, zg_in (show 5 * n + j < 160 by omega) (by omega), ri_n (by omega), f1, zb_e, div_nI (by omega) (by omega) (by omega), zb_e]
    rcases hs with h | h
    · have h0 : sl0 < 4 := h.1
      have hw : w < 4 := h.2.2.1
      have h1 : (ip q.1)[sl0]? = some (w, y) := h.2.1
      obtain ⟨g6, g7⟩ := m6 sl0 _ h1
      rw [if_neg (nI_ne (by omega) (by omega) (by omega)), if_neg (nI_ne (by omega) (by omega) (by omega)), pk_mul, nI_add, zg_in (show 4 * (n / 2) + sl0 < 64 by omega) (by omega), zg_in (show 4 * (n / 2) + sl0 < 64 by omega) (by omega), ri_n (by omega), ri_n (by omega), g6, g7, if_neg (by omega)]
    · have h0 : sl0 = 4 := h.1
      have hw : w = 4 := h.2
      rw [if_pos (by rw [h0]), if_pos (by rw [h0]), zg_in (show 5 * n + j < 160 by omega) (by omega), ri_n (by omega), f2 h0, if_pos hw]
  rw [hd]
  refine ⟨fun hw => ?_, fun hw => ?_, fun h0 h1 h4 => ?_⟩
  · have hw1 : ¬ w = 1 := by omega
    rw [if_neg hw1] at o4
    obtain ⟨o, ho⟩ := List.length_eq_one_iff.mp o4
    have hz : (if w = 4 then 0 else w) = 0 := by
      rcases hw with h | h <;> simp [h]
    rw [hz]
    obtain ⟨x1, x2⟩ := rc172_lo (S := S) (j := j) (t4 := 0) (t5 := nI y) (x1 := nI (5 * n + j)) hn (by omega) h37
    unfold m_X7_comparesOne_J108
    rw [if_pos (by decide), zg_in o3 (by omega), zg_in (show 5 * n + j < 160 by omega) (by omega), ri_n (by omega), rj_n (by omega), x1, x2, hR.1 y o3, eO_64 (fun n q => Nat.lt_trans (hE.1 _ n q) (by omega)), f3]
    have key : eO64 (eφ E y) = encV (sl0, w, y, vs) ↔ [eφ E y] = vs := by
      unfold encV
      rw [if_neg hw1, ho]
      constructor
      · intro z
        have z2 : eO64 (eφ E y) = eO64 o := z
        rw [eO64_inj (hE.1 y) (o5 o (by rw [ho]; exact List.mem_cons_self)) z2]
      · intro z
        rw [(List.cons.inj z).1]
        rfl
    by_cases c : [eφ E y] = vs
    · rw [if_pos ((lg_cmp_eq _ _).mpr (key.mpr c)), if_pos c]
    · rw [if_neg (fun z => c (key.mp ((lg_cmp_eq _ _).mp z))), if_neg c]
  · subst hw
    rw [if_pos rfl] at o4
    have hy : y < 4 := by
      rcases hs with h | h
      · exact h.2.2.2
      · exact absurd h.2 (by show ¬ 1 = 4; omega)
    rw [if_neg (by omega)]
    obtain ⟨x1, x2⟩ := rc172_lo (S := S) (j := j) (t4 := 1) (t5 := nI y) (x1 := nI (5 * n + j)) hn (by omega) h37
    unfold m_X7_comparesOne_J108
    rw [if_neg (by decide), if_pos rfl, folder_v hE.1 hR.1 hy, zo_e, zg_in (show 5 * n + j < 160 by omega) (by omega), rj_n (by omega), x1, x2, f3]
    have key : lN (encF 0 (fvals (eφ E) y)) = encV (sl0, 1, y, vs) ↔ fvals (eφ E) y = vs := by
      unfold encV
      rw [if_pos rfl]
      exact vals_fit (fvals_len _ _) o4 (fvals_lt hE.1 y) o5
    by_cases c : fvals (eφ E) y = vs
    · rw [if_pos ((lg_cmp_eq _ _).mpr (key.mpr c)), if_pos c]
    · rw [if_neg (fun z => c (key.mp ((lg_cmp_eq _ _).mp z))), if_neg c]
  · have hy : y < 16 := by
      rcases hs with h | h
      · have z := h.2.2.2
        rwa [lim_16 h0 h1] at z
      · exact absurd h.2 h4
    refine ⟨hy, ?_⟩
    have ho := nR_lt (n := n) (w := w) hy
    rw [if_neg h4]
    unfold m_X7_comparesOne_J108 m_X7_comparesOne_J172
    rw [if_neg (by rw [eq0_nI (by omega)]; exact h0), if_neg (nI_ne (by omega) (by omega) h1), if_neg (by rw [le_nI (by omega) (by omega)]; omega), rnode_v hn (by omega), zo_e, zg_in ho (by omega), ri_n (by omega)]
    by_cases c0 : S.1 29 (nR n w y) = 0
    · rw [if_pos c0, if_pos c0]
    · rw [if_neg c0, if_neg c0, zg_in ho (by omega)]
      have ev : encV (sl0, w, y, vs) = eO64 (vs[0]?).join := by unfold encV; rw [if_neg h1]
      simp only [zg_in hn (show 32 ≤ 2147483648 by omega), tn (show n < 2147483648 by omega), zb_e, ri_n (show n < 2147483648 by omega), h37, nI_add]
      by_cases c2 : S.1 29 (nR n w y) = nI 2
      · rw [if_pos c2, if_pos c2, zg_in ho (by omega), zg_in (show 5 * n + j < 160 by omega) (by omega), ri_n (by omega), rj_n (by omega), f3, ev]
        by_cases c : Int32.toInt64 (S.1 30 (nR n w y)) = eO64 (vs[0]?).join
        · rw [if_pos ((lg_cmp_eq _ _).mpr c), if_pos c]
          rfl
        · rw [if_neg (fun z => c ((lg_cmp_eq _ _).mp z)), if_neg c]
          rfl
      · rw [if_neg c2, if_neg c2]
        rfl
theorem valEq_64 {a : Ans} {vs : List (Option Nat)} (ha : AOK a) (hl : vs.length = 1) (hv : ∀ o ∈ vs, ∀ n, o = some n → n < 1000) : Int32.toInt64 (enA a) = eO64 (vs[0]?).join ↔ valEq a vs = true := by
  obtain ⟨o, rfl⟩ := List.length_eq_one_iff.mp hl
  have ho := hv o List.mem_cons_self
  show Int32.toInt64 (enA a) = eO64 o ↔ _
  cases a with
  | inl k =>
    have hk : k = 2 ∨ k = 3 ∨ k = 4 ∨ k = 5 := by have h : 2 ≤ k ∧ k ≤ 5 := ha; omega
    refine ⟨fun h => ?_, fun h => by cases h⟩
    exfalso
    have h2 : (Int32.toInt64 (enA (.inl k))).toInt = -(k : Int) := by rcases hk with rfl | rfl | rfl | rfl <;> decide
    rw [h] at h2
    cases o with
    | none =>
      have h3 : (eO64 none).toInt = -1 := by decide
      omega
    | some v =>
      have h3 : (eO64 (some v)).toInt = (v : Int) := pk_lT (by have := ho v rfl; omega)
      omega
  | inr v =>
    have ha : v < 1000 := ha
    show Int32.toInt64 (nI v) = eO64 o ↔ decide ([o] = [some v]) = true
    rw [nI_l (by omega), decide_eq_true_iff]
    constructor
    · intro h
      rw [eO64_inj (a := some v) (b := o) (fun n e => by cases e; exact ha) ho h]
    · intro h
      rw [(List.cons.inj h).1]
      rfl
def CPh (n j : Nat) (S : St) : Prop := S.1 36 n = nI 1 ∧ S.1 37 n = nI j ∧ S.1 38 n = nI 0 ∧ S.1 32 n = nI 0
theorem CPh_KP {n j o h : Nat} {g : Gs} {S S' : St} (hI : CPh n j S) (hK : KP h o g S S') (hn : n < 32) (hne : ¬ n = o) (h5 : gDn g n = 5) : CPh n j S' := by
  obtain ⟨a1, a2, a3, a4⟩ := hI
  obtain ⟨b1, b2, b3, b4, -⟩ := hK.1 n hn hne h5
  exact ⟨b2.trans a1, b3.trans a2, b4.trans a3, b1.trans a4⟩
theorem cAL_d {S : St} {n j : Nat} : DIF n S (cAL S n j) := ⟨fun k i b1 b2 b3 b4 => wi_ne (by omega), fun k i b1 b2 => rfl⟩
def CRES (E : Ev) (n h : Nat) (q : Kp) (p : Nat × Gs) (S' : St) : Prop := S'.1 35 h = nI n ∧ (p.1 = 0 → RB E p.2 S' ∧ CPh n q.2.1.length S') ∧ (¬ p.1 = 0 → RB E (sWy p.2 n p.1) S' ∧ IP n 0 [] S')
theorem rcmp {E : Ev} (hE : EvOK E) {L : Nat → Gs → Ans × Gs} (hL : LOK L) {f : Nat} (hLK : RLK (RB E) L f) {n h : Nat} {q : Kp} (hn : n < 32) (hρ : eρ E (n / 2) = some q.1) (hq : KOK n q) :
    ∀ (l : List Rd) (j : Nat) (g : Gs) (S : St), q.2.1.drop j = l → WG g → RB E g S → gDn g n = 5 → gK g n = some q → 32 ≤ bG g + f → bG g = h + 1 → S.1 35 h = nI n → CPh n j S → j ≤ q.2.1.length →
    ∃ k S', Steps k S S' ∧ k + 30 * uG (acmp E L n l j g).2 ≤ 30 * uG g + 2 * l.length ∧ KP h n g S S' ∧ CRES E n h q (acmp E L n l j g) S' := by
  have hl5 := WFr_le hq.1 hq.2.2.1
  intro l
  induction l with
  | nil =>
    intro j g S h1 h4 h5 h6 hk h7 h8 h9 h10 hj
    have hlen : q.2.1.length ≤ j := List.drop_eq_nil_iff.mp h1
    refine ⟨0, S, Steps_0, ?_, KP_rf, h9, fun _ => ⟨h5, ?_⟩, fun z => absurd rfl z⟩
    · show 0 + 30 * uG g ≤ _
      omega
    · rw [show q.2.1.length = j by omega]; exact h10
  | cons x t ih =>
    intro j g S h1 h4 h5 h6 hk h7 h8 h9 h10 hjl
    obtain ⟨d1, d2, -, d4⟩ := drop_cons h1
    obtain ⟨sl0, w, y, vs⟩ := x
    have hb := bG_le g
    obtain ⟨⟨o1, o2, o3, o4, o5⟩, o6⟩ := hq.2.1 _ (List.mem_of_getElem? d1)
    have o4 : vs.length = if w = 1 then 5 else 1 := o4
    have o5 : ∀ o ∈ vs, ∀ n, o = some n → n < 1000 := o5
    have o2 : w ≤ 4 := o2
    -- alike: go on
    have al : ∀ (g2 : Gs) (S2 : St), WG g2 → RB E g2 S2 → gDn g2 n = 5 → gK g2 n = some q → 32 ≤ bG g2 + f → bG g2 = h + 1 → S2.1 35 h = nI n → CPh n j S2 → m_X7_comparesOne S2 (nI n) = some (cAL S2 n j) →
        ∃ k S', Steps k S2 S' ∧ k + 30 * uG (acmp E L n t (j + 1) g2).2 ≤ 30 * uG g2 + (2 * t.length + 1) ∧ KP h n g2 S2 S' ∧ CRES E n h q (acmp E L n t (j + 1) g2) S' := by
      intro g2 S2 q1 q2 q3 q4 q5 q6 q7 q8 q9
      have hst := step_c (by omega) hn (by rw [q2.1.2.2.2, q6]) q7 q8.1 q9
      have hd := cAL_d (S := S2) (n := n) (j := j)
      obtain ⟨k, S', r1, r2, r3, r4⟩ := ih (j + 1) g2 (cAL S2 n j) d2 q1 (RB_dif.2 g2 S2 _ n q2 q3 hd) q3 q4 q5 q6 (by rw [DIF_lo hd (by omega)]; exact q7) ⟨by unfold cAL; rw [wi_ne (by omega)]; exact q8.1, by unfold cAL; rw [wi_at], by unfold cAL; rw [wi_ne (by omega)]; exact q8.2.2.1, by unfold cAL; rw [wi_ne (by omega)]; exact q8.2.2.2⟩ (by omega)
      exact ⟨1 + k, S', Steps_tr hst r1, by omega, KP_tr (KP_dif hd) r3 (fun _ _ z => z), r4⟩
    -- not alike: to the reading
    have ms : ∀ (g2 : Gs) (S2 : St), RB E g2 S2 → gDn g2 n = 5 → bG g2 = h + 1 → S2.1 35 h = nI n → CPh n j S2 → m_X7_comparesOne S2 (nI n) = some (cMS S2 n j) →
        ∃ k S', Steps k S2 S' ∧ k + 30 * uG g2 ≤ 30 * uG g2 + (2 * t.length + 1) ∧ KP h n g2 S2 S' ∧ CRES E n h q (10 + j, g2) S' := by
      intro g2 S2 q2 q3 q6 q7 q8 q9
      have hst := step_c (by omega) hn (by rw [q2.1.2.2.2, q6]) q7 q8.1 q9
      have hd : DIF n (wi S2 32 n (nI (10 + j))) (cMS S2 n j) := ⟨fun k i b1 b2 b3 b4 => by unfold cMS; rw [wi_ne (by omega), wi_ne (by omega)], fun k i b1 b2 => rfl⟩
      refine ⟨1, cMS S2 n j, hst, by omega, ?_, ?_, fun z => ?_, fun _ => ⟨RB_dif.2 _ _ _ n (RB_wy q3 q2) q3 hd, ?_, ?_, ?_, fun i x hx => by simp at hx⟩⟩
      · refine KP_tr (KP_out (fun k i z => wi_ne (by omega)) (fun _ => rfl) (fun m hm => wi_ne (by omega))) (KP_dif hd) (fun _ _ z => z)
      · rw [DIF_lo hd (by omega), wi_ne (by omega)]; exact q7
      · have z : 10 + j = 0 := z
        omega
      · unfold cMS; rw [wi_ne (by omega), wi_at]
      · unfold cMS; rw [wi_at]
      · unfold cMS; rw [wi_ne (by omega), wi_ne (by omega), wi_ne (by omega)]; exact q8.2.2.1
    have rc := fun (g2 : Gs) (S2 : St) (q2 : RB E g2 S2) (qk : gK g2 n = some q) (q8 : CPh n j S2) => rc_v (g := g2) hE hn hq hρ ((q2.2.2.2.1 n hn).2 q qk) q2.1 q8.2.1 d1
    by_cases w1 : w = 1
    · subst w1
      have e4 := (rc g S h5 hk h10).2.1 rfl
      have am : acmp E L n ((sl0, 1, y, vs) :: t) j g = if fvals (eφ E) y = vs then acmp E L n t (j + 1) g else (10 + j, g) := by
        rw [acmp, if_pos rfl]
      rw [am]
      by_cases c : fvals (eφ E) y = vs
      · rw [if_pos c] at e4 ⊢
        obtain ⟨k, S', r1, r2, r3, r4⟩ := al g S h4 h5 h6 hk h7 h8 h9 h10 e4
        exact ⟨k, S', r1, by simp only [List.length_cons]; omega, r3, r4⟩
      · rw [if_neg c] at e4 ⊢
        obtain ⟨k, S', r1, r2, r3, r4⟩ := ms g S h5 h6 h8 h9 h10 e4
        exact ⟨k, S', r1, by simp only [List.length_cons]; omega, r3, r4⟩
    · by_cases w0 : w = 0 ∨ w = 4
      · have e4 := (rc g S h5 hk h10).1 w0
        have am : acmp E L n ((sl0, w, y, vs) :: t) j g = if [eφ E y] = vs then acmp E L n t (j + 1) g else (10 + j, g) := by
          rw [acmp, if_neg (by exact w1), if_pos (by exact w0)]
        rw [am]
        by_cases c : [eφ E y] = vs
        · rw [if_pos c] at e4 ⊢
          obtain ⟨k, S', r1, r2, r3, r4⟩ := al g S h4 h5 h6 hk h7 h8 h9 h10 e4
          exact ⟨k, S', r1, by simp only [List.length_cons]; omega, r3, r4⟩
        · rw [if_neg c] at e4 ⊢
          obtain ⟨k, S', r1, r2, r3, r4⟩ := ms g S h5 h6 h8 h9 h10 e4
          exact ⟨k, S', r1, by simp only [List.length_cons]; omega, r3, r4⟩
      · rw [if_neg w1] at o4
        have v0 : ¬ w = 0 := fun z => w0 (Or.inl z)
        have v4 : ¬ w = 4 := fun z => w0 (Or.inr z)
        obtain ⟨hy, e4⟩ := (rc g S h5 hk h10).2.2 v0 w1 v4
        have ho := nR_lt (n := n) (w := w) hy
        have am : acmp E L n ((sl0, w, y, vs) :: t) j g = if valEq (L (nR n w y) g).1 vs = true then acmp E L n t (j + 1) (L (nR n w y) g).2 else (10 + j, (L (nR n w y) g).2) := by
          rw [acmp, if_neg (by exact w1), if_neg (by exact w0)]
        rw [am]
        have dn : ∀ (g2 : Gs) (S2 : St) (a : Ans), WG g2 → RB E g2 S2 → gDn g2 n = 5 → gK g2 n = some q → 32 ≤ bG g2 + f → bG g2 = h + 1 → S2.1 35 h = nI n → CPh n j S2 → ¬ gDn g2 (nR n w y) = 0 → ¬ gDn g2 (nR n w y) = 5 → gAn g2 (nR n w y) = a →
            ∃ k S', Steps k S2 S' ∧ k + 30 * uG (if valEq a vs = true then acmp E L n t (j + 1) g2 else (10 + j, g2)).2 ≤ 30 * uG g2 + (2 * t.length + 1) ∧ KP h n g2 S2 S' ∧ CRES E n h q (if valEq a vs = true then acmp E L n t (j + 1) g2 else (10 + j, g2)) S' := by
          intro g2 S2 a q1 q2 q3 qk q4 q5 q6 q7 q8 q9 q10
          obtain ⟨-, e5⟩ := (rc g2 S2 q2 qk q7).2.2 v0 w1 v4
          obtain ⟨-, -, -, l4⟩ := q2.1.2.2.1 (nR n w y) ho
          obtain ⟨l5, l6⟩ := l4 q8 q9
          have ha : AOK a := by rw [← q10]; exact q1.2.2.2.2.2.2.2.1 _
          rw [l5, if_neg (by decide), if_pos rfl, l6, q10] at e5
          have key := valEq_64 ha o4 o5
          by_cases c : valEq a vs = true
          · rw [if_pos (key.mpr c)] at e5
            rw [if_pos c]
            exact al g2 S2 q1 q2 q3 qk q4 q5 q6 q7 e5
          · rw [if_neg (fun z => c (key.mp z))] at e5
            rw [if_neg c]
            exact ms g2 S2 q2 q3 q5 q6 q7 e5
        by_cases c5 : gDn g (nR n w y) = 5
        · rw [hLK.1 _ g c5]
          obtain ⟨-, -, l3, -⟩ := h5.1.2.2.1 (nR n w y) ho
          rw [l3 c5, if_neg (by decide), if_neg (by decide)] at e4
          rw [if_neg (show ¬ valEq (.inl 4) vs = true by intro z; cases z)]
          obtain ⟨k, S', r1, r2, r3, r4⟩ := ms g S h5 h6 h8 h9 h10 e4
          exact ⟨k, S', r1, by simp only [List.length_cons]; omega, r3, r4⟩
        · by_cases c0 : gDn g (nR n w y) = 0
          · obtain ⟨-, l2, -, -⟩ := h5.1.2.2.1 (nR n w y) ho
            rw [l2 c0, if_pos (by decide)] at e4
            obtain ⟨⟨z1, z2, z3⟩, S1, k1, S2, p1, p2, p3, p4, p5⟩ := hLK.2.2 (nR n w y) g S ho h4 h5 c0 h7
            obtain ⟨v1, v2, v3⟩ := hL (nR n w y) g ho h4
            have hne : ¬ n = nR n w y := fun z => by rw [← z] at c5; exact c5 h6
            rw [p1, zo_e] at e4
            have st1 := step_c (by omega) hn (by rw [h5.1.2.2.2, h8]) h9 h10.1 e4
            obtain ⟨k, S', r1, r2, r3, r4⟩ := dn (L (nR n w y) g).2 S2 (L (nR n w y) g).1 v1 p3 (AF_dn v2 h6) ((v2.2.1 n h6).trans hk) (by rw [bG_AF v2]; exact h7) (by rw [bG_AF v2]; exact h8) (by rw [p5.2.1 h (by omega)]; exact h9) (CPh_KP h10 p5 hn hne h6) z1 z2 z3
            refine ⟨1 + k1 + k, S', Steps_tr (Steps_tr st1 p2) r1, by simp only [List.length_cons]; omega, ?_, r4⟩
            refine KP_tr (g' := (L (nR n w y) g).2) ⟨fun m hm hmn hd => p5.1 m hm (fun z => by subst z; exact c5 hd) hd, fun i hi => p5.2.1 i (by omega), p5.2.2⟩ r3 (fun m _ hd => AF_dn v2 hd)
          · rw [hLK.2.1 _ g ho c0 c5 h7]
            obtain ⟨k, S', r1, r2, r3, r4⟩ := dn g S (gAn g (nR n w y)) h4 h5 h6 hk h7 h8 h9 h10 c0 c5 rfl
            exact ⟨k, S', r1, by simp only [List.length_cons]; omega, r3, r4⟩
/-- all is as it was: reused -/
theorem reuse_v {E : Ev} {g : Gs} {S : St} {n h : Nat} {q : Kp} (hn : n < 32) (h5 : RB E g S) (h6 : gDn g n = 5) (hk : gK g n = some q) (hv : q.2.2.1 < 1000) (hl : q.2.1.length ≤ 5) (h8 : bG g = h + 1) (h9 : S.1 35 h = nI n) (hc : CPh n q.2.1.length S) :
    ∃ S', Steps 1 S S' ∧ RB E (sEnd (sWy g n 0) n 1 (.inr q.2.2.1)) S' ∧ KP h n g S S' := by
  have hb := bG_le g
  obtain ⟨c1, c2, c3, c4⟩ := hc
  have hw := RB_wy0 h6 h5 c4
  obtain ⟨a1, a2, a3, a4, a5, a6, a7⟩ := hw
  obtain ⟨e1, e2, e3, e4, e5, e6, e7, e8⟩ := (a4 n hn).2 q hk
  have n3 : ∀ k i, ¬ k = 33 → (wi S 33 2 (S.1 33 2 + nI 1)).1 k i = S.1 k i := fun k i z => wi_ne (by omega)
  have hrun : m_X7_comparesOne S (nI n) = some (FIN4 (wi S 33 2 (S.1 33 2 + nI 1)) n (nI q.2.2.1) 1 h) := by
    unfold m_X7_comparesOne
    rw [zg_in hn (by omega), zg_in hn (by omega), ri_n (by omega), ri_n (by omega), c2, e4, if_pos rfl, zg_in (by omega) (by omega), zg_in (by omega) (by omega), tn (by omega), ri_n (by omega), zb_e, zg_in hn (by omega), ri_n (by omega), n3 22 n (by omega), e6, fins_v (h := h) hn (by rw [n3 34 0 (by omega), a1.2.2.2]; exact congrArg nI h8), n3 43 0 (by omega), if_pos a2, if_pos (nI_pos' (by omega)), zo_e]
  refine ⟨_, step_c (by omega) hn (by rw [h5.1.2.2.2, h8]) h9 c1 hrun, ?_, ?_⟩
  · refine RB_end (g := sWy g n 0) (a := .inr q.2.2.1) hn h6 h8 (by omega) (RR0_eq a1 rfl rfl (fun k i z => n3 k i (by omega))) (by rw [n3 _ _ (by omega)]; exact a2) (MaR_eq a3 rfl rfl rfl rfl rfl (fun k i _ _ => n3 k i (by omega))) (KeR_eq a4 (fun k i _ => n3 k i (by omega)) (fun _ _ _ => rfl)) (CaR_eq a5 (fun k i _ => n3 k i (by omega)) (fun _ => rfl)) (DoR_eq a6 rfl rfl (fun k i _ => n3 k i (by omega))) ?_
    obtain ⟨b1, b2, b3, b4⟩ := a7
    refine ⟨?_, ?_, ?_, ?_⟩
    · rw [wi_ne (by omega)]; exact b1
    · rw [wi_ne (by omega), cG_end (g := sWy g n 0) hn h6 (by omega), if_neg (by omega)]; exact b2
    · rw [wi_at, cG_end (g := sWy g n 0) hn h6 (by omega), if_pos rfl, b3, nI_add]
    · rw [wi_ne (by omega), uG_end (g := sWy g n 0) h6 (by omega)]; exact b4
  · exact KP_out (fun k i z => by rw [FIN4_ne (by omega) (by omega) (by omega) (by omega), n3 _ _ (by omega)]) (fun _ => rfl) (fun m _ => by rw [FIN4_ne (by omega) (by omega) (by omega) (by omega), n3 _ _ (by omega)])
