/-! the reference's look -/
theorem flsB {E : Ev} {n : Nat} (hn : n < 32) : FLS (RB E) n (fun k g => afail n k g) := fun k g S hk h h5 => by
  refine ⟨uG_end (g := sK g (fu (gK g) n none)) h5 (by omega), ?_⟩
  obtain ⟨S', a1, a2, a3⟩ := failB hn h5 hk h
  exact ⟨S', a1, a2, a3⟩
theorem flsP {E : Ev} {S0 : St} {n : Nat} (hn : n < 32) : FLS (RPl E S0) n (fun k g => (.inl k, sEnd g n 4 (.inl k))) := fun k g S hk h h5 => by
  refine ⟨uG_end h5 (by omega), ?_⟩
  obtain ⟨S', a1, a2, a3⟩ := endP (how := 4) (a := .inl k) hn h5 (by omega) h (fun q => absurd q (by omega))
  exact ⟨S', a1, a2, a3⟩
def enP (E : Ev) (n : Nat) (r : Rul) (acc : List Rd) (g : Gs) : Ans × Gs := (.inr (ares E r (afnd E r acc)), sEnd (sRd g n (afnd E r acc)) n 3 (.inr (ares E r (afnd E r acc))))
theorem ensP {E : Ev} {S0 : St} {n : Nat} {r : Rul} (hE : EvOK E) (hn : n < 32) (hρ : eρ E (n / 2) = some r) : ENS (RPl E S0) E n r (enP E n r) := by
  intro acc g S i hg h h5 hI hm hA
  have hr := hE.2 _ _ hρ
  obtain ⟨q1, q2, q3, q4⟩ := acc_ws hE hr hm hA
  have hM := (h.1.2.1 (n / 2) (by omega)).2 r hρ
  obtain ⟨S9, d9, i9, run⟩ := er_v hE hn hr h.1.1 hM hI q3 hA q4
  rw [if_neg (by rw [h.2.1]; decide)] at run
  have hl5 := WFr_le hr q2
  unfold enP
  generalize hws : afnd E r acc = ws at q1 q2 i9 run hl5 ⊢
  have r9 : RPl E S0 g S9 := RPl_dif.2 g S S9 n h h5 d9
  have r9' : RPl E S0 (sRd g n ws) S9 := by
    obtain ⟨a1, a2, a3, a4, a5, a6⟩ := r9
    refine ⟨RR0_eq a1 rfl rfl (fun _ _ _ => rfl), a2, a3, a4, a5, fun m hm2 hd => ?_⟩
    have hd : gDn g m = 3 := hd
    have hne : ¬ m = n := fun z => by subst z; omega
    show (fu (gRd g) n ws m).length ≤ 5 ∧ _ = nI (fu (gRd g) n ws m).length ∧ ∀ j x, (fu (gRd g) n ws m)[j]? = some x → _
    rw [fu_n hne]
    exact a6 m hm2 hd
  have eL : eLK n r S9 = S9 := if_neg (fun q => by rw [r9.2.1] at q; exact absurd q.2 (by decide))
  rw [eL] at run
  obtain ⟨S', b1, b2, b3⟩ := endP (how := 3) (a := .inr (ares E r ws)) hn (g := sRd g n ws) h5 (by omega) r9' (fun _ => by
    show (fu (gRd g) n ws n).length ≤ 5 ∧ _ = nI (fu (gRd g) n ws n).length ∧ ∀ j x, (fu (gRd g) n ws n)[j]? = some x → _
    rw [fu_s]
    exact ⟨hl5, i9.2.2.1, fun j x hx => (i9.2.2.2 j x hx).1⟩)
  have b1 : m_X7_finishes S9 (nI n) (nI (ares E r ws)) (nI 3) = some S' := b1
  rw [b1, zo_e] at run
  exact ⟨uG_end (g := sRd g n ws) h5 (by omega), S', run, b2, KP_all (fun h0 g0 => KP_dif d9) b3⟩
theorem none_step {E : Ev} {R : Gs → St → Prop} (hR : RCL R E) {g : Gs} {S : St} {n h i : Nat} {acc : List Rd} {FL : Nat → Gs → Ans × Gs} (hn : n < 32) (hFL : FLS R n FL) (hρ : eρ E (n / 2) = none) (hS : R g S) (h5 : gDn g n = 5) (h8 : bG g = h + 1) (h9 : S.1 35 h = nI n) (h10 : IP n i acc S) :
    ∃ S', Steps 1 S S' ∧ R (FL 2 g).2 S' ∧ uG (FL 2 g).2 = uG g ∧ KP h n g S S' := by
  have hb := bG_le g
  obtain ⟨a1, a2, a3, a4⟩ := hR.1 g S hS
  obtain ⟨u1, S', b1, b2, b3⟩ := hFL 2 g S (by omega) hS h5
  have b1 : m_X7_finishes S (nI n) (-2) (nI 4) = some S' := b1
  have run : m_X7_readsOne S (nI n) = some S' := by
    unfold m_X7_readsOne
    rw [div_nI (by omega) (by omega) (by omega), zb_e, zg_in (by omega) (by omega), ri_n (by omega), (a2 (n / 2) (by omega)).1 hρ, zb_e, if_pos rfl, b1, zo_e]
  exact ⟨S', step_r (by omega) hn (by rw [a4, h8]) h9 h10.1 run, b2, u1, b3 h g⟩
theorem amake_n {E : Ev} {L : Nat → Gs → Ans × Gs} {n : Nat} {g : Gs} (h : eρ E (n / 2) = none) : amake E L n g = afail n 2 g := by
  unfold amake
  rw [h]
theorem amake_s {E : Ev} {L : Nat → Gs → Ans × Gs} {n : Nat} {g : Gs} {r : Rul} (h : eρ E (n / 2) = some r) : amake E L n g = amid E L n (fun k g => afail n k g) (enB E n r) (expIn r (n % 2)) [] g := by
  unfold amake amid
  rw [h]
  simp only []
  unfold aread
  cases ardl E L n (expIn r (n % 2)) [] g with
  | mk o g1 => cases o <;> rfl
theorem aplain_n {E : Ev} {L : Nat → Gs → Ans × Gs} {n : Nat} {g : Gs} (h : eρ E (n / 2) = none) : aplain E L n g = (.inl 2, sEnd g n 4 (.inl 2)) := by
  unfold aplain
  rw [h]
theorem aplain_s {E : Ev} {L : Nat → Gs → Ans × Gs} {n : Nat} {g : Gs} {r : Rul} (h : eρ E (n / 2) = some r) : aplain E L n g = amid E L n (fun k g => (.inl k, sEnd g n 4 (.inl k))) (enP E n r) (expIn r (n % 2)) [] g := by
  unfold aplain amid
  rw [h]
  simp only []
  unfold aread
  cases ardl E L n (expIn r (n % 2)) [] g with
  | mk o g1 => cases o <;> rfl
/-- the whole read phase of a build -/
theorem rmake {E : Ev} (hE : EvOK E) {L : Nat → Gs → Ans × Gs} (hL : LOK L) {f : Nat} (hLK : RLK (RB E) L f) {n h : Nat} {g : Gs} {S : St} (hn : n < 32) (hg : WG g) (hS : RB E g S) (h5 : gDn g n = 5) (h7 : 32 ≤ bG g + f) (h8 : bG g = h + 1) (h9 : S.1 35 h = nI n) (h10 : IP n 0 [] S) :
    ∃ k S', Steps k S S' ∧ RB E (amake E L n g).2 S' ∧ k + 30 * uG (amake E L n g).2 ≤ 30 * uG g + 9 ∧ KP h n g S S' := by
  cases hρ : eρ E (n / 2) with
  | none =>
    rw [amake_n hρ]
    obtain ⟨S', a1, a2, a3, a4⟩ := none_step RB_dif hn (flsB hn) hρ hS h5 h8 h9 h10
    exact ⟨1, S', a1, a2, by rw [a3]; omega, a4⟩
  | some r =>
    have hr := hE.2 _ _ hρ
    have h4 := expIn_le hr (n % 2)
    rw [amake_s hρ]
    obtain ⟨k, S', a1, a2, a3, a4⟩ := rread hE RB_dif hL hLK hn hρ (flsB hn) (ensB hE hn hρ) (expIn r (n % 2)) 0 [] g S rfl rfl (by omega) (fun x hx => by simp at hx) hg hS h5 h7 h8 h9 h10
    exact ⟨k, S', a1, a2, by omega, a4⟩
theorem rmakeP {E : Ev} {S0 : St} (hE : EvOK E) {L : Nat → Gs → Ans × Gs} (hL : LOK L) {f : Nat} (hLK : RLK (RPl E S0) L f) {n h : Nat} {g : Gs} {S : St} (hn : n < 32) (hg : WG g) (hS : RPl E S0 g S) (h5 : gDn g n = 5) (h7 : 32 ≤ bG g + f) (h8 : bG g = h + 1) (h9 : S.1 35 h = nI n) (h10 : IP n 0 [] S) :
    ∃ k S', Steps k S S' ∧ RPl E S0 (aplain E L n g).2 S' ∧ k + 30 * uG (aplain E L n g).2 ≤ 30 * uG g + 9 ∧ KP h n g S S' := by
  cases hρ : eρ E (n / 2) with
  | none =>
    rw [aplain_n hρ]
    obtain ⟨S', a1, a2, a3, a4⟩ := none_step RPl_dif hn (flsP hn) hρ hS h5 h8 h9 h10
    exact ⟨1, S', a1, a2, by
      have a3 : uG (sEnd g n 4 (.inl 2)) = uG g := a3
      show 1 + 30 * uG (sEnd g n 4 (.inl 2)) ≤ _
      omega, a4⟩
  | some r =>
    have hr := hE.2 _ _ hρ
    have h4 := expIn_le hr (n % 2)
    rw [aplain_s hρ]
    obtain ⟨k, S', a1, a2, a3, a4⟩ := rread hE RPl_dif hL hLK hn hρ (flsP hn) (ensP hE hn hρ) (expIn r (n % 2)) 0 [] g S rfl rfl (by omega) (fun x hx => by simp at hx) hg hS h5 h7 h8 h9 h10
    exact ⟨k, S', a1, a2, by omega, a4⟩
theorem uG_wy {g : Gs} {n v : Nat} : uG (sWy g n v) = uG g := rfl
theorem bG_wy {g : Gs} {n v : Nat} : bG (sWy g n v) = bG g := rfl
theorem bG_lt {g : Gs} {m : Nat} (hm : m < 32) (h5 : ¬ gDn g m = 5) : bG g < 32 := by
  have h1 : cntB (fun i => decide (gDn g i = 5)) 32 + 1 = cntB (fun i => decide (gDn g i = 5) || decide (i = m)) 32 := cntB_flip (j := m) (decide_eq_false h5) (by simp) (fun i hi => by simp [hi]) 32 hm
  have h2 := cntB_le (f := fun i => decide (gDn g i = 5) || decide (i = m)) 32
  have h3 : bG g + 1 = cntB (fun i => decide (gDn g i = 5) || decide (i = m)) 32 := h1
  omega
theorem alk_5 {E : Ev} {pl : Bool} : ∀ (f m : Nat) (g : Gs), gDn g m = 5 → alook pl E f m g = (.inl 4, g)
  | 0, m, g, _ => rfl
  | f + 1, m, g, h => by rw [alook, if_pos h]
theorem alk_d {E : Ev} {pl : Bool} {f m : Nat} {g : Gs} (hm : m < 32) (h0 : ¬ gDn g m = 0) (h5 : ¬ gDn g m = 5) (hb : 32 ≤ bG g + f) : alook pl E f m g = (gAn g m, g) := by
  have := bG_lt hm h5
  obtain ⟨f2, rfl⟩ : ∃ f2, f = f2 + 1 := ⟨f - 1, by omega⟩
  rw [alook, if_neg h5, if_pos h0]
theorem rlkB {E : Ev} (hE : EvOK E) : ∀ f, RLK (RB E) (alook false E f) f := by
  intro f
  refine ⟨fun m g h => alk_5 f m g h, fun m g hm h0 h5 hb => alk_d hm h0 h5 hb, ?_⟩
  induction f with
  | zero =>
    intro m g S hm hg hS h0 hb
    have := bG_lt hm (g := g) (by omega)
    omega
  | succ f ih =>
    intro m g S hm hg hS h0 hb
    have hL := alook_c hE false f
    have hLK : RLK (RB E) (alook false E f) f := ⟨fun m g h => alk_5 f m g h, fun m g hm h0 h5 hb => alk_d hm h0 h5 hb, ih⟩
    obtain ⟨-, -, -, z1, z2, z3⟩ := alook_fin hE false (f := f) h0 hg
    refine ⟨⟨z1, z2, z3⟩, ?_⟩
    have hu := uG_5 hm h0
    have hbl := bG_lt hm (g := g) (by omega)
    have hbu := bG_up hm h0
    obtain ⟨c, w, p1, p2, p3⟩ := push_v (h := bG g) hE.2 hm (by omega) hS.1.2.1 hS.1.2.2.2
    obtain ⟨v1, v2, v3, v4, v5, v6⟩ := PU_at (S := S) (n := m) (h := bG g) (c := c) (w := w)
    have hal : alook false E (f + 1) m g = abuild E (alook false E f) m (sDn g m 5) := by
      rw [alook, if_neg (by omega), if_neg (by omega), if_neg (by decide)]
    rw [hal]
    have hg5 := WG_sDn5 hg m
    have d5 : gDn (sDn g m 5) m = 5 := fu_s
    have hK := hS.2.2.2.1 m hm
    have kk : gK (sDn g m 5) m = gK g m := rfl
    have hkp : KP (bG g) m g S (PU S m (bG g) c w) := KP_push
    have dmono : ∀ x, ¬ x = m → gDn g x = 5 → gDn (sDn g m 5) x = 5 := fun x hx hd => (fu_n hx).trans hd
    -- the read phase, from a state with whys laid
    have mk : ∀ (g2 : Gs) (S2 : St), WG g2 → RB E g2 S2 → gDn g2 m = 5 → 32 ≤ bG g2 + f → bG g2 = bG g + 1 → S2.1 35 (bG g) = nI m → IP m 0 [] S2 → ∃ k S', Steps k S2 S' ∧ RB E (amake E (alook false E f) m g2).2 S' ∧ k + 30 * uG (amake E (alook false E f) m g2).2 ≤ 30 * uG g2 + 9 ∧ KP (bG g) m g2 S2 S' := fun g2 S2 q1 q2 q3 q4 q5 q6 q7 => rmake hE hL hLK hm q1 q2 q3 q4 q5 q6 q7
    by_cases hA : ∃ q, gK g m = some q ∧ eρ E (m / 2) = some q.1
    · obtain ⟨q, hq, hr⟩ := hA
      have kq := hg.1 m q hq
      obtain ⟨d1, d2, d3, -⟩ := hK.2 q hq
      have hALK : ALK (eρ E) m S := ⟨by rw [d1]; decide, q.1, hr, d2, d3⟩
      obtain ⟨w0, c1⟩ := p2 hALK
      rw [if_pos hS.2.1] at c1
      subst w0
      subst c1
      have hR1 : RB E (sDn g m 5) (PU S m (bG g) 1 0) := RB_push hm h0 hS (Or.inl ⟨rfl, rfl⟩)
      obtain ⟨k1, S2, r1, r2, r3, r4, r5, r6⟩ := rcmp (h := bG g) (q := q) hE hL hLK hm hr kq q.2.1 0 (sDn g m 5) _ rfl hg5 hR1 d5 hq (by omega) hbu v1 ⟨v2, v4, v5, v3⟩ (Nat.zero_le _)
      obtain ⟨w1, w2⟩ := acmp_c hL (E := E) (n := m) q.2.1 0 (sDn g m 5) (cmpOK_of kq.1 kq.2.2.1) hg5
      have hwy : awhy E (alook false E f) m (sDn g m 5) = acmp E (alook false E f) m q.2.1 0 (sDn g m 5) := by
        unfold awhy
        rw [kk, hq]
        exact if_pos (dcP_t.mpr hr)
      have hl5 := WFr_le kq.1 kq.2.2.1
      unfold abuild
      rw [hwy]
      by_cases hz : (acmp E (alook false E f) m q.2.1 0 (sDn g m 5)).1 = 0
      · rw [if_pos hz, kk, hq]
        obtain ⟨x1, x2⟩ := r5 hz
        obtain ⟨S3, y1, y2, y3⟩ := reuse_v (h := bG g) (q := q) hm x1 (AF_dn w2 d5) ((w2.2.1 m d5).trans hq) kq.2.2.2.1 hl5 (by rw [bG_AF w2]; exact hbu) r4 x2
        refine ⟨PU S m (bG g) 1 0, k1 + 1, S3, p1, Steps_tr r1 y1, y2, ?_, KP_tr hkp (KP_tr r3 y3 (fun x hx hd => AF_dn w2 hd)) dmono⟩
        show k1 + 1 + 30 * uG (sEnd (sWy (acmp E (alook false E f) m q.2.1 0 (sDn g m 5)).2 m 0) m 1 (.inr q.2.2.1)) ≤ _
        rw [uG_end (g := sWy (acmp E (alook false E f) m q.2.1 0 (sDn g m 5)).2 m 0) (AF_dn w2 d5) (by omega), uG_wy]
        omega
      · rw [if_neg hz]
        obtain ⟨x1, x2⟩ := r6 hz
        obtain ⟨k2, S3, y1, y2, y3, y4⟩ := mk _ S2 (WG_sWy w1 m _) x1 (AF_dn w2 d5) (by rw [bG_wy, bG_AF w2]; omega) (by rw [bG_wy, bG_AF w2]; exact hbu) r4 x2
        rw [uG_wy] at y3
        refine ⟨PU S m (bG g) 1 0, k1 + k2, S3, p1, Steps_tr r1 y1, y2, by omega, KP_tr hkp (KP_tr r3 y4 (fun x hx hd => AF_dn w2 hd)) dmono⟩
    · have hnA : ¬ ALK (eρ E) m S := by
        rintro ⟨b1, r, b2, b3, b4⟩
        cases hq : gK g m with
        | none => exact b1 (hK.1 hq)
        | some q =>
          obtain ⟨d1, d2, d3, -⟩ := hK.2 q hq
          have kq := (hg.1 m q hq).1
          have hr2 := hE.2 _ _ b2
          have e1 : encR q.1 = encR r := by
            have x1 := encR_le kq
            have x2 := encR_le hr2
            exact lN_inj (by omega) (by omega) (d2.symm.trans b3)
          have e2 : tm q.1 = tm r := by
            obtain ⟨r1, r2, r3, r4, r5, -⟩ := hr2
            obtain ⟨s1, s2, s3, s4, s5, -⟩ := kq
            exact nI_inj (by omega) (by omega) (d3.symm.trans b4)
          exact hA ⟨q, hq, by rw [b2, Rul_ext e2 (encR_inj kq hr2 e1)]⟩
      obtain ⟨c0, w0⟩ := p3 hnA
      subst c0
      have hR1 : RB E (sWy (sDn g m 5) m w) (PU S m (bG g) 0 w) := RB_push hm h0 hS (Or.inr rfl)
      have hwy : awhy E (alook false E f) m (sDn g m 5) = (w, sDn g m 5) := by
        unfold awhy
        rw [kk]
        cases hq : gK g m with
        | none =>
          rw [hK.1 hq, if_pos (by decide)] at w0
          rw [w0]
        | some q =>
          obtain ⟨d1, -⟩ := hK.2 q hq
          rw [d1, if_neg (by decide)] at w0
          show (if dcP (eρ E (m / 2) = some q.1) = true then _ else _) = _
          rw [if_neg (fun z => hA ⟨q, hq, dcP_t.mp z⟩), w0]
      have hw1 : ¬ w = 0 := by rw [w0]; split <;> omega
      unfold abuild
      rw [hwy]
      show ∃ S1 k S', _ ∧ _ ∧ RB E (if w = 0 then _ else amake E (alook false E f) m (sWy (sDn g m 5) m w)).2 S' ∧ k + 30 * uG (if w = 0 then _ else amake E (alook false E f) m (sWy (sDn g m 5) m w)).2 ≤ _ ∧ _
      rw [if_neg hw1]
      obtain ⟨k2, S3, y1, y2, y3, y4⟩ := mk (sWy (sDn g m 5) m w) _ (WG_sWy hg5 m w) hR1 d5 (by rw [bG_wy]; omega) (by rw [bG_wy]; exact hbu) v1 ⟨v2, v4, v5, fun j x hx => by simp at hx⟩
      rw [uG_wy] at y3
      exact ⟨PU S m (bG g) 0 w, k2, S3, p1, y1, y2, by omega, KP_tr hkp y4 dmono⟩
theorem rlkP {E : Ev} {S0 : St} (hE : EvOK E) : ∀ f, RLK (RPl E S0) (alook true E f) f := by
  intro f
  refine ⟨fun m g h => alk_5 f m g h, fun m g hm h0 h5 hb => alk_d hm h0 h5 hb, ?_⟩
  induction f with
  | zero =>
    intro m g S hm hg hS h0 hb
    have := bG_lt hm (g := g) (by omega)
    omega
  | succ f ih =>
    intro m g S hm hg hS h0 hb
    have hL := alook_c hE true f
    have hLK : RLK (RPl E S0) (alook true E f) f := ⟨fun m g h => alk_5 f m g h, fun m g hm h0 h5 hb => alk_d hm h0 h5 hb, ih⟩
    obtain ⟨-, -, -, z1, z2, z3⟩ := alook_fin hE true (f := f) h0 hg
    refine ⟨⟨z1, z2, z3⟩, ?_⟩
    have hu := uG_5 hm h0
    have hbl := bG_lt hm (g := g) (by omega)
    have hbu := bG_up hm h0
    obtain ⟨c, w, p1, p2, p3⟩ := push_v (h := bG g) hE.2 hm (by omega) hS.1.2.1 hS.1.2.2.2
    obtain ⟨v1, v2, v3, v4, v5, v6⟩ := PU_at (S := S) (n := m) (h := bG g) (c := c) (w := w)
    have hal : alook true E (f + 1) m g = aplain E (alook true E f) m (sDn g m 5) := by
      rw [alook, if_neg (by omega), if_neg (by omega), if_pos rfl]
    rw [hal]
    have hg5 := WG_sDn5 hg m
    have d5 : gDn (sDn g m 5) m = 5 := fu_s
    have hkp : KP (bG g) m g S (PU S m (bG g) c w) := KP_push
    have dmono : ∀ x, ¬ x = m → gDn g x = 5 → gDn (sDn g m 5) x = 5 := fun x hx hd => (fu_n hx).trans hd
    have c0 : c = 0 := by
      by_cases hA : ALK (eρ E) m S
      · have := (p2 hA).2
        rwa [if_neg (by rw [hS.2.1]; decide)] at this
      · exact (p3 hA).1
    subst c0
    obtain ⟨k2, S3, y1, y2, y3, y4⟩ := rmakeP (h := bG g) hE hL hLK hm hg5 (RPl_push (c := 0) (w := w) hm h0 hS) d5 (by omega) hbu v1 ⟨v2, v4, v5, fun j x hx => by simp at hx⟩
    exact ⟨PU S m (bG g) 0 w, k2, S3, p1, y1, y2, by omega, KP_tr hkp y4 dmono⟩
