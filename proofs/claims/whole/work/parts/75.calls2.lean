theorem clr1_v {S : St} {t : Nat} (ht : t < 16) : m_X4_clear 1 S (nI t) = some (tb S 1 (clrF (S.1 1) (t * 13) 13 (-1))) := clear_v (k := 1) (by omega) (S := S) (r := t) ht
theorem RC_rul {E E' : Ev} {T : Nat} {g : Gs} {S : St} {f : Nat → Int32} (h : RC E 0 T g S) (e1 : eφ E' = eφ E) (e2 : ePo E' = ePo E) (e3 : eCk E' = eCk E) (hf : RulT (eρ E') f) : RC E' 0 T g (tb S 1 f) := by
  obtain ⟨c0, c1, c2, c3, c4, c5, c12, c14, c15, c16, c17, c8⟩ := h
  refine ⟨?_, ?_, ?_, ?_, ?_, ?_, ?_, ?_, ?_, ?_, ?_, ?_⟩
  · rw [tb_n (by omega), e1]; exact c0
  · rw [tb_s]; exact hf
  · rw [tb_n (by omega)]; exact c2
  · rw [tb_n (by omega), tb_n (by omega)]; exact c3
  · rw [tb_n (by omega), e2]; exact c4
  · rw [tb_n (by omega)]; exact c5
  · rw [tb_n (by omega)]; exact c12
  · rw [tb_n (by omega), e3]; exact c14
  · rw [tb_n (by omega)]; exact c15
  · rw [tb_n (by omega)]; exact c16
  · rw [tb_n (by omega)]; exact c17
  · rw [tb_n (by omega)]; exact c8
theorem RI_rul {E E' : Ev} {g : Gs} {S S' : St} (h : RI E g S) (e1 : eφ E' = eφ E) (e2 : ePo E' = ePo E) (e3 : eCk E' = eCk E) (hf : RrT (eρ E') S') (e : ∀ k j, ¬ (0 < k ∧ k < 8) → S'.1 k j = S.1 k j) (e4 : S'.2 = S.2) : RI E' g S' := by
  obtain ⟨d1, d2, d3, d4, d5, d6, d7, d8⟩ := h
  refine ⟨fun i hi => by rw [e 0 i (by omega), e1]; exact d1 i hi, hf, by rw [e _ _ (by omega)]; exact d3, ?_, KeI_eq d5 (fun k j _ _ => e k j (by omega)) (fun _ _ _ _ => by rw [e4]), CaR_eq d6 (fun k j _ => e k j (by omega)) (fun _ => by rw [e4]), DoI_eq d7 rfl rfl (fun k j _ => e k j (by omega)), CoR_eq d8 rfl rfl (fun j => e 33 j (by omega))⟩
  have hm := MaR_eq (g' := g) d4 rfl rfl rfl rfl rfl (fun k j _ _ => e k j (by omega))
  unfold MaR at hm ⊢
  rw [e2, e3]
  exact hm
theorem isIn_s (S : St) (x a b : Int32) : ∃ y, m_X7_isIn S x a b = some y := by
  unfold m_X7_isIn
  split
  · exact ⟨_, rfl⟩
  · split
    · exact ⟨_, rfl⟩
    · exact ⟨_, rfl⟩
theorem ok_rule {k : Nat} {Sc Sr : St} (h : INV k Sc Sr) : OK_rule (INV (k + 1)) Sc Sr := by
  intro p1 p2 p3 p4 p5
  rcases idx p1 (n := 16) (by omega) with ⟨t, ht, rfl⟩ | hb
  · by_cases hg : (-1 ≤ p2.toInt ∧ p2.toInt ≤ ((4 : Nat) : Int)) ∧ (0 ≤ p3.toInt ∧ p3.toInt ≤ ((999 : Nat) : Int)) ∧ (0 ≤ p4.toInt ∧ p4.toInt ≤ ((999 : Nat) : Int)) ∧ (1 ≤ p5.toInt ∧ p5.toInt ≤ ((20 : Nat) : Int))
    · obtain ⟨g2, g3, g4, g5⟩ := hg
      obtain ⟨n, hn, rfl⟩ : ∃ n, n < 1000 ∧ p3 = nI n := by
        rcases idx p3 (n := 1000) (by omega) with q | q | q
        · exact q
        · omega
        · omega
      obtain ⟨s, hs, rfl⟩ : ∃ n, n < 1000 ∧ p4 = nI n := by
        rcases idx p4 (n := 1000) (by omega) with q | q | q
        · exact q
        · omega
        · omega
      obtain ⟨m, hm, rfl⟩ : ∃ n, n < 21 ∧ p5 = nI n := by
        rcases idx p5 (n := 21) (by omega) with q | q | q
        · exact q
        · omega
        · omega
      rw [nT (by omega)] at g5
      obtain ⟨o, ho, ho2⟩ : ∃ o : Option Nat, (∀ n, o = some n → n < 5) ∧ p2 = eO o := by
        rcases idx p2 (n := 5) (by omega) with ⟨a, b, c⟩ | q | q
        · exact ⟨some a, fun n z => (by cases z; exact b), c⟩
        · refine ⟨none, fun n z => (by cases z), Int32.toInt_inj.mp ?_⟩
          have h1 : (eO none).toInt = -1 := by decide
          omega
        · omega
      obtain ⟨E, g, hE, hW, hc, hr⟩ := INV_mono k Sc Sr h
      have hk1 := hc.2.1 t ht 1 (by omega)
      have hRt := (RI_47 (v := nI 0) hr).2.1 t ht
      -- the new rule
      obtain ⟨nr, hnr⟩ : ∃ nr : Option Rul, nr = o.map (fun a => (a, n, s, m, [])) := ⟨_, rfl⟩
      have hE' : EvOK (eφ E, fu (eρ E) t nr, E.2.2) := by
        refine ⟨hE.1, fun a r hr2 => ?_⟩
        have hr2 : fu (eρ E) t nr a = some r := hr2
        unfold fu at hr2
        split at hr2
        · subst hnr
          cases o with
          | none => cases hr2
          | some b =>
            cases hr2
            exact ⟨ho b rfl, hn, hs, by show 1 ≤ m; omega, by show m ≤ 20; omega, Nat.zero_le _, fun q hq => (by cases hq)⟩
        · exact hE.2 a r hr2
      have hadI : ∀ b : Int32, (∃ f, m_X6_rule Sc (nI t) p2 (nI n) (nI s) (nI m) = some (.inr (b, tb Sc 1 f)) ∧ RulT (fu (eρ E) t nr) f) → m_X7_rule Sr (nI t) p2 (nI n) (nI s) (nI m) = some (b, wi (wi (wi (wi (wi (wi Sr 47 0 (nI 0)) 1 t p2) 2 t (nI n)) 3 t (nI s)) 4 t (nI m)) 5 t (nI 0)) →
          ∃ (res : Sum Nat (Int32 × St)) (b : Int32) (Sq : St), m_X6_rule Sc (nI t) p2 (nI n) (nI s) (nI m) = some res ∧ m_X7_rule Sr (nI t) p2 (nI n) (nI s) (nI m) = some (b, Sq) ∧ (∀ e, res = .inl e → ex12 e ∧ rs Sq 47 = tb12 e ∧ INV (k + 1) Sc Sq) ∧ (∀ r Sd, res = .inr (r, Sd) → rs Sq 47 = 0 ∧ cvZ r = cvZ b ∧ INV (k + 1) Sd Sq) := by
        rintro b ⟨f, f1, f2⟩ f3
        refine ⟨_, _, _, f1, f3, fun e q => (by cases q), fun r Sd q => ?_⟩
        cases q
        refine ⟨?_, rfl, (eφ E, fu (eρ E) t nr, E.2.2), g, hE', hW, RC_rul hc rfl rfl rfl f2, RI_rul (RI_47 (v := nI 0) hr) rfl rfl rfl (fun a ha => ?_) (fun k j q => by rw [wi_ne (by omega), wi_ne (by omega), wi_ne (by omega), wi_ne (by omega), wi_ne (by omega)]) rfl⟩
        · rw [rs_v, wi_ne (by omega), wi_ne (by omega), wi_ne (by omega), wi_ne (by omega), wi_ne (by omega), wi_at]; rfl
        · show (fu (eρ E) t nr a = none → _) ∧ ∀ r, fu (eρ E) t nr a = some r → _
          by_cases hat : a = t
          · subst hat
            rw [fu_s, hnr]
            refine ⟨fun z => ?_, fun r z => ?_⟩
            · rw [wi_ne (by omega), wi_ne (by omega), wi_ne (by omega), wi_ne (by omega), wi_at, ho2]
              cases o with
              | none => rfl
              | some b => cases z
            · cases o with
              | none => cases z
              | some b =>
                cases z
                refine ⟨?_, ?_, ?_, ?_, wi_at, fun i q hq => by cases hq⟩
                · rw [wi_ne (by omega), wi_ne (by omega), wi_ne (by omega), wi_ne (by omega), wi_at, ho2]; rfl
                · rw [wi_ne (by omega), wi_ne (by omega), wi_ne (by omega), wi_at]
                · rw [wi_ne (by omega), wi_ne (by omega), wi_at]
                · rw [wi_ne (by omega), wi_at]
          · rw [fu_n hat]
            have e : ∀ k j, ¬ j = t → (wi (wi (wi (wi (wi (wi Sr 47 0 (nI 0)) 1 t p2) 2 t (nI n)) 3 t (nI s)) 4 t (nI m)) 5 t (nI 0)).1 k j = (wi Sr 47 0 (nI 0)).1 k j := fun k j q => by
              rw [wi_ne (by omega), wi_ne (by omega), wi_ne (by omega), wi_ne (by omega), wi_ne (by omega)]
            have e67 : ∀ k j, k = 6 ∨ k = 7 → (wi (wi (wi (wi (wi (wi Sr 47 0 (nI 0)) 1 t p2) 2 t (nI n)) 3 t (nI s)) 4 t (nI m)) 5 t (nI 0)).1 k j = (wi Sr 47 0 (nI 0)).1 k j := fun k j q => by
              rw [wi_ne (by omega), wi_ne (by omega), wi_ne (by omega), wi_ne (by omega), wi_ne (by omega)]
            obtain ⟨x1, x2⟩ := (RI_47 (v := nI 0) hr).2.1 a ha
            refine ⟨fun z => by rw [e _ _ hat]; exact x1 z, fun r z => ?_⟩
            have hm2 := x2 r z
            unfold RrM at hm2 ⊢
            rw [e _ _ hat, e _ _ hat, e _ _ hat, e _ _ hat, e _ _ hat]
            refine ⟨hm2.1, hm2.2.1, hm2.2.2.1, hm2.2.2.2.1, hm2.2.2.2.2.1, fun i q hq => ?_⟩
            rw [e67 _ _ (by omega), e67 _ _ (by omega)]
            exact hm2.2.2.2.2.2 i q hq
      -- the class's row
      have row : ∀ x : Int32, (if p2 = -1 then (some (Sum.inr (x, tb Sc 1 (clrF (Sc.1 1) (t * 13) 13 (-1)))) : Option (Sum Nat (Int32 × St))) else
          zo (m_X4_set 1 (tb Sc 1 (clrF (Sc.1 1) (t * 13) 13 (-1))) (nI t) (nI 0) (nI m)) fun S6 => zo (m_X4_set 1 S6 (nI t) (nI 1) p2) fun S7 => zo (m_X4_set 1 S7 (nI t) (nI 2) (nI n)) fun S8 => zo (m_X4_set 1 S8 (nI t) (nI 3) (nI s)) fun S9 => zo (m_X4_set 1 S9 (nI t) (nI 4) (nI 0)) fun S10 => some (.inr (x, S10))) = some (.inr (x, tb Sc 1 (if p2 = -1 then clrF (Sc.1 1) (t * 13) 13 (-1) else upd (upd (upd (upd (upd (clrF (Sc.1 1) (t * 13) 13 (-1)) (t * 13 + 0) (nI m)) (t * 13 + 1) p2) (t * 13 + 2) (nI n)) (t * 13 + 3) (nI s)) (t * 13 + 4) (nI 0)))) := by
        intro x
        by_cases hp : p2 = -1
        · rw [if_pos hp, if_pos hp]
        · rw [if_neg hp, if_neg hp, ts_1 ht (by omega), zo_e, tb_tb, tb_s, ts_1 ht (by omega), zo_e, tb_tb, tb_s, ts_1 ht (by omega), zo_e, tb_tb, tb_s, ts_1 ht (by omega), zo_e, tb_tb, tb_s, ts_1 ht (by omega), zo_e, tb_tb, tb_s]
      have hrow : RulT (fu (eρ E) t nr) (if p2 = -1 then clrF (Sc.1 1) (t * 13) 13 (-1) else upd (upd (upd (upd (upd (clrF (Sc.1 1) (t * 13) 13 (-1)) (t * 13 + 0) (nI m)) (t * 13 + 1) p2) (t * 13 + 2) (nI n)) (t * 13 + 3) (nI s)) (t * 13 + 4) (nI 0)) := by
        intro a ha p hp
        have hcl : ∀ x, ¬ a = t → clrF (Sc.1 1) (t * 13) 13 x (a * 13 + p) = Sc.1 1 (a * 13 + p) := fun x q => by
          unfold clrF
          rw [if_neg (by omega)]
        have hcs : clrF (Sc.1 1) (t * 13) 13 (-1) (t * 13 + p) = -1 := by
          unfold clrF
          rw [if_pos (by omega)]
        by_cases hat : a = t
        · subst hat
          rw [fu_s, hnr]
          cases o with
          | none =>
            rw [if_pos (by rw [ho2]; rfl), hcs]
            rfl
          | some b =>
            have hb5 := ho b rfl
            have hp2 : p2 = nI b := ho2
            rw [if_neg (by rw [hp2]; exact nI_n1 (by omega)), hp2]
            show _ = ruC (b, n, s, m, []) p
            unfold ruC
            by_cases q0 : p = 0
            · subst q0
              rw [if_pos rfl, pk_un (by omega), pk_un (by omega), pk_un (by omega), pk_un (by omega), pk_us]
            · rw [if_neg q0]
              by_cases q1 : p = 1
              · subst q1
                rw [if_pos rfl, pk_un (by omega), pk_un (by omega), pk_un (by omega), pk_us]
              · rw [if_neg q1]
                by_cases q2 : p = 2
                · subst q2
                  rw [if_pos rfl, pk_un (by omega), pk_un (by omega), pk_us]
                · rw [if_neg q2]
                  by_cases q3 : p = 3
                  · subst q3
                    rw [if_pos rfl, pk_un (by omega), pk_us]
                  · rw [if_neg q3]
                    by_cases q4 : p = 4
                    · subst q4
                      rw [if_pos rfl, pk_us]; rfl
                    · rw [if_neg q4, pk_un (by omega), pk_un (by omega), pk_un (by omega), pk_un (by omega), pk_un (by omega), hcs]
                      rfl
        · rw [fu_n hat]
          split
          · rw [hcl _ hat]; exact hc.2.1 a ha p hp
          · rw [pk_un (by omega), pk_un (by omega), pk_un (by omega), pk_un (by omega), pk_un (by omega), hcl _ hat]; exact hc.2.1 a ha p hp
      have cls : ∀ x : Int32, (if Sc.1 1 (t * 13 + 1) = -1 then nI 0 else nI 1) = x → ∃ f, m_X6_rule Sc (nI t) p2 (nI n) (nI s) (nI m) = some (.inr (x, tb Sc 1 f)) ∧ RulT (fu (eρ E) t nr) f := by
        intro x hx
        refine ⟨_, ?_, hrow⟩
        unfold m_X6_rule m_X6_isValue
        rw [rot_t ht, zx_r, if_neg (by rw [i_ltm]; omega), if_pos (by rw [i_le (by omega)]; omega), if_neg (nI_pos (by omega)), if_neg (by rw [le_nI (by omega) (by omega)]; omega), zo_e, if_neg (by decide), if_neg (nI_pos (by omega)), if_neg (by rw [le_nI (by omega) (by omega)]; omega), zo_e, if_neg (by decide), if_neg (by rw [lt_nI (by omega) (by omega)]; omega), if_pos (by rw [le_nI (by omega) (by omega)]; omega), tg_1 ht (by omega), zo_e, clr1_v ht, zo_e]
        by_cases h1 : Sc.1 1 (t * 13 + 1) = -1
        · rw [if_pos h1] at hx ⊢
          subst hx
          exact row _
        · rw [if_neg h1] at hx ⊢
          subst hx
          rw [zo_e]
          exact row _
      have rfd : ∀ x : Int32, (if Sr.1 1 t = -1 then nI 0 else nI 1) = x → m_X7_rule Sr (nI t) p2 (nI n) (nI s) (nI m) = some (x, wi (wi (wi (wi (wi (wi Sr 47 0 (nI 0)) 1 t p2) 2 t (nI n)) 3 t (nI s)) 4 t (nI m)) 5 t (nI 0)) := by
        intro x hx
        unfold m_X7_rule m_X7_rule_J48 m_X7_rule_J72
        rw [isM_t (by omega) g2, zo_e, if_neg (by decide), isIn_t (by omega) (by omega) (by rw [nT (by omega)]; omega), zo_e, if_neg (by decide), isIn_t (by omega) (by omega) (by rw [nT (by omega)]; omega), zo_e, if_neg (by decide), isIn_t (by omega) (by omega) (by rw [nT (by omega)]; omega), zo_e, if_neg (by decide), rtg_t ht, zo_e, if_neg (by decide), if_neg (by decide), goes_0, zo2_e, if_neg (by decide)]
        simp only [zg_in ht (show 16 ≤ 2147483648 by omega), tn (show t < 2147483648 by omega), ri_n (show t < 2147483648 by omega), zb_e]
        rw [wi_ne (by omega)]
        by_cases h1 : Sr.1 1 t = -1
        · rw [if_pos h1] at hx ⊢
          rw [hx]
        · rw [if_neg h1] at hx ⊢
          rw [hx]
      have same : (Sc.1 1 (t * 13 + 1) = -1) = (Sr.1 1 t = -1) := by
        rw [hk1]
        cases hq : eρ E t with
        | none =>
          rw [(hr.2.1 t ht).1 hq]
          rfl
        | some r =>
          have := ((hr.2.1 t ht).2 r hq).1
          rw [this]
          rfl
      refine hadI (if Sr.1 1 t = -1 then nI 0 else nI 1) (cls _ ?_) (rfd _ rfl)
      simp only [same]
    · refine ⟨.inl 2, nI 0, wi Sr 47 0 (nI 2), ?_, ?_, fun e q => (by cases q; exact ⟨Or.inr rfl, wi_at, INV_47 h⟩), fun r Sd q => (by cases q)⟩
      · unfold m_X6_rule m_X6_isValue
        rw [rot_t ht, zx_r]
        by_cases h1 : p2 < -1
        · rw [if_pos h1]
        · rw [if_neg h1]
          rw [i_ltm] at h1
          by_cases h2 : p2 ≤ nI 4
          · rw [if_pos h2]
            rw [i_le (by omega)] at h2
            by_cases h3 : p3 < 0
            · rw [if_pos h3, zo_e, if_pos (by decide)]
            · rw [if_neg h3]
              rw [i_lt0] at h3
              by_cases h4 : nI 1000 ≤ p3
              · rw [if_pos h4, zo_e, if_pos (by decide)]
              · rw [if_neg h4, zo_e, if_neg (by decide)]
                rw [le_i (by omega)] at h4
                by_cases h5 : p4 < 0
                · rw [if_pos h5, zo_e, if_pos (by decide)]
                · rw [if_neg h5]
                  rw [i_lt0] at h5
                  by_cases h6 : nI 1000 ≤ p4
                  · rw [if_pos h6, zo_e, if_pos (by decide)]
                  · rw [if_neg h6, zo_e, if_neg (by decide)]
                    rw [le_i (by omega)] at h6
                    by_cases h7 : p5 < nI 1
                    · rw [if_pos h7]
                    · rw [if_neg h7]
                      rw [i_lt (by omega)] at h7
                      rw [if_neg (by rw [i_le (by omega)]; omega)]
          · rw [if_neg h2]
      · have fin : m_X7_rule_J47 Sr (nI t) p2 p3 p4 p5 = some (nI 0, wi Sr 47 0 (nI 2)) := by
          unfold m_X7_rule_J47 m_X7_rule_J48 m_X7_rule_J72
          rw [rtg_t ht, zo_e, if_neg (by decide), if_pos (by decide), goes_n (by omega), zo2_e, if_pos (by decide)]
        unfold m_X7_rule
        by_cases h1 : -1 ≤ p2.toInt ∧ p2.toInt ≤ ((4 : Nat) : Int)
        · rw [isM_t (by omega) h1, zo_e, if_neg (by decide)]
          by_cases h2 : 0 ≤ p3.toInt ∧ p3.toInt ≤ ((999 : Nat) : Int)
          · rw [isIn_t (a := 0) (b := 999) (by omega) (by omega) (by omega), zo_e, if_neg (by decide)]
            by_cases h3 : 0 ≤ p4.toInt ∧ p4.toInt ≤ ((999 : Nat) : Int)
            · rw [isIn_t (a := 0) (b := 999) (by omega) (by omega) (by omega), zo_e, if_neg (by decide), isIn_f (a := 1) (b := 20) (by omega) (by omega) (by omega), zo_e, if_pos (by decide), fin]
            · rw [isIn_f (x := p4) (by omega) (by omega) (by omega), zo_e, if_pos (by decide), fin]
          · rw [isIn_f (x := p3) (by omega) (by omega) (by omega), zo_e, if_pos (by decide), fin]
        · rw [isM_f (by omega) (by omega), zo_e, if_pos (by decide), fin]
  · refine ⟨.inl 1, nI 0, wi Sr 47 0 (nI 1), ?_, ?_, fun e q => (by cases q; exact ⟨Or.inl rfl, wi_at, INV_47 h⟩), fun r Sd q => (by cases q)⟩
    · unfold m_X6_rule
      rw [rot_f hb, zx_l]
    · have fin : ∀ t2, m_X7_rule_J48 Sr p1 p2 p3 p4 p5 t2 = some (nI 0, wi Sr 47 0 (nI 1)) := fun t2 => by
        unfold m_X7_rule_J48 m_X7_rule_J72
        rw [rtg_f hb, zo_e, if_pos (by decide), goes_n (by omega), zo2_e, if_pos (by decide)]
      unfold m_X7_rule m_X7_rule_J47
      simp only [fin]
      obtain ⟨x1, e1⟩ := isIn_s Sr p2 (-1) (nI 4)
      obtain ⟨x2, e2⟩ := isIn_s Sr p3 (nI 0) (nI 999)
      obtain ⟨x3, e3⟩ := isIn_s Sr p4 (nI 0) (nI 999)
      obtain ⟨x4, e4⟩ := isIn_s Sr p5 (nI 1) (nI 20)
      rw [e1, zo_e, e2, zo_e, e3, zo_e, e4, zo_e]
      split
      · rfl
      · split
        · rfl
        · split
          · rfl
          · split <;> rfl
