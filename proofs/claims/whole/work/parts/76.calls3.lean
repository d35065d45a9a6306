/-! an input is added -/
def addI (r : Rul) (w y : Nat) : Rul := (kd r, nb r, sl r, tm r, ip r ++ [(w, y)])
theorem ruC_add {r : Rul} {w y p : Nat} (hp : p < 13) (hl : (ip r).length < 4) : ruC (addI r w y) p = if p = 4 then nI ((ip r).length + 1) else if p = 5 + (ip r).length * 2 then nI w else if p = 5 + (ip r).length * 2 + 1 then nI y else ruC r p := by
  by_cases h4 : p = 4
  · subst h4
    rw [if_pos rfl]
    show nI (ip r ++ [(w, y)]).length = _
    rw [List.length_append]; rfl
  · rw [if_neg h4]
    by_cases hlo : p < 4
    · rw [if_neg (by omega), if_neg (by omega)]
      have h : p = 0 ∨ p = 1 ∨ p = 2 ∨ p = 3 := by omega
      rcases h with rfl | rfl | rfl | rfl <;> rfl
    · have e : ruC (addI r w y) p = (match (ip r ++ [(w, y)])[(p - 5) / 2]? with | some q => if (p - 5) % 2 = 0 then nI q.1 else nI q.2 | none => -1) := by
        unfold ruC
        rw [if_neg (by omega), if_neg (by omega), if_neg (by omega), if_neg (by omega), if_neg h4]
        rfl
      have e2 : ruC r p = (match (ip r)[(p - 5) / 2]? with | some q => if (p - 5) % 2 = 0 then nI q.1 else nI q.2 | none => -1) := by
        unfold ruC
        rw [if_neg (by omega), if_neg (by omega), if_neg (by omega), if_neg (by omega), if_neg h4]
        rfl
      rw [e, e2]
      by_cases h1 : (p - 5) / 2 < (ip r).length
      · rw [List.getElem?_append_left h1, if_neg (by omega), if_neg (by omega)]
      · by_cases h2 : (p - 5) / 2 = (ip r).length
        · rw [h2, List.getElem?_append_right (Nat.le_refl _), Nat.sub_self]
          show (if (p - 5) % 2 = 0 then nI w else nI y) = _
          by_cases h3 : (p - 5) % 2 = 0
          · rw [if_pos h3, if_pos (by omega)]
          · rw [if_neg h3, if_neg (by omega), if_pos (by omega)]
        · rw [List.getElem?_eq_none (l := ip r ++ [(w, y)]) (by simp; omega), List.getElem?_eq_none (l := ip r) (by omega), if_neg (by omega), if_neg (by omega)]
theorem limw {w : Nat} (hw : w < 4) : (if nI w = 0 then nI 20 else if nI w = nI 1 then nI 4 else nI 16) = nI (lim w) := by
  have h : w = 0 ∨ w = 1 ∨ w = 2 ∨ w = 3 := by omega
  rcases h with rfl | rfl | rfl | rfl <;> decide
theorem ok_input {k : Nat} {Sc Sr : St} (h : INV k Sc Sr) : OK_input (INV (k + 1)) Sc Sr := by
  intro p1 p2 p3
  -- refusals
  have refuse : ∀ e, e = 1 ∨ e = 2 ∨ e = 3 → m_X6_input Sc p1 p2 p3 = some (.inl e) → m_X7_input Sr p1 p2 p3 = some (nI 0, wi Sr 47 0 (nI e)) → ∃ (res : Sum Nat (Int32 × St)) (b : Int32) (Sq : St), m_X6_input Sc p1 p2 p3 = some res ∧ m_X7_input Sr p1 p2 p3 = some (b, Sq) ∧ (∀ e, res = .inl e → ex123 e ∧ rs Sq 47 = tb12 e ∧ INV (k + 1) Sc Sq) ∧ (∀ r Sd, res = .inr (r, Sd) → rs Sq 47 = 0 ∧ cvI r = Int32.toInt64 b ∧ INV (k + 1) Sd Sq) := fun e he q1 q2 =>
    ⟨_, _, _, q1, q2, fun e2 q => (by cases q; exact ⟨he, wi_at, INV_47 h⟩), fun r Sd q => (by cases q)⟩
  have j99 : ∀ e, e = 1 ∨ e = 2 ∨ e = 3 → m_X7_input_J99 Sr p1 p2 p3 (nI e) = some (nI 0, wi Sr 47 0 (nI e)) := fun e he => by
    unfold m_X7_input_J99
    rw [goes_n he, zo2_e, if_pos (by decide)]
  rcases idx p1 (n := 16) (by omega) with ⟨t, ht, rfl⟩ | hb
  · rcases idx p2 (n := 4) (by omega) with ⟨w, hw, rfl⟩ | hw
    · have hl := lim_le w
      have cls : m_X6_input Sc (nI t) (nI w) p3 = m_X6_input_J18 Sc (nI t) (nI w) p3 (nI 1) := by
        unfold m_X6_input
        rw [rot_t ht, zx_r, if_neg (nI_pos (by omega)), if_neg (by rw [lt_nI (by omega) (by omega)]; omega)]
      have rfc : m_X7_input Sr (nI t) (nI w) p3 = m_X7_input_J35 Sr p3 (nI t) (nI w) (nI 1) (nI (lim w - 1)) := by
        unfold m_X7_input
        rw [isIn_t (a := 0) (b := 3) (by omega) (by omega) (by rw [nT (by omega)]; omega), zo_e, if_neg (by decide)]
        have hq : w = 0 ∨ w = 1 ∨ w = 2 ∨ w = 3 := by omega
        rcases hq with rfl | rfl | rfl | rfl
        · rw [if_pos (by decide)]; rfl
        · rw [if_neg (by decide), if_pos rfl]; rfl
        · rw [if_neg (by decide), if_neg (by decide)]; rfl
        · rw [if_neg (by decide), if_neg (by decide)]; rfl
      have hlp : 0 < lim w := by unfold lim; split <;> (try split) <;> omega
      rcases idx p3 (n := lim w) (by omega) with ⟨y, hy, rfl⟩ | hy
      · -- in range
        have c2 : m_X6_input_J18 Sc (nI t) (nI w) (nI y) (nI 1) = m_X6_input_J47 (nI 1) Sc (nI t) (nI w) (nI y) := by
          unfold m_X6_input_J18 m_X6_howManyOf
          rw [if_neg (by decide), if_neg (nI_pos (by omega))]
          have e : (if nI w = 0 then some (nI 20) else if nI w = nI 1 then some (nI 4) else some (nI 16)) = some (nI (lim w)) := by
            rw [← limw hw]
            split
            · rfl
            · split <;> rfl
          rw [e, zo_e, if_pos (by rw [lt_nI (by omega) (by omega)]; exact hy)]
        have r2 : m_X7_input_J35 Sr (nI y) (nI t) (nI w) (nI 1) (nI (lim w - 1)) = m_X7_input_J46 Sr (nI t) (nI w) (nI y) (nI 1) (nI 1) := by
          unfold m_X7_input_J35 m_X7_input_J41
          rw [isIn_t (a := 0) (by omega) (by omega) (by rw [nT (by omega)]; omega), zo_e, if_neg (by decide)]
        obtain ⟨E, g, hE, hW, hc, hr⟩ := INV_mono k Sc Sr h
        have rR := hr.2.1 t ht
        cases hρ : eρ E t with
        | none =>
          refine refuse 3 (by omega) ?_ ?_
          · rw [cls, c2]
            unfold m_X6_input_J47
            rw [if_neg (by decide), tg_1 ht (by omega), zo_e, tg_1 ht (by omega), zo_e, hc.2.1 t ht 1 (by omega), hρ, show rlC none 1 = -1 from rfl, if_pos rfl]
          · rw [rfc, r2]
            unfold m_X7_input_J46
            rw [rtg_t ht, zo_e, if_neg (by decide), if_neg (by decide), if_neg (by decide), zg_in ht (by omega), ri_n (by omega), rR.1 hρ, if_pos rfl]
            exact j99 3 (by omega)
        | some r =>
          have hr2 := hE.2 _ _ hρ
          obtain ⟨m1, m2, m3, m4, m5, m6⟩ := rR.2 r hρ
          have h5 := hr2.1
          have hl4 := hr2.2.2.2.2.2.1
          have k1 : Sc.1 1 (t * 13 + 1) = nI (kd r) := by rw [hc.2.1 t ht 1 (by omega), hρ]; rfl
          have k4 : Sc.1 1 (t * 13 + 4) = nI (ip r).length := by rw [hc.2.1 t ht 4 (by omega), hρ]; rfl
          by_cases hf : (ip r).length = 4
          · refine refuse 3 (by omega) ?_ ?_
            · rw [cls, c2]
              unfold m_X6_input_J47
              rw [if_neg (by decide), tg_1 ht (by omega), zo_e, tg_1 ht (by omega), zo_e, k1, k4, if_neg (nI_n1 (by omega)), if_neg (by rw [lt_nI (by omega) (by omega)]; omega)]
            · rw [rfc, r2]
              unfold m_X7_input_J46
              rw [rtg_t ht, zo_e, if_neg (by decide), if_neg (by decide), if_neg (by decide), zg_in ht (by omega), ri_n (by omega), m1, if_neg (nI_n1 (by omega)), zg_in ht (by omega), ri_n (by omega), m5, if_pos (by rw [hf])]
              exact j99 3 (by omega)
          · have hlt : (ip r).length < 4 := by omega
            have eC : m_X6_input Sc (nI t) (nI w) (nI y) = some (.inr (nI ((ip r).length + 1), tb Sc 1 (upd (upd (upd (Sc.1 1) (t * 13 + (5 + (ip r).length * 2)) (nI w)) (t * 13 + (5 + (ip r).length * 2 + 1)) (nI y)) (t * 13 + 4) (nI ((ip r).length + 1))))) := by
              rw [cls, c2]
              unfold m_X6_input_J47
              rw [if_neg (by decide), tg_1 ht (by omega), zo_e, tg_1 ht (by omega), zo_e, k1, k4, if_neg (nI_n1 (by omega)), if_pos (by rw [lt_nI (by omega) (by omega)]; exact hlt)]
              simp only [pk_mul, nI_add]
              rw [Nat.add_zero, ts_1 ht (by omega), zo_e, ts_1 ht (by omega), zo_e, tb_tb, tb_s, ts_1 ht (by omega), zo_e, tb_tb, tb_s]
            have eR : m_X7_input Sr (nI t) (nI w) (nI y) = some (nI ((ip r).length + 1), wi (wi (wi (wi Sr 47 0 (nI 0)) 6 (4 * t + (ip r).length) (nI w)) 7 (4 * t + (ip r).length) (nI y)) 5 t (nI ((ip r).length + 1))) := by
              rw [rfc, r2]
              unfold m_X7_input_J46 m_X7_input_J99
              rw [rtg_t ht, zo_e, if_neg (by decide), if_neg (by decide), if_neg (by decide), zg_in ht (by omega), ri_n (by omega), m1, if_neg (nI_n1 (by omega)), zg_in ht (by omega), ri_n (by omega), m5, if_neg (nI_ne (by omega) (by omega) hf), goes_0, zo2_e, if_neg (by decide), zg_in ht (by omega), ri_n (by omega), wi_ne (by omega), m5]
              simp only [pk_mul, nI_add]
              rw [zg_in (show 4 * t + (ip r).length < 64 by omega) (by omega), tn (by omega), zb_e, zg_in ht (by omega), ri_n (by omega), wi_ne (by omega), wi_ne (by omega), m5, nI_add, zg_in (show 4 * t + (ip r).length < 64 by omega) (by omega), tn (by omega), zb_e, zg_in ht (by omega), zg_in ht (by omega), ri_n (by omega), wi_ne (by omega), wi_ne (by omega), wi_ne (by omega), m5, nI_add, tn (by omega), zb_e, zg_in ht (by omega), ri_n (by omega), wi_at]
            refine ⟨_, _, _, eC, eR, fun e q => (by cases q), fun r3 Sd q => ?_⟩
            cases q
            have hRul : RulOK (addI r w y) := by
              obtain ⟨s1, s2, s3, s4, s5, s6, s7⟩ := hr2
              refine ⟨s1, s2, s3, s4, s5, ?_, fun q hq => ?_⟩
              · show (ip r ++ [(w, y)]).length ≤ 4
                rw [List.length_append]
                show (ip r).length + 1 ≤ 4
                omega
              · rcases List.mem_append.mp hq with z | z
                · exact s7 q z
                · rw [List.mem_singleton.mp z]
                  exact ⟨hw, hy⟩
            refine ⟨?_, rfl, (eφ E, fu (eρ E) t (some (addI r w y)), E.2.2), g, ⟨hE.1, fun a r4 hr4 => ?_⟩, hW, RC_rul hc rfl rfl rfl (fun a ha p hp => ?_), RI_rul (RI_47 (v := nI 0) hr) rfl rfl rfl (fun a ha => ?_) (fun k j q => by rw [wi_ne (by omega), wi_ne (by omega), wi_ne (by omega)]) rfl⟩
            · rw [rs_v, wi_ne (by omega), wi_ne (by omega), wi_ne (by omega), wi_at]; rfl
            · have hr4 : fu (eρ E) t (some (addI r w y)) a = some r4 := hr4
              unfold fu at hr4
              split at hr4
              · cases hr4; exact hRul
              · exact hE.2 a r4 hr4
            · show _ = rlC (fu (eρ E) t (some (addI r w y)) a) p
              by_cases hat : a = t
              · subst hat
                rw [fu_s]
                show _ = ruC (addI r w y) p
                rw [ruC_add hp hlt]
                by_cases q4 : p = 4
                · subst q4; rw [pk_us, if_pos rfl]
                · rw [pk_un (by omega), if_neg q4]
                  by_cases q6 : p = 5 + (ip r).length * 2 + 1
                  · subst q6; rw [pk_us, if_neg (by omega), if_pos rfl]
                  · rw [pk_un (by omega)]
                    by_cases q5 : p = 5 + (ip r).length * 2
                    · subst q5; rw [pk_us, if_pos rfl]
                    · rw [pk_un (by omega), if_neg q5, if_neg q6, hc.2.1 a ha p hp, hρ]; rfl
              · rw [fu_n hat, pk_un (by omega), pk_un (by omega), pk_un (by omega)]
                exact hc.2.1 a ha p hp
            · obtain ⟨x1, x2⟩ := (RI_47 (v := nI 0) hr).2.1 a ha
              have e : ∀ k j, ¬ k = 5 → ¬ k = 6 → ¬ k = 7 → (wi (wi (wi (wi Sr 47 0 (nI 0)) 6 (4 * t + (ip r).length) (nI w)) 7 (4 * t + (ip r).length) (nI y)) 5 t (nI ((ip r).length + 1))).1 k j = (wi Sr 47 0 (nI 0)).1 k j := fun k j q1 q2 q3 => by
                rw [wi_ne (by omega), wi_ne (by omega), wi_ne (by omega)]
              show (fu (eρ E) t (some (addI r w y)) a = none → _) ∧ ∀ r2, fu (eρ E) t (some (addI r w y)) a = some r2 → _
              by_cases hat : a = t
              · subst hat
                rw [fu_s]
                refine ⟨fun z => (by cases z), fun r4 z => ?_⟩
                cases z
                obtain ⟨n1, n2, n3, n4, n5, n6⟩ := x2 r hρ
                refine ⟨?_, ?_, ?_, ?_, ?_, fun i q hq => ?_⟩
                · rw [e _ _ (by omega) (by omega) (by omega)]; exact n1
                · rw [e _ _ (by omega) (by omega) (by omega)]; exact n2
                · rw [e _ _ (by omega) (by omega) (by omega)]; exact n3
                · rw [e _ _ (by omega) (by omega) (by omega)]; exact n4
                · rw [wi_at]
                  show _ = nI (ip r ++ [(w, y)]).length
                  rw [List.length_append]; rfl
                · have hq : (ip r ++ [(w, y)])[i]? = some q := hq
                  have hi := (List.getElem?_eq_some_iff.mp hq).1
                  rw [List.length_append, List.length_singleton] at hi
                  by_cases hil : i < (ip r).length
                  · rw [List.getElem?_append_left hil] at hq
                    rw [wi_ne (by omega), wi_ne (by omega), wi_ne (by omega), wi_ne (by omega), wi_ne (by omega), wi_ne (by omega)]
                    exact n6 i q hq
                  · have hie : i = (ip r).length := by omega
                    subst hie
                    rw [List.getElem?_append_right (Nat.le_refl _), Nat.sub_self] at hq
                    cases hq
                    rw [wi_ne (by omega), wi_ne (by omega), wi_at, wi_ne (by omega), wi_at]
                    exact ⟨rfl, rfl⟩
              · rw [fu_n hat]
                refine ⟨fun z => by rw [e _ _ (by omega) (by omega) (by omega)]; exact x1 z, fun r4 z => ?_⟩
                obtain ⟨n1, n2, n3, n4, n5, n6⟩ := x2 r4 z
                have hl4' := (hE.2 _ _ z).2.2.2.2.2.1
                refine ⟨?_, ?_, ?_, ?_, ?_, fun i q hq => ?_⟩
                · rw [e _ _ (by omega) (by omega) (by omega)]; exact n1
                · rw [e _ _ (by omega) (by omega) (by omega)]; exact n2
                · rw [e _ _ (by omega) (by omega) (by omega)]; exact n3
                · rw [e _ _ (by omega) (by omega) (by omega)]; exact n4
                · rw [wi_ne (by omega), wi_ne (by omega), wi_ne (by omega)]; exact n5
                · have hi := (List.getElem?_eq_some_iff.mp hq).1
                  rw [wi_ne (by omega), wi_ne (by omega), wi_ne (by omega), wi_ne (by omega), wi_ne (by omega), wi_ne (by omega)]
                  exact n6 i q hq
      · refine refuse 1 (by omega) ?_ ?_
        · rw [cls]
          unfold m_X6_input_J18 m_X6_howManyOf
          rw [if_neg (by decide)]
          by_cases h1 : p3 < 0
          · rw [if_pos h1]
          · rw [if_neg h1]
            rw [i_lt0] at h1
            have e : (if nI w = 0 then some (nI 20) else if nI w = nI 1 then some (nI 4) else some (nI 16)) = some (nI (lim w)) := by
              rw [← limw hw]
              split
              · rfl
              · split <;> rfl
            rw [e, zo_e, if_neg (by rw [i_lt (by omega)]; omega)]
        · rw [rfc]
          unfold m_X7_input_J35 m_X7_input_J46
          rw [isIn_f (a := 0) (by omega) (by omega) (by omega), zo_e, if_pos (by decide), rtg_t ht, zo_e, if_neg (by decide), if_pos (by decide)]
          exact j99 1 (by omega)
    · have cls : m_X6_input Sc (nI t) p2 p3 = m_X6_input_J17 Sc (nI t) p2 p3 := by
        unfold m_X6_input
        rw [rot_t ht, zx_r]
        by_cases h1 : p2 < 0
        · rw [if_pos h1]
        · rw [if_neg h1, if_pos (by rw [lt_i (by omega)]; rw [i_lt0] at h1; omega)]
      refine refuse 2 (by omega) ?_ ?_
      · rw [cls]
        unfold m_X6_input_J17 m_X6_input_J18 m_X6_input_J47
        rw [if_pos (by decide), if_pos (by decide)]
      · unfold m_X7_input m_X7_input_J41 m_X7_input_J46
        rw [isIn_f (a := 0) (b := 3) (by omega) (by omega) (by omega), zo_e, if_pos (by decide), rtg_t ht, zo_e, if_neg (by decide), if_neg (by decide), if_pos (by decide)]
        exact j99 2 (by omega)
  · refine refuse 1 (by omega) ?_ ?_
    · unfold m_X6_input
      rw [rot_f hb, zx_l]
    · have fin : ∀ x t2, m_X7_input_J46 Sr p1 p2 p3 x t2 = some (nI 0, wi Sr 47 0 (nI 1)) := fun x t2 => by
        unfold m_X7_input_J46
        rw [rtg_f hb, zo_e, if_pos (by decide)]
        exact j99 1 (by omega)
      have fin2 : ∀ x t2, m_X7_input_J35 Sr p3 p1 p2 x t2 = some (nI 0, wi Sr 47 0 (nI 1)) := fun x t2 => by
        unfold m_X7_input_J35 m_X7_input_J41
        obtain ⟨y, ey⟩ := isIn_s Sr p3 (nI 0) t2
        rw [ey, zo_e, fin, fin]
        split <;> rfl
      unfold m_X7_input m_X7_input_J41
      obtain ⟨y, ey⟩ := isIn_s Sr p2 (nI 0) (nI 3)
      rw [ey, zo_e]
      simp only [fin, fin2]
      split
      · rfl
      · split
        · rfl
        · split <;> rfl
