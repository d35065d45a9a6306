def wsSD : List Cond := [.classLink RL 8 RX6, .classLink RL 69 RX7, .initialized RX6, .initialized RX7, .methodLink RL 68 yX6_init, .methodLink RL 71 yX7_init, .instanceMethod yX6_init, .instanceMethod yX7_init]
set_option maxRecDepth 20000 in
theorem wsSD_in : ∀ w ∈ wsSD, w ∈ lw_tbl := mem_r _ [78, 790, 64, 71, 80, 792, 81, 793] rfl
theorem ad_at {w : va_W} {ad : Nat → Nat} {n : Nat} (h : w.map (fun q => q.1) = (List.range n).map ad) {j : Nat} (hj : j < n) : ∃ q, w[j]? = some q ∧ q.1 = ad j := by
  have h2 : (w.map (fun q => q.1))[j]? = some (ad j) := by rw [h]; simp [hj]
  rw [List.getElem?_map] at h2
  exact Option.map_eq_some_iff.mp h2
theorem ad_un {w : va_W} {ad : Nat → Nat} {n : Nat} (h : w.map (fun q => q.1) = (List.range n).map ad) {k : Nat} {q : Nat × va_E} (hq : w[k]? = some q) : k < n ∧ q.1 = ad k := by
  have h2 : (w.map (fun q => q.1))[k]? = some q.1 := by rw [List.getElem?_map, hq]; rfl
  rw [h] at h2
  have hk : k < n := by
    have := (List.getElem?_eq_some_iff.mp h2).1
    simpa using this
  refine ⟨hk, ?_⟩
  simp [hk] at h2
  exact h2.symm
theorem apart3 {ad bd : Nat → Nat} {o : Nat} {cyI cyJ cyZ : ClassId} {A : Nat → Prop} {S S' : St} {f : Nat → Int64} (hD : va_D A ((cw cyI ad S ++ mw cyI cyJ cyZ bd S') ++ [oc cyJ o f])) : (∀ j, j < 31 → A (ad j) ∧ ad j ≠ o) ∧ (∀ j, j < 41 → A (bd j) ∧ bd j ≠ o) ∧ (∀ j k, j < 31 → k < 41 → ad j ≠ bd k) ∧ A o := by
  have l1 : (cw cyI ad S).length = 31 := rfl
  have l2 : (mw cyI cyJ cyZ bd S').length = 41 := rfl
  have gC : ∀ {j : Nat} {q : Nat × va_E}, j < 31 → (cw cyI ad S)[j]? = some q → ((cw cyI ad S ++ mw cyI cyJ cyZ bd S') ++ [oc cyJ o f])[j]? = some q := fun {j} {q} hj h => by
    rw [List.getElem?_append_left (by rw [List.length_append]; omega), List.getElem?_append_left (by omega)]; exact h
  have gM : ∀ {j : Nat} {q : Nat × va_E}, j < 41 → (mw cyI cyJ cyZ bd S')[j]? = some q → ((cw cyI ad S ++ mw cyI cyJ cyZ bd S') ++ [oc cyJ o f])[31 + j]? = some q := fun {j} {q} hj h => by
    rw [List.getElem?_append_left (by rw [List.length_append]; omega), List.getElem?_append_right (by omega), l1, Nat.add_sub_cancel_left]; exact h
  have gO : ((cw cyI ad S ++ mw cyI cyJ cyZ bd S') ++ [oc cyJ o f])[72]? = some (oc cyJ o f) := rfl
  refine ⟨fun j hj => ?_, fun j hj => ?_, fun j k hj hk e => ?_, hD.2 _ _ gO⟩
  · obtain ⟨q, hq, e⟩ := ad_at (cw_ad (cyI := cyI) (ad := ad) (S := S)) hj
    refine ⟨by rw [← e]; exact hD.2 _ _ (gC hj hq), fun h => ?_⟩
    have := hD.1 _ _ _ _ (gC hj hq) gO (e.trans h)
    omega
  · obtain ⟨q, hq, e⟩ := ad_at (mw_ad (cyI := cyI) (cyJ := cyJ) (cyZ := cyZ) (bd := bd) (S := S')) hj
    refine ⟨by rw [← e]; exact hD.2 _ _ (gM hj hq), fun h => ?_⟩
    have := hD.1 _ _ _ _ (gM hj hq) gO (e.trans h)
    omega
  · obtain ⟨q, hq, e1⟩ := ad_at (cw_ad (cyI := cyI) (ad := ad) (S := S)) hj
    obtain ⟨q', hq', e2⟩ := ad_at (mw_ad (cyI := cyI) (cyJ := cyJ) (cyZ := cyZ) (bd := bd) (S := S')) hk
    have := hD.1 _ _ _ _ (gC hj hq) (gM hk hq') (e1.trans (e.trans e2.symm))
    omega
set_option maxHeartbeats 4000000 in
set_option maxRecDepth 100000 in
theorem start_of {I : Nat → St → St → Prop} (hI : ∀ k Sc Sr, I k Sc Sr → k < 512 → LawOK (I (k + 1)) Sc Sr) (hmono : ∀ k Sc Sr, I k Sc Sr → I (k + 1) Sc Sr) (h0 : I 0 S0c S0m) {p : Program} {e : Env} {s : State} {m : MethodId} {below : List Frame} {meth : Method} {c : Code} (l : Launch) (hflags : l.flags = flags0) {b L : Nat} {xs : Nat → Int32} (hL : L ≤ 3072) (C0 : lw_At p s m meth c b L xs) : W p l e room_1 s m #[Value.ref b] below meth c s.heap [] 0 0 (lw_Z below #[Value.ref b] s) (entryFrame m ([Value.ref b] : List Value).toArray 7) := by
  have hfl : l.stackTraces = false := by unfold Launch.stackTraces; rw [hflags]; decide +kernel
  have C1 := C0
  obtain ⟨hx, hb, hr, hml, hown, hts0, hX, hbl, hlocks, hgv⟩ := C0
  have hts : ∀ w ∈ wsL_law, w.before #[Value.ref b] s = true := fun w h => hts0 w (wsL_law_in w h)
  have hb : c.code = cL_law := hb
  have hown : s.vm.findClass RL = some m.cls := hown
  obtain ⟨D, cyI, cyJ, cyZ, hK⟩ := K_at hts0
  have hN := NW_at hts0
  have hZ := XW_at hts0 hgv (A := fun q : Nat => s.heap.size ≤ q) (fun a h => Nat.not_le.mpr h)
  have hC := CTf_at hgv
  obtain ⟨A, hAe⟩ : ∃ A : Nat → Prop, A = fun q : Nat => s.heap.size ≤ q := ⟨_, rfl⟩
  have hA : ∀ q : Nat, s.heap.size ≤ q → A q := fun q h => by rw [hAe]; exact h
  have hP : va_P D vwCl [] s.heap := fun k q h => by simp at h
  have hD : va_D A [] := ⟨fun i j p q h => by simp at h, fun k q h => by simp at h⟩
  have hS : va_S A s.heap s.heap [] := va_S.rf
  have hl := lv_entry ([.ref b]) (n := 7) (Nat.le_of_ble_eq_true rfl)
  refine W.eq (by rw [lg_entry_eq]) ?_
  generalize (lg_sl ([.ref b]) ++ List.replicate (7 - (lg_sl ([.ref b])).length) Slot.unset).toArray = ls at hl ⊢
  have hl : lv_has ls 7 [(0, .ref b)] := hl
  refine va_new (ci := 6) (fs := [.null, .null, .null, .null, .null, .null, .null, .null, .null]) (C := RX6) (T := TX6) (N := 9) hx hb hts0 wsX60_tb tyX6 tyX6_ok hown (hts0 _ (wsSD_in _ (List.mem_of_getElem? (i := 0) rfl))) (hts0 _ (wsSC_in _ (List.mem_of_getElem? (i := 6) rfl))) (hts0 _ (wsSD_in _ (List.mem_of_getElem? (i := 2) rfl))) hK hP hD hS hA rfl (fun j hj => by rcases (show j = 0 ∨ j = 1 ∨ j = 2 ∨ j = 3 ∨ j = 4 ∨ j = 5 ∨ j = 6 ∨ j = 7 ∨ j = 8 by omega) with rfl | rfl | rfl | rfl | rfl | rfl | rfl | rfl | rfl <;> rfl) (Nat.le_of_ble_eq_true rfl) (Nat.le_of_ble_eq_true rfl) dL_law_0 (fun q1 H hP hD hS => ?_)
  refine W.widen (k := 1) (n := 9) (Nat.le_of_ble_eq_true rfl) (Nat.le_of_ble_eq_true rfl) ?_
  refine lv_dup hx hb dL_law_3 rfl ?_
  refine ctor_go (wr := []) (rnI (wr := []) (e0 := .inr (6, [.null, .null, .null, .null, .null, .null, .null, .null, .null])) (As := []) (rest := [.ref q1]) ⟨hx, hb, hml, hown, hts⟩ (c_X6_init (cyI := cyI) (cyJ := cyJ) (cyZ := cyZ) (D := D)) (cwI 0 hts gL_law_X6_init rfl rfl rfl (hts0 _ (wsSD_in _ (List.mem_of_getElem? (i := 2) rfl))) (hts0 _ (wsSD_in _ (List.mem_of_getElem? (i := 4) rfl))) (hts0 _ (wsSD_in _ (List.mem_of_getElem? (i := 6) rfl))) rfl (by decide +kernel) ⟨(Nat.le_of_ble_eq_true rfl), (Nat.le_of_ble_eq_true rfl)⟩) hP hK hN rfl hl.1 rfl (Nat.le_of_ble_eq_true rfl) dL_law_4 ⟨(Nat.le_of_ble_eq_true rfl), (Nat.le_of_ble_eq_true rfl)⟩) hP hD hS hA (fun w1 H locs hF hP hD hS => ?_)
  obtain ⟨ad, had, hP, hAd, hD⟩ := FN6_w hF hP hD
  rw [← had]
  refine W.widen (k := 31) (n := 11014) (Nat.le_of_ble_eq_true rfl) (Nat.le_of_ble_eq_true rfl) ?_
  refine lv_astore_n (lv' := [(1, .ref (ad 30)), (0, .ref b)]) hx hb dL_law_7 rfl hl (by decide) rfl (fun ls hl => ?_)
  refine va_new (ci := 7) (fs := fs0) (C := RX7) (T := TX7) (N := 48) hx hb hts0 wsX70_tb tyX7 tyX7_ok hown (hts0 _ (wsSD_in _ (List.mem_of_getElem? (i := 1) rfl))) (hts0 _ (wsSC_in _ (List.mem_of_getElem? (i := 7) rfl))) (hts0 _ (wsSD_in _ (List.mem_of_getElem? (i := 3) rfl))) hK hP hD hS hA rfl (by decide +kernel) (Nat.le_of_ble_eq_true rfl) (Nat.le_of_ble_eq_true rfl) dL_law_8 (fun q2 H hP hD hS => ?_)
  refine W.widen (k := 32) (n := 11062) (Nat.le_of_ble_eq_true rfl) (Nat.le_of_ble_eq_true rfl) ?_
  refine lv_dup hx hb dL_law_11 rfl ?_
  refine ctor_go (wr := cw cyI ad S0c) (rnI (wr := cw cyI ad S0c) (e0 := .inr (7, fs0)) (As := []) (rest := [.ref q2]) ⟨hx, hb, hml, hown, hts⟩ (c_X7_init (cyI := cyI) (cyJ := cyJ) (cyZ := cyZ) (D := D)) (cwI 0 hts gL_law_X7_init rfl rfl rfl (hts0 _ (wsSD_in _ (List.mem_of_getElem? (i := 3) rfl))) (hts0 _ (wsSD_in _ (List.mem_of_getElem? (i := 5) rfl))) (hts0 _ (wsSD_in _ (List.mem_of_getElem? (i := 7) rfl))) rfl (by decide +kernel) ⟨(Nat.le_of_ble_eq_true rfl), (Nat.le_of_ble_eq_true rfl)⟩) hP hK hN rfl hl.1 rfl (Nat.le_of_ble_eq_true rfl) dL_law_12 ⟨(Nat.le_of_ble_eq_true rfl), (Nat.le_of_ble_eq_true rfl)⟩) hP hD hS hA (fun w2 H locs hF hP hD hS => ?_)
  obtain ⟨bd, hbd, rfl, hBd⟩ := hF
  rw [← hbd]
  refine W.widen (k := 72) (n := 13674) (Nat.le_of_ble_eq_true rfl) (Nat.le_of_ble_eq_true rfl) ?_
  refine lv_astore_n (lv' := [(2, .ref (bd 0)), (1, .ref (ad 30)), (0, .ref b)]) hx hb dL_law_15 rfl hl (by decide) rfl (fun ls hl => ?_)
  refine lv_iconst (v := nI 1) hx hb dL_law_16 (by decide) ?_
  refine va_newa (atype := .long) (N' := 1) hx hb (hts0 _ (wsSC_in _ (List.mem_of_getElem? (i := 9) rfl))) rfl hK hP hD hS hA (a0 := (1, .inr (.inl (fun _ => 0)))) (fun _ => rfl) (nI_pos (by omega)) (nI_clamp (by omega)) (Nat.le_of_ble_eq_true rfl) (Nat.le_of_ble_eq_true rfl) (Nat.le_of_ble_eq_true rfl) dL_law_17 (fun o cJ H hK2 hP hD hS => ?_)
  have ecJ : cJ = cyJ := ra_eq (ty := .long) hK2 (i := 3) (j := 1) (fun C q => by cases q) rfl rfl
  subst ecJ
  have hP : va_P D vwCl ((cw cyI ad S0c ++ mw cyI cJ cyZ bd S0m) ++ [oc cJ o (fun _ => 0)]) H := hP
  have hD : va_D A ((cw cyI ad S0c ++ mw cyI cJ cyZ bd S0m) ++ [oc cJ o (fun _ => 0)]) := hD
  obtain ⟨a1, a2, a3, a4⟩ := apart3 hD
  rw [hAe] at a1 a2 a4 hS
  have hO : AdO ad o := ⟨hAd, fun j hj => (a1 j hj).2⟩
  refine lv_astore_n (lv' := [(3, .ref o), (2, .ref (bd 0)), (1, .ref (ad 30)), (0, .ref b)]) hx hb dL_law_19 rfl hl (by decide) rfl (fun ls hl => ?_)
  refine lv_iconst (v := nI 0) hx hb dL_law_20 (by decide) ?_
  refine lv_istore (lv' := [(4, .int (nI (6 * 0))), (3, .ref o), (2, .ref (bd 0)), (1, .ref (ad 30)), (0, .ref b)]) hx hb dL_law_21 hl (by decide) rfl (fun ls hl => ?_)
  refine W.widen (k := 100) (n := 14000) (Nat.le_of_ble_eq_true rfl) (Nat.le_of_ble_eq_true rfl) ?_
  refine law_loop hfl hL C1 hI hmono hO ⟨hBd, trivial⟩ hK hN hZ hC ?_ ?_ ?_ ?_ ?_ 513 0 S0c S0m (fun _ => 0) 100 14000 (by omega) (by omega) h0 (by omega) (by omega) H _ ls (va_P.app (P_left (P_left hP)) (P_right hP)) (P_right (P_left hP)) hS (lv_sub hl [4, 3, 2, 1, 0] rfl)
  · rintro q (⟨j, hj, rfl⟩ | rfl)
    · exact (a1 j hj).1
    · exact a4
  · rintro q ⟨j, hj, rfl⟩
    exact (a2 j hj).1
  · rintro S k q hq (⟨j, hj, e⟩ | e)
    · obtain ⟨h1, h2⟩ := ad_un mw_ad hq
      exact a3 j k hj h1 (e.symm.trans h2)
    · obtain ⟨h1, h2⟩ := ad_un mw_ad hq
      exact (a2 k h1).2 (h2.symm.trans e)
  · rintro S f k q hq ⟨j, hj, e⟩
    by_cases hk : k < 31
    · rw [List.getElem?_append_left (by exact hk)] at hq
      obtain ⟨h1, h2⟩ := ad_un cw_ad hq
      exact a3 k j hk hj (h2.symm.trans e)
    · rw [List.getElem?_append_right (by exact Nat.le_of_not_lt hk)] at hq
      match hk2 : k - (cw cyI ad S).length, hq with
      | 0, hq => cases hq; exact (a2 j hj).2 e.symm
      | z + 1, hq => simp at hq
  · rintro f k q hq ⟨j, hj, e⟩
    match k, hq with
    | 0, hq => cases hq; exact (a1 j hj).2 e.symm
    | k + 1, hq => simp at hq
