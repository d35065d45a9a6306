set_option maxHeartbeats 4000000 in
set_option maxRecDepth 100000 in
theorem c_X6_refuseOtherTargets {l : Launch} {D : va_G} {cyI cyJ cyZ : ClassId} {ad : Nat → Nat}  (hfl : l.stackTraces = false) (hAd : AdOK 31 ad)  {S : St} {p0 : Int32} {res : Sum Nat St} (hf : m_X6_refuseOtherTargets S p0 = some res) : vx_Met l yX6_refuseOtherTargets wsX6_refuseOtherTargets rl_X6_refuseOtherTargets (PreX D [(cyI, .int), (cyJ, .long), (cyZ, .boolean)] (cw cyI ad S) (CA ad) [.int p0]) (PoXV D (fun S => (cw cyI ad S)) (CA ad) res) (XX res D (cw cyI ad S) (CA ad)) 1 6 (CA ad) := by
  refine metx_go (cc := cX6_refuseOtherTargets) (maxL := 1) (ret := none) (by decide) rfl (Nat.le_of_ble_eq_true rfl) ?_
  intro p e s m args below meth c ls hx hb hr hml hts hown hlk hexc hP hK hN hZ hl
  have hown : s.vm.findClass RX6 = some m.cls := hown
  have hS : va_S (CA ad) s.heap s.heap [] := va_S.rf
  have hl : lv_has ls 1 [(0, .int p0)] := hl
  have hat1 := hat_1 (args := args) hZ.2.2.1 (fun w hw => hts w (List.mem_cons_of_mem _ (List.mem_append_right _ hw)))
  unfold m_X6_refuseOtherTargets at hf
  refine lv_iload_n hx hb dX6_refuseOtherTargets_0 rfl (lv_at hl 0 rfl) ?_
  refine lv_if_lt (tgt := 10) hx hb dX6_refuseOtherTargets_1 (by decide) (fun hc => ?_) (fun hc => ?_)
  · have hf := ifp hf hc
    have hres := (Option.some.inj hf).symm
    exact thr_leaf (e0 := 1) hx hb hfl hown hfit_1 (hts (.classLink RX6 68 "java/lang/IndexOutOfBoundsException") (by decide +kernel)) (hts (.initialized "java/lang/IndexOutOfBoundsException") (by decide +kernel)) hZ.2.2.2.s210 hat1 hgd_1 hZ hS (hl.1.trans hml.symm) dX6_refuseOtherTargets_10 dX6_refuseOtherTargets_13 dX6_refuseOtherTargets_14 dX6_refuseOtherTargets_16 dX6_refuseOtherTargets_19 hexc (Nat.le_of_ble_eq_true rfl) (Nat.le_of_ble_eq_true rfl) (Nat.le_of_ble_eq_true rfl) (Nat.le_of_ble_eq_true rfl) hlk hP hres rfl (Nat.le_of_ble_eq_true rfl) (Nat.le_of_ble_eq_true rfl)
  · have hf := ifn hf hc
    refine lv_iload_n hx hb dX6_refuseOtherTargets_4 rfl (lv_at hl 0 rfl) ?_
    refine lv_bipush (v := (nI 16)) hx hb dX6_refuseOtherTargets_5 (by decide) ?_
    refine lv_icmp_lt (tgt := 20) hx hb dX6_refuseOtherTargets_7 (by decide) (fun hc => ?_) (fun hc => ?_)
    · have hf := ifp hf hc
      have hres := (Option.some.inj hf).symm
      exact finx_v (wf := fun S => (cw cyI ad S)) hx hb hr hlk hS hP hres dX6_refuseOtherTargets_20 (Nat.le_of_ble_eq_true rfl) (Nat.le_of_ble_eq_true rfl)
    · have hf := ifn hf hc
      have hres := (Option.some.inj hf).symm
      exact thr_leaf (e0 := 1) hx hb hfl hown hfit_1 (hts (.classLink RX6 68 "java/lang/IndexOutOfBoundsException") (by decide +kernel)) (hts (.initialized "java/lang/IndexOutOfBoundsException") (by decide +kernel)) hZ.2.2.2.s210 hat1 hgd_1 hZ hS (hl.1.trans hml.symm) dX6_refuseOtherTargets_10 dX6_refuseOtherTargets_13 dX6_refuseOtherTargets_14 dX6_refuseOtherTargets_16 dX6_refuseOtherTargets_19 hexc (Nat.le_of_ble_eq_true rfl) (Nat.le_of_ble_eq_true rfl) (Nat.le_of_ble_eq_true rfl) (Nat.le_of_ble_eq_true rfl) hlk hP hres rfl (Nat.le_of_ble_eq_true rfl) (Nat.le_of_ble_eq_true rfl)
set_option maxHeartbeats 4000000 in
set_option maxRecDepth 100000 in
theorem c_X6_refuseOtherNodes {l : Launch} {D : va_G} {cyI cyJ cyZ : ClassId} {ad : Nat → Nat}  (hfl : l.stackTraces = false) (hAd : AdOK 31 ad)  {S : St} {p0 : Int32} {p1 : Int32} {res : Sum Nat St} (hf : m_X6_refuseOtherNodes S p0 p1 = some res) : vx_Met l yX6_refuseOtherNodes wsX6_refuseOtherNodes rl_X6_refuseOtherNodes (PreX D [(cyI, .int), (cyJ, .long), (cyZ, .boolean)] (cw cyI ad S) (CA ad) [.int p0, .int p1]) (PoXV D (fun S => (cw cyI ad S)) (CA ad) res) (XX res D (cw cyI ad S) (CA ad)) 2 12 (CA ad) := by
  refine metx_go (cc := cX6_refuseOtherNodes) (maxL := 2) (ret := none) (by decide) rfl (Nat.le_of_ble_eq_true rfl) ?_
  intro p e s m args below meth c ls hx hb hr hml hts hown hlk hexc hP hK hN hZ hl
  have hown : s.vm.findClass RX6 = some m.cls := hown
  have hS : va_S (CA ad) s.heap s.heap [] := va_S.rf
  have hl : lv_has ls 2 [(0, .int p0), (1, .int p1)] := hl
  have hat1 := hat_1 (args := args) hZ.2.2.1 (fun w hw => hts w (List.mem_cons_of_mem _ (List.mem_append_right _ hw)))
  unfold m_X6_refuseOtherNodes at hf
  refine lv_iload_n hx hb dX6_refuseOtherNodes_0 rfl (lv_at hl 0 rfl) ?_
  rcases zx_k hf with ⟨e1, hc1, hR1⟩ | ⟨S1, hc1, hf⟩
  · exact xcal_t (rnxS (As := [.int p0]) (rest := []) ⟨hx, hb, hml, hown, hts⟩ (c_X6_refuseOtherTargets hfl hAd hc1) (va_cwS 1 hts gX6_refuseOtherNodes_X6_refuseOtherTargets rfl rfl rfl cdS_X6_refuseOtherTargets ⟨Nat.le_of_ble_eq_true rfl, Nat.le_of_ble_eq_true rfl⟩) hP hK hN hZ (fun _ h => h) hS rfl hl.1 rfl (Nat.le_of_ble_eq_true rfl) dX6_refuseOtherNodes_1 ⟨Nat.le_of_ble_eq_true rfl, Nat.le_of_ble_eq_true rfl⟩) hS rfl hR1 hlk hexc (Nat.le_of_ble_eq_true rfl) (Nat.le_of_ble_eq_true rfl)
  have eS1 := ro_X6_refuseOtherTargets hc1
  subst eS1
  refine xcal_k (rnxS (As := [.int p0]) (rest := []) ⟨hx, hb, hml, hown, hts⟩ (c_X6_refuseOtherTargets hfl hAd hc1) (va_cwS 1 hts gX6_refuseOtherNodes_X6_refuseOtherTargets rfl rfl rfl cdS_X6_refuseOtherTargets ⟨Nat.le_of_ble_eq_true rfl, Nat.le_of_ble_eq_true rfl⟩) hP hK hN hZ (fun _ h => h) hS rfl hl.1 rfl (Nat.le_of_ble_eq_true rfl) dX6_refuseOtherNodes_1 ⟨Nat.le_of_ble_eq_true rfl, Nat.le_of_ble_eq_true rfl⟩) hS rfl (fun H locs hP hS => ?_)
  refine lv_iload_n hx hb dX6_refuseOtherNodes_4 rfl (lv_at hl 1 rfl) ?_
  refine lv_if_lt (tgt := 13) hx hb dX6_refuseOtherNodes_5 (by decide) (fun hc => ?_) (fun hc => ?_)
  · have hf := ifp hf hc
    have hres := (Option.some.inj hf).symm
    exact thr_leaf (e0 := 1) hx hb hfl hown hfit_1 (hts (.classLink RX6 68 "java/lang/IndexOutOfBoundsException") (by decide +kernel)) (hts (.initialized "java/lang/IndexOutOfBoundsException") (by decide +kernel)) hZ.2.2.2.s212 hat1 hgd_1 hZ hS (hl.1.trans hml.symm) dX6_refuseOtherNodes_13 dX6_refuseOtherNodes_16 dX6_refuseOtherNodes_17 dX6_refuseOtherNodes_19 dX6_refuseOtherNodes_22 hexc (Nat.le_of_ble_eq_true rfl) (Nat.le_of_ble_eq_true rfl) (Nat.le_of_ble_eq_true rfl) (Nat.le_of_ble_eq_true rfl) hlk hP hres rfl (Nat.le_of_ble_eq_true rfl) (Nat.le_of_ble_eq_true rfl)
  · have hf := ifn hf hc
    refine lv_iload_n hx hb dX6_refuseOtherNodes_8 rfl (lv_at hl 1 rfl) ?_
    refine lv_iconst (v := (nI 2)) hx hb dX6_refuseOtherNodes_9 (by decide) ?_
    refine lv_icmp_lt (tgt := 23) hx hb dX6_refuseOtherNodes_10 (by decide) (fun hc => ?_) (fun hc => ?_)
    · have hf := ifp hf hc
      have hres := (Option.some.inj hf).symm
      exact finx_v (wf := fun S => (cw cyI ad S)) hx hb hr hlk hS hP hres dX6_refuseOtherNodes_23 (Nat.le_of_ble_eq_true rfl) (Nat.le_of_ble_eq_true rfl)
    · have hf := ifn hf hc
      have hres := (Option.some.inj hf).symm
      exact thr_leaf (e0 := 1) hx hb hfl hown hfit_1 (hts (.classLink RX6 68 "java/lang/IndexOutOfBoundsException") (by decide +kernel)) (hts (.initialized "java/lang/IndexOutOfBoundsException") (by decide +kernel)) hZ.2.2.2.s212 hat1 hgd_1 hZ hS (hl.1.trans hml.symm) dX6_refuseOtherNodes_13 dX6_refuseOtherNodes_16 dX6_refuseOtherNodes_17 dX6_refuseOtherNodes_19 dX6_refuseOtherNodes_22 hexc (Nat.le_of_ble_eq_true rfl) (Nat.le_of_ble_eq_true rfl) (Nat.le_of_ble_eq_true rfl) (Nat.le_of_ble_eq_true rfl) hlk hP hres rfl (Nat.le_of_ble_eq_true rfl) (Nat.le_of_ble_eq_true rfl)
set_option maxHeartbeats 4000000 in
set_option maxRecDepth 100000 in
theorem c_X6_write {l : Launch} {D : va_G} {cyI cyJ cyZ : ClassId} {ad : Nat → Nat}  (hfl : l.stackTraces = false) (hAd : AdOK 31 ad)  {S : St} {p1 : Int32} {p2 : Int32} {res : Sum Nat (Int32 × St)} (hf : m_X6_write S p1 p2 = some res) : vx_Met l yX6_write wsX6_write rl_X6_write (PreX D [(cyI, .int), (cyJ, .long), (cyZ, .boolean)] (cw cyI ad S) (CA ad) [.ref (ad 30), .int p1, .int p2]) (PoXI D (fun S => (cw cyI ad S)) (CA ad) res) (XX res D (cw cyI ad S) (CA ad)) 1 6 (CA ad) := by
  refine metx_go (cc := cX6_write) (maxL := 4) (ret := (some .int)) (by decide) rfl (Nat.le_of_ble_eq_true rfl) ?_
  intro p e s m args below meth c ls hx hb hr hml hts hown hlk hexc hP hK hN hZ hl
  have hown : s.vm.findClass RX6 = some m.cls := hown
  have hS : va_S (CA ad) s.heap s.heap [] := va_S.rf
  have hl : lv_has ls 4 [(0, .ref (ad 30)), (1, .int p1), (2, .int p2)] := hl
  have hin6 : ∀ w ∈ wsX60, w ∈ wsX6_write := by decide +kernel
  have hfl14 := hts (.fieldLink RX6 14 "Makewheel" "files" "LMakewheel$Rows;") (by decide +kernel)
  have hat1 := hat_1 (args := args) hZ.2.2.1 (fun w hw => hts w (List.mem_cons_of_mem _ (List.mem_append_left _ (List.mem_append_right _ hw))))
  have hat2 := hat_2 (args := args) hZ.2.2.1 (fun w hw => hts w (List.mem_cons_of_mem _ (List.mem_append_right _ hw)))
  unfold m_X6_write at hf
  refine lv_iload_n hx hb dX6_write_0 rfl (lv_at hl 1 rfl) ?_
  refine lv_if_lt (tgt := 10) hx hb dX6_write_1 (by decide) (fun hc => ?_) (fun hc => ?_)
  · have hf := ifp hf hc
    have hres := (Option.some.inj hf).symm
    exact thr_leaf (e0 := 1) hx hb hfl hown hfit_1 (hts (.classLink RX6 68 "java/lang/IndexOutOfBoundsException") (by decide +kernel)) (hts (.initialized "java/lang/IndexOutOfBoundsException") (by decide +kernel)) hZ.2.2.2.s70 hat1 hgd_1 hZ hS (hl.1.trans hml.symm) dX6_write_10 dX6_write_13 dX6_write_14 dX6_write_16 dX6_write_19 hexc (Nat.le_of_ble_eq_true rfl) (Nat.le_of_ble_eq_true rfl) (Nat.le_of_ble_eq_true rfl) (Nat.le_of_ble_eq_true rfl) hlk hP hres rfl (Nat.le_of_ble_eq_true rfl) (Nat.le_of_ble_eq_true rfl)
  · have hf := ifn hf hc
    refine lv_iload_n hx hb dX6_write_4 rfl (lv_at hl 1 rfl) ?_
    refine lv_bipush (v := (nI 20)) hx hb dX6_write_5 (by decide) ?_
    refine lv_icmp_lt (tgt := 20) hx hb dX6_write_7 (by decide) (fun hc => ?_) (fun hc => ?_)
    · have hf := ifp hf hc
      refine lv_iload_n hx hb dX6_write_20 rfl (lv_at hl 2 rfl) ?_
      refine lv_iconst (v := (-1)) hx hb dX6_write_21 (by decide) ?_
      refine lv_icmp_eq (tgt := 42) hx hb dX6_write_22 (by decide) (fun hc => ?_) (fun hc => ?_)
      · have hf := ifp hf hc
        refine lv_aload_n hx hb dX6_write_42 rfl (lv_at hl 0 rfl) ?_
        refine va_get (D := D) (ci := 6) (v := .ref (ad (2 * 0))) (C := RX6) (T := TX6) (N := 9) hx hb hts hin6 hown hK hP 30 (cw_o30 (S := S)) rfl 0 (by decide) hfl14 (fun _ h9 => h9) rfl dX6_write_43 ?_
        refine lv_iload_n hx hb dX6_write_46 rfl (lv_at hl 1 rfl) ?_
        obtain ⟨x1, hc47, hf⟩ := zo_k hf
        refine cal_i (rnS (As := [.ref (ad (2 * 0)), .int p1]) (rest := []) ⟨hx, hb, hml, hown, hts⟩ (c_X6_contentOf hAd (by decide) hc47) (va_cwS 2 hts gX6_write_X6_contentOf rfl rfl rfl cdS_X6_contentOf ⟨Nat.le_of_ble_eq_true rfl, Nat.le_of_ble_eq_true rfl⟩) hP hK hN rfl hl.1 rfl (Nat.le_of_ble_eq_true rfl) dX6_write_47 ⟨Nat.le_of_ble_eq_true rfl, Nat.le_of_ble_eq_true rfl⟩) hS (fun H locs hP hS => ?_)
        refine lv_istore_n (lv' := [(3, .int x1), (0, .ref (ad 30)), (1, .int p1), (2, .int p2)]) hx hb dX6_write_50 rfl hl (by decide) rfl (fun ls hl => ?_)
        refine lv_aload_n hx hb dX6_write_51 rfl (lv_at hl 1 rfl) ?_
        refine va_get (D := D) (ci := 6) (v := .ref (ad (2 * 0))) (C := RX6) (T := TX6) (N := 9) hx hb hts hin6 hown hK hP 30 (cw_o30 (S := S)) rfl 0 (by decide) hfl14 (fun _ h9 => h9) rfl dX6_write_52 ?_
        refine lv_iload_n hx hb dX6_write_55 rfl (lv_at hl 2 rfl) ?_
        refine lv_iconst (v := (nI 5)) hx hb dX6_write_56 (by decide) ?_
        refine lv_idiv hx hb dX6_write_57 (by decide) ?_
        refine lv_iload_n hx hb dX6_write_58 rfl (lv_at hl 2 rfl) ?_
        refine lv_iconst (v := (nI 5)) hx hb dX6_write_59 (by decide) ?_
        refine lv_irem hx hb dX6_write_60 (by decide) ?_
        refine lv_iload_n hx hb dX6_write_61 rfl (lv_at hl 3 rfl) ?_
        obtain ⟨S2, hc62, hf⟩ := zo_k hf
        refine cal_v (rnV (As := [.int (p1 / (nI 5)), .int (irm p1 (nI 5)), .int p2]) (rest := []) ⟨hx, hb, hml, hown, hts⟩ (c_X4_set hAd (by decide) hc62) (cwV 3 hts gX6_write_X4_set rfl rfl rfl cdV_X4_set ⟨Nat.le_of_ble_eq_true rfl, Nat.le_of_ble_eq_true rfl⟩) hP hK hN (cw_ro (S := S) (k := 0) (by decide)) rfl rfl hl.1 rfl (Nat.le_of_ble_eq_true rfl) dX6_write_62 ⟨Nat.le_of_ble_eq_true rfl, Nat.le_of_ble_eq_true rfl⟩) hS (fun H locs hP hS => ?_)
        refine lv_iload_n hx hb dX6_write_65 rfl (lv_at hl 0 rfl) ?_
        have hres := (Option.some.inj hf).symm
        exact finx_i (wf := fun S => (cw cyI ad S)) hx hb hr hlk hS hP hres dX6_write_66 (Nat.le_of_ble_eq_true rfl) (Nat.le_of_ble_eq_true rfl)
      · have hf := ifn hf hc
        refine lv_iload_n hx hb dX6_write_25 rfl (lv_at hl 2 rfl) ?_
        obtain ⟨x3, hc26, hf⟩ := zo_k hf
        refine cal_i (rnS (As := [.int p2]) (rest := []) ⟨hx, hb, hml, hown, hts⟩ (c_X6_isValue hAd  hc26) (va_cwS 1 hts gX6_write_X6_isValue rfl rfl rfl cdS_X6_isValue ⟨Nat.le_of_ble_eq_true rfl, Nat.le_of_ble_eq_true rfl⟩) hP hK hN rfl hl.1 rfl (Nat.le_of_ble_eq_true rfl) dX6_write_26 ⟨Nat.le_of_ble_eq_true rfl, Nat.le_of_ble_eq_true rfl⟩) hS (fun H locs hP hS => ?_)
        refine lv_if_ne (tgt := 42) hx hb dX6_write_29 (by decide) (fun hc => ?_) (fun hc => ?_)
        · have hf := ifn hf hc
          refine lv_aload_n hx hb dX6_write_42 rfl (lv_at hl 0 rfl) ?_
          refine va_get (D := D) (ci := 6) (v := .ref (ad (2 * 0))) (C := RX6) (T := TX6) (N := 9) hx hb hts hin6 hown hK hP 30 (cw_o30 (S := S)) rfl 0 (by decide) hfl14 (fun _ h9 => h9) rfl dX6_write_43 ?_
          refine lv_iload_n hx hb dX6_write_46 rfl (lv_at hl 1 rfl) ?_
          obtain ⟨x4, hc47, hf⟩ := zo_k hf
          refine cal_i (rnS (As := [.ref (ad (2 * 0)), .int p1]) (rest := []) ⟨hx, hb, hml, hown, hts⟩ (c_X6_contentOf hAd (by decide) hc47) (va_cwS 2 hts gX6_write_X6_contentOf rfl rfl rfl cdS_X6_contentOf ⟨Nat.le_of_ble_eq_true rfl, Nat.le_of_ble_eq_true rfl⟩) hP hK hN rfl hl.1 rfl (Nat.le_of_ble_eq_true rfl) dX6_write_47 ⟨Nat.le_of_ble_eq_true rfl, Nat.le_of_ble_eq_true rfl⟩) hS (fun H locs hP hS => ?_)
          refine lv_istore_n (lv' := [(3, .int x4), (0, .ref (ad 30)), (1, .int p1), (2, .int p2)]) hx hb dX6_write_50 rfl hl (by decide) rfl (fun ls hl => ?_)
          refine lv_aload_n hx hb dX6_write_51 rfl (lv_at hl 1 rfl) ?_
          refine va_get (D := D) (ci := 6) (v := .ref (ad (2 * 0))) (C := RX6) (T := TX6) (N := 9) hx hb hts hin6 hown hK hP 30 (cw_o30 (S := S)) rfl 0 (by decide) hfl14 (fun _ h9 => h9) rfl dX6_write_52 ?_
          refine lv_iload_n hx hb dX6_write_55 rfl (lv_at hl 2 rfl) ?_
          refine lv_iconst (v := (nI 5)) hx hb dX6_write_56 (by decide) ?_
          refine lv_idiv hx hb dX6_write_57 (by decide) ?_
          refine lv_iload_n hx hb dX6_write_58 rfl (lv_at hl 2 rfl) ?_
          refine lv_iconst (v := (nI 5)) hx hb dX6_write_59 (by decide) ?_
          refine lv_irem hx hb dX6_write_60 (by decide) ?_
          refine lv_iload_n hx hb dX6_write_61 rfl (lv_at hl 3 rfl) ?_
          obtain ⟨S5, hc62, hf⟩ := zo_k hf
          refine cal_v (rnV (As := [.int (p1 / (nI 5)), .int (irm p1 (nI 5)), .int p2]) (rest := []) ⟨hx, hb, hml, hown, hts⟩ (c_X4_set hAd (by decide) hc62) (cwV 3 hts gX6_write_X4_set rfl rfl rfl cdV_X4_set ⟨Nat.le_of_ble_eq_true rfl, Nat.le_of_ble_eq_true rfl⟩) hP hK hN (cw_ro (S := S) (k := 0) (by decide)) rfl rfl hl.1 rfl (Nat.le_of_ble_eq_true rfl) dX6_write_62 ⟨Nat.le_of_ble_eq_true rfl, Nat.le_of_ble_eq_true rfl⟩) hS (fun H locs hP hS => ?_)
          refine lv_iload_n hx hb dX6_write_65 rfl (lv_at hl 0 rfl) ?_
          have hres := (Option.some.inj hf).symm
          exact finx_i (wf := fun S => (cw cyI ad S)) hx hb hr hlk hS hP hres dX6_write_66 (Nat.le_of_ble_eq_true rfl) (Nat.le_of_ble_eq_true rfl)
        · have hf := ifp hf hc
          have hres := (Option.some.inj hf).symm
          exact thr_leaf (e0 := 2) hx hb hfl hown hfit_2 (hts (.classLink RX6 79 "java/lang/IllegalArgumentException") (by decide +kernel)) (hts (.initialized "java/lang/IllegalArgumentException") (by decide +kernel)) hZ.2.2.2.s81 hat2 hgd_2 hZ hS (hl.1.trans hml.symm) dX6_write_32 dX6_write_35 dX6_write_36 dX6_write_38 dX6_write_41 hexc (Nat.le_of_ble_eq_true rfl) (Nat.le_of_ble_eq_true rfl) (Nat.le_of_ble_eq_true rfl) (Nat.le_of_ble_eq_true rfl) hlk hP hres rfl (Nat.le_of_ble_eq_true rfl) (Nat.le_of_ble_eq_true rfl)
    · have hf := ifn hf hc
      have hres := (Option.some.inj hf).symm
      exact thr_leaf (e0 := 1) hx hb hfl hown hfit_1 (hts (.classLink RX6 68 "java/lang/IndexOutOfBoundsException") (by decide +kernel)) (hts (.initialized "java/lang/IndexOutOfBoundsException") (by decide +kernel)) hZ.2.2.2.s70 hat1 hgd_1 hZ hS (hl.1.trans hml.symm) dX6_write_10 dX6_write_13 dX6_write_14 dX6_write_16 dX6_write_19 hexc (Nat.le_of_ble_eq_true rfl) (Nat.le_of_ble_eq_true rfl) (Nat.le_of_ble_eq_true rfl) (Nat.le_of_ble_eq_true rfl) hlk hP hres rfl (Nat.le_of_ble_eq_true rfl) (Nat.le_of_ble_eq_true rfl)
set_option maxHeartbeats 4000000 in
set_option maxRecDepth 100000 in
theorem c_X6_rule {l : Launch} {D : va_G} {cyI cyJ cyZ : ClassId} {ad : Nat → Nat}  (hfl : l.stackTraces = false) (hAd : AdOK 31 ad)  {S : St} {p1 : Int32} {p2 : Int32} {p3 : Int32} {p4 : Int32} {p5 : Int32} {res : Sum Nat (Int32 × St)} (hf : m_X6_rule S p1 p2 p3 p4 p5 = some res) : vx_Met l yX6_rule wsX6_rule rl_X6_rule (PreX D [(cyI, .int), (cyJ, .long), (cyZ, .boolean)] (cw cyI ad S) (CA ad) [.ref (ad 30), .int p1, .int p2, .int p3, .int p4, .int p5]) (PoXI D (fun S => (cw cyI ad S)) (CA ad) res) (XX res D (cw cyI ad S) (CA ad)) 2 12 (CA ad) := by
  refine metx_go (cc := cX6_rule) (maxL := 7) (ret := (some .boolean)) (by decide) rfl (Nat.le_of_ble_eq_true rfl) ?_
  intro p e s m args below meth c ls hx hb hr hml hts hown hlk hexc hP hK hN hZ hl
  have hown : s.vm.findClass RX6 = some m.cls := hown
  have hS : va_S (CA ad) s.heap s.heap [] := va_S.rf
  have hl : lv_has ls 7 [(0, .ref (ad 30)), (1, .int p1), (2, .int p2), (3, .int p3), (4, .int p4), (5, .int p5)] := hl
  have hin6 : ∀ w ∈ wsX60, w ∈ wsX6_rule := by decide +kernel
  have hfl18 := hts (.fieldLink RX6 18 "Makewheel" "rules" "LMakewheel$Rows;") (by decide +kernel)
  have hat2 := hat_2 (args := args) hZ.2.2.1 (fun w hw => hts w (List.mem_cons_of_mem _ (List.mem_append_left _ (List.mem_append_right _ hw))))
  unfold m_X6_rule at hf
  refine lv_iload_n hx hb dX6_rule_0 rfl (lv_at hl 1 rfl) ?_
  rcases zx_k hf with ⟨e1, hc1, hR1⟩ | ⟨S1, hc1, hf⟩
  · exact xcal_t (rnxS (As := [.int p1]) (rest := []) ⟨hx, hb, hml, hown, hts⟩ (c_X6_refuseOtherTargets hfl hAd hc1) (va_cwS 1 hts gX6_rule_X6_refuseOtherTargets rfl rfl rfl cdS_X6_refuseOtherTargets ⟨Nat.le_of_ble_eq_true rfl, Nat.le_of_ble_eq_true rfl⟩) hP hK hN hZ (fun _ h => h) hS rfl hl.1 rfl (Nat.le_of_ble_eq_true rfl) dX6_rule_1 ⟨Nat.le_of_ble_eq_true rfl, Nat.le_of_ble_eq_true rfl⟩) hS rfl hR1 hlk hexc (Nat.le_of_ble_eq_true rfl) (Nat.le_of_ble_eq_true rfl)
  have eS1 := ro_X6_refuseOtherTargets hc1
  subst eS1
  refine xcal_k (rnxS (As := [.int p1]) (rest := []) ⟨hx, hb, hml, hown, hts⟩ (c_X6_refuseOtherTargets hfl hAd hc1) (va_cwS 1 hts gX6_rule_X6_refuseOtherTargets rfl rfl rfl cdS_X6_refuseOtherTargets ⟨Nat.le_of_ble_eq_true rfl, Nat.le_of_ble_eq_true rfl⟩) hP hK hN hZ (fun _ h => h) hS rfl hl.1 rfl (Nat.le_of_ble_eq_true rfl) dX6_rule_1 ⟨Nat.le_of_ble_eq_true rfl, Nat.le_of_ble_eq_true rfl⟩) hS rfl (fun H locs hP hS => ?_)
  refine lv_iload_n hx hb dX6_rule_4 rfl (lv_at hl 2 rfl) ?_
  refine lv_iconst (v := (-1)) hx hb dX6_rule_5 (by decide) ?_
  refine lv_icmp_lt (tgt := 14) hx hb dX6_rule_6 (by decide) (fun hc => ?_) (fun hc => ?_)
  · have hf := ifp hf hc
    have hres := (Option.some.inj hf).symm
    exact thr_leaf (e0 := 2) hx hb hfl hown hfit_2 (hts (.classLink RX6 79 "java/lang/IllegalArgumentException") (by decide +kernel)) (hts (.initialized "java/lang/IllegalArgumentException") (by decide +kernel)) hZ.2.2.2.s95 hat2 hgd_2 hZ hS (hl.1.trans hml.symm) dX6_rule_14 dX6_rule_17 dX6_rule_18 dX6_rule_20 dX6_rule_23 hexc (Nat.le_of_ble_eq_true rfl) (Nat.le_of_ble_eq_true rfl) (Nat.le_of_ble_eq_true rfl) (Nat.le_of_ble_eq_true rfl) hlk hP hres rfl (Nat.le_of_ble_eq_true rfl) (Nat.le_of_ble_eq_true rfl)
  · have hf := ifn hf hc
    refine lv_iload_n hx hb dX6_rule_9 rfl (lv_at hl 2 rfl) ?_
    refine lv_iconst (v := (nI 4)) hx hb dX6_rule_10 (by decide) ?_
    refine lv_icmp_le (tgt := 24) hx hb dX6_rule_11 (by decide) (fun hc => ?_) (fun hc => ?_)
    · have hf := ifp hf hc
      refine lv_iload_n hx hb dX6_rule_24 rfl (lv_at hl 3 rfl) ?_
      obtain ⟨x2, hc25, hf⟩ := zo_k hf
      refine cal_i (rnS (As := [.int p3]) (rest := []) ⟨hx, hb, hml, hown, hts⟩ (c_X6_isValue hAd  hc25) (va_cwS 1 hts gX6_rule_X6_isValue rfl rfl rfl cdS_X6_isValue ⟨Nat.le_of_ble_eq_true rfl, Nat.le_of_ble_eq_true rfl⟩) hP hK hN rfl hl.1 rfl (Nat.le_of_ble_eq_true rfl) dX6_rule_25 ⟨Nat.le_of_ble_eq_true rfl, Nat.le_of_ble_eq_true rfl⟩) hS (fun H locs hP hS => ?_)
      refine lv_if_eq (tgt := 39) hx hb dX6_rule_28 (by decide) (fun hc => ?_) (fun hc => ?_)
      · have hf := ifp hf hc
        have hres := (Option.some.inj hf).symm
        exact thr_leaf (e0 := 2) hx hb hfl hown hfit_2 (hts (.classLink RX6 79 "java/lang/IllegalArgumentException") (by decide +kernel)) (hts (.initialized "java/lang/IllegalArgumentException") (by decide +kernel)) hZ.2.2.2.s97 hat2 hgd_2 hZ hS (hl.1.trans hml.symm) dX6_rule_39 dX6_rule_42 dX6_rule_43 dX6_rule_45 dX6_rule_48 hexc (Nat.le_of_ble_eq_true rfl) (Nat.le_of_ble_eq_true rfl) (Nat.le_of_ble_eq_true rfl) (Nat.le_of_ble_eq_true rfl) hlk hP hres rfl (Nat.le_of_ble_eq_true rfl) (Nat.le_of_ble_eq_true rfl)
      · have hf := ifn hf hc
        refine lv_iload hx hb dX6_rule_31 (lv_at hl 4 rfl) ?_
        obtain ⟨x3, hc33, hf⟩ := zo_k hf
        refine cal_i (rnS (As := [.int p4]) (rest := []) ⟨hx, hb, hml, hown, hts⟩ (c_X6_isValue hAd  hc33) (va_cwS 1 hts gX6_rule_X6_isValue rfl rfl rfl cdS_X6_isValue ⟨Nat.le_of_ble_eq_true rfl, Nat.le_of_ble_eq_true rfl⟩) hP hK hN rfl hl.1 rfl (Nat.le_of_ble_eq_true rfl) dX6_rule_33 ⟨Nat.le_of_ble_eq_true rfl, Nat.le_of_ble_eq_true rfl⟩) hS (fun H locs hP hS => ?_)
        refine lv_if_ne (tgt := 49) hx hb dX6_rule_36 (by decide) (fun hc => ?_) (fun hc => ?_)
        · have hf := ifn hf hc
          refine lv_iload hx hb dX6_rule_49 (lv_at hl 5 rfl) ?_
          refine lv_iconst (v := (nI 1)) hx hb dX6_rule_51 (by decide) ?_
          refine lv_icmp_lt (tgt := 62) hx hb dX6_rule_52 (by decide) (fun hc => ?_) (fun hc => ?_)
          · have hf := ifp hf hc
            have hres := (Option.some.inj hf).symm
            exact thr_leaf (e0 := 2) hx hb hfl hown hfit_2 (hts (.classLink RX6 79 "java/lang/IllegalArgumentException") (by decide +kernel)) (hts (.initialized "java/lang/IllegalArgumentException") (by decide +kernel)) hZ.2.2.2.s99 hat2 hgd_2 hZ hS (hl.1.trans hml.symm) dX6_rule_62 dX6_rule_65 dX6_rule_66 dX6_rule_68 dX6_rule_71 hexc (Nat.le_of_ble_eq_true rfl) (Nat.le_of_ble_eq_true rfl) (Nat.le_of_ble_eq_true rfl) (Nat.le_of_ble_eq_true rfl) hlk hP hres rfl (Nat.le_of_ble_eq_true rfl) (Nat.le_of_ble_eq_true rfl)
          · have hf := ifn hf hc
            refine lv_iload hx hb dX6_rule_55 (lv_at hl 5 rfl) ?_
            refine lv_bipush (v := (nI 20)) hx hb dX6_rule_57 (by decide) ?_
            refine lv_icmp_le (tgt := 72) hx hb dX6_rule_59 (by decide) (fun hc => ?_) (fun hc => ?_)
            · have hf := ifp hf hc
              refine lv_aload_n hx hb dX6_rule_72 rfl (lv_at hl 0 rfl) ?_
              refine va_get (D := D) (ci := 6) (v := .ref (ad (2 * 1))) (C := RX6) (T := TX6) (N := 9) hx hb hts hin6 hown hK hP 30 (cw_o30 (S := S)) rfl 1 (by decide) hfl18 (fun _ h9 => h9) rfl dX6_rule_73 ?_
              refine lv_iload_n hx hb dX6_rule_76 rfl (lv_at hl 1 rfl) ?_
              refine lv_iconst (v := (nI 1)) hx hb dX6_rule_77 (by decide) ?_
              obtain ⟨x4, hc78, hf⟩ := zo_k hf
              refine cal_i (rnV (As := [.int p1, .int (nI 1)]) (rest := []) ⟨hx, hb, hml, hown, hts⟩ (c_X4_get hAd (by decide) hc78) (cwV 2 hts gX6_rule_X4_get rfl rfl rfl cdV_X4_get ⟨Nat.le_of_ble_eq_true rfl, Nat.le_of_ble_eq_true rfl⟩) hP hK hN (cw_ro (S := S) (k := 1) (by decide)) rfl rfl hl.1 rfl (Nat.le_of_ble_eq_true rfl) dX6_rule_78 ⟨Nat.le_of_ble_eq_true rfl, Nat.le_of_ble_eq_true rfl⟩) hS (fun H locs hP hS => ?_)
              refine lv_iconst (v := (-1)) hx hb dX6_rule_81 (by decide) ?_
              refine lv_icmp_eq (tgt := 89) hx hb dX6_rule_82 (by decide) (fun hc => ?_) (fun hc => ?_)
              · have hf := ifp hf hc
                refine lv_iconst (v := (nI 0)) hx hb dX6_rule_89 (by decide) ?_
                refine lv_istore (lv' := [(6, .int (nI 0)), (0, .ref (ad 30)), (1, .int p1), (2, .int p2), (3, .int p3), (4, .int p4), (5, .int p5)]) hx hb dX6_rule_90 hl (by decide) rfl (fun ls hl => ?_)
                refine lv_aload_n hx hb dX6_rule_92 rfl (lv_at hl 1 rfl) ?_
                refine va_get (D := D) (ci := 6) (v := .ref (ad (2 * 1))) (C := RX6) (T := TX6) (N := 9) hx hb hts hin6 hown hK hP 30 (cw_o30 (S := S)) rfl 1 (by decide) hfl18 (fun _ h9 => h9) rfl dX6_rule_93 ?_
                refine lv_iload_n hx hb dX6_rule_96 rfl (lv_at hl 2 rfl) ?_
                obtain ⟨S5, hc97, hf⟩ := zo_k hf
                refine cal_v (rnV (As := [.int p1]) (rest := []) ⟨hx, hb, hml, hown, hts⟩ (c_X4_clear hAd (by decide) hc97) (cwV 1 hts gX6_rule_X4_clear rfl rfl rfl cdV_X4_clear ⟨Nat.le_of_ble_eq_true rfl, Nat.le_of_ble_eq_true rfl⟩) hP hK hN (cw_ro (S := S) (k := 1) (by decide)) rfl rfl hl.1 rfl (Nat.le_of_ble_eq_true rfl) dX6_rule_97 ⟨Nat.le_of_ble_eq_true rfl, Nat.le_of_ble_eq_true rfl⟩) hS (fun H locs hP hS => ?_)
                refine lv_iload_n hx hb dX6_rule_100 rfl (lv_at hl 3 rfl) ?_
                refine lv_iconst (v := (-1)) hx hb dX6_rule_101 (by decide) ?_
                refine lv_icmp_eq (tgt := 157) hx hb dX6_rule_102 (by decide) (fun hc => ?_) (fun hc => ?_)
                · have hf := ifp hf hc
                  refine lv_iload hx hb dX6_rule_157 (lv_at hl 0 rfl) ?_
                  have hres := (Option.some.inj hf).symm
                  exact finx_z (wf := fun S => (cw cyI ad S)) hx hb hr hlk hS hP rfl hres dX6_rule_159 (Nat.le_of_ble_eq_true rfl) (Nat.le_of_ble_eq_true rfl)
                · have hf := ifn hf hc
                  refine lv_aload_n hx hb dX6_rule_105 rfl (lv_at hl 1 rfl) ?_
                  refine va_get (D := D) (ci := 6) (v := .ref (ad (2 * 1))) (C := RX6) (T := TX6) (N := 9) hx hb hts hin6 hown hK hP 30 (cw_o30 (S := S5)) rfl 1 (by decide) hfl18 (fun _ h9 => h9) rfl dX6_rule_106 ?_
                  refine lv_iload_n hx hb dX6_rule_109 rfl (lv_at hl 2 rfl) ?_
                  refine lv_iconst (v := (nI 0)) hx hb dX6_rule_110 (by decide) ?_
                  refine lv_iload hx hb dX6_rule_111 (lv_at hl 6 rfl) ?_
                  obtain ⟨S6, hc113, hf⟩ := zo_k hf
                  refine cal_v (rnV (As := [.int p1, .int (nI 0), .int p5]) (rest := []) ⟨hx, hb, hml, hown, hts⟩ (c_X4_set hAd (by decide) hc113) (cwV 3 hts gX6_rule_X4_set rfl rfl rfl cdV_X4_set ⟨Nat.le_of_ble_eq_true rfl, Nat.le_of_ble_eq_true rfl⟩) hP hK hN (cw_ro (S := S5) (k := 1) (by decide)) rfl rfl hl.1 rfl (Nat.le_of_ble_eq_true rfl) dX6_rule_113 ⟨Nat.le_of_ble_eq_true rfl, Nat.le_of_ble_eq_true rfl⟩) hS (fun H locs hP hS => ?_)
                  refine lv_aload_n hx hb dX6_rule_116 rfl (lv_at hl 1 rfl) ?_
                  refine va_get (D := D) (ci := 6) (v := .ref (ad (2 * 1))) (C := RX6) (T := TX6) (N := 9) hx hb hts hin6 hown hK hP 30 (cw_o30 (S := S6)) rfl 1 (by decide) hfl18 (fun _ h9 => h9) rfl dX6_rule_117 ?_
                  refine lv_iload_n hx hb dX6_rule_120 rfl (lv_at hl 2 rfl) ?_
                  refine lv_iconst (v := (nI 1)) hx hb dX6_rule_121 (by decide) ?_
                  refine lv_iload_n hx hb dX6_rule_122 rfl (lv_at hl 3 rfl) ?_
                  obtain ⟨S7, hc123, hf⟩ := zo_k hf
                  refine cal_v (rnV (As := [.int p1, .int (nI 1), .int p2]) (rest := []) ⟨hx, hb, hml, hown, hts⟩ (c_X4_set hAd (by decide) hc123) (cwV 3 hts gX6_rule_X4_set rfl rfl rfl cdV_X4_set ⟨Nat.le_of_ble_eq_true rfl, Nat.le_of_ble_eq_true rfl⟩) hP hK hN (cw_ro (S := S6) (k := 1) (by decide)) rfl rfl hl.1 rfl (Nat.le_of_ble_eq_true rfl) dX6_rule_123 ⟨Nat.le_of_ble_eq_true rfl, Nat.le_of_ble_eq_true rfl⟩) hS (fun H locs hP hS => ?_)
                  refine lv_aload_n hx hb dX6_rule_126 rfl (lv_at hl 1 rfl) ?_
                  refine va_get (D := D) (ci := 6) (v := .ref (ad (2 * 1))) (C := RX6) (T := TX6) (N := 9) hx hb hts hin6 hown hK hP 30 (cw_o30 (S := S7)) rfl 1 (by decide) hfl18 (fun _ h9 => h9) rfl dX6_rule_127 ?_
                  refine lv_iload_n hx hb dX6_rule_130 rfl (lv_at hl 2 rfl) ?_
                  refine lv_iconst (v := (nI 2)) hx hb dX6_rule_131 (by decide) ?_
                  refine lv_iload_n hx hb dX6_rule_132 rfl (lv_at hl 4 rfl) ?_
                  obtain ⟨S8, hc133, hf⟩ := zo_k hf
                  refine cal_v (rnV (As := [.int p1, .int (nI 2), .int p3]) (rest := []) ⟨hx, hb, hml, hown, hts⟩ (c_X4_set hAd (by decide) hc133) (cwV 3 hts gX6_rule_X4_set rfl rfl rfl cdV_X4_set ⟨Nat.le_of_ble_eq_true rfl, Nat.le_of_ble_eq_true rfl⟩) hP hK hN (cw_ro (S := S7) (k := 1) (by decide)) rfl rfl hl.1 rfl (Nat.le_of_ble_eq_true rfl) dX6_rule_133 ⟨Nat.le_of_ble_eq_true rfl, Nat.le_of_ble_eq_true rfl⟩) hS (fun H locs hP hS => ?_)
                  refine lv_aload_n hx hb dX6_rule_136 rfl (lv_at hl 1 rfl) ?_
                  refine va_get (D := D) (ci := 6) (v := .ref (ad (2 * 1))) (C := RX6) (T := TX6) (N := 9) hx hb hts hin6 hown hK hP 30 (cw_o30 (S := S8)) rfl 1 (by decide) hfl18 (fun _ h9 => h9) rfl dX6_rule_137 ?_
                  refine lv_iload_n hx hb dX6_rule_140 rfl (lv_at hl 2 rfl) ?_
                  refine lv_iconst (v := (nI 3)) hx hb dX6_rule_141 (by decide) ?_
                  refine lv_iload hx hb dX6_rule_142 (lv_at hl 5 rfl) ?_
                  obtain ⟨S9, hc144, hf⟩ := zo_k hf
                  refine cal_v (rnV (As := [.int p1, .int (nI 3), .int p4]) (rest := []) ⟨hx, hb, hml, hown, hts⟩ (c_X4_set hAd (by decide) hc144) (cwV 3 hts gX6_rule_X4_set rfl rfl rfl cdV_X4_set ⟨Nat.le_of_ble_eq_true rfl, Nat.le_of_ble_eq_true rfl⟩) hP hK hN (cw_ro (S := S8) (k := 1) (by decide)) rfl rfl hl.1 rfl (Nat.le_of_ble_eq_true rfl) dX6_rule_144 ⟨Nat.le_of_ble_eq_true rfl, Nat.le_of_ble_eq_true rfl⟩) hS (fun H locs hP hS => ?_)
                  refine lv_aload_n hx hb dX6_rule_147 rfl (lv_at hl 1 rfl) ?_
                  refine va_get (D := D) (ci := 6) (v := .ref (ad (2 * 1))) (C := RX6) (T := TX6) (N := 9) hx hb hts hin6 hown hK hP 30 (cw_o30 (S := S9)) rfl 1 (by decide) hfl18 (fun _ h9 => h9) rfl dX6_rule_148 ?_
                  refine lv_iload_n hx hb dX6_rule_151 rfl (lv_at hl 2 rfl) ?_
                  refine lv_iconst (v := (nI 4)) hx hb dX6_rule_152 (by decide) ?_
                  refine lv_iconst (v := (nI 0)) hx hb dX6_rule_153 (by decide) ?_
                  obtain ⟨S10, hc154, hf⟩ := zo_k hf
                  refine cal_v (rnV (As := [.int p1, .int (nI 4), .int (nI 0)]) (rest := []) ⟨hx, hb, hml, hown, hts⟩ (c_X4_set hAd (by decide) hc154) (cwV 3 hts gX6_rule_X4_set rfl rfl rfl cdV_X4_set ⟨Nat.le_of_ble_eq_true rfl, Nat.le_of_ble_eq_true rfl⟩) hP hK hN (cw_ro (S := S9) (k := 1) (by decide)) rfl rfl hl.1 rfl (Nat.le_of_ble_eq_true rfl) dX6_rule_154 ⟨Nat.le_of_ble_eq_true rfl, Nat.le_of_ble_eq_true rfl⟩) hS (fun H locs hP hS => ?_)
                  refine lv_iload hx hb dX6_rule_157 (lv_at hl 0 rfl) ?_
                  have hres := (Option.some.inj hf).symm
                  exact finx_z (wf := fun S => (cw cyI ad S)) hx hb hr hlk hS hP rfl hres dX6_rule_159 (Nat.le_of_ble_eq_true rfl) (Nat.le_of_ble_eq_true rfl)
              · have hf := ifn hf hc
                refine lv_iconst (v := (nI 1)) hx hb dX6_rule_85 (by decide) ?_
                refine lv_goto (tgt := 90) hx hb dX6_rule_86 (by decide) ?_
                refine lv_istore (lv' := [(6, .int (nI 1)), (0, .ref (ad 30)), (1, .int p1), (2, .int p2), (3, .int p3), (4, .int p4), (5, .int p5)]) hx hb dX6_rule_90 hl (by decide) rfl (fun ls hl => ?_)
                refine lv_aload_n hx hb dX6_rule_92 rfl (lv_at hl 1 rfl) ?_
                refine va_get (D := D) (ci := 6) (v := .ref (ad (2 * 1))) (C := RX6) (T := TX6) (N := 9) hx hb hts hin6 hown hK hP 30 (cw_o30 (S := S)) rfl 1 (by decide) hfl18 (fun _ h9 => h9) rfl dX6_rule_93 ?_
                refine lv_iload_n hx hb dX6_rule_96 rfl (lv_at hl 2 rfl) ?_
                obtain ⟨S11, hc97, hf⟩ := zo_k hf
                refine cal_v (rnV (As := [.int p1]) (rest := []) ⟨hx, hb, hml, hown, hts⟩ (c_X4_clear hAd (by decide) hc97) (cwV 1 hts gX6_rule_X4_clear rfl rfl rfl cdV_X4_clear ⟨Nat.le_of_ble_eq_true rfl, Nat.le_of_ble_eq_true rfl⟩) hP hK hN (cw_ro (S := S) (k := 1) (by decide)) rfl rfl hl.1 rfl (Nat.le_of_ble_eq_true rfl) dX6_rule_97 ⟨Nat.le_of_ble_eq_true rfl, Nat.le_of_ble_eq_true rfl⟩) hS (fun H locs hP hS => ?_)
                refine lv_iload_n hx hb dX6_rule_100 rfl (lv_at hl 3 rfl) ?_
                refine lv_iconst (v := (-1)) hx hb dX6_rule_101 (by decide) ?_
                refine lv_icmp_eq (tgt := 157) hx hb dX6_rule_102 (by decide) (fun hc => ?_) (fun hc => ?_)
                · have hf := ifp hf hc
                  refine lv_iload hx hb dX6_rule_157 (lv_at hl 0 rfl) ?_
                  have hres := (Option.some.inj hf).symm
                  exact finx_z (wf := fun S => (cw cyI ad S)) hx hb hr hlk hS hP rfl hres dX6_rule_159 (Nat.le_of_ble_eq_true rfl) (Nat.le_of_ble_eq_true rfl)
                · have hf := ifn hf hc
                  refine lv_aload_n hx hb dX6_rule_105 rfl (lv_at hl 1 rfl) ?_
                  refine va_get (D := D) (ci := 6) (v := .ref (ad (2 * 1))) (C := RX6) (T := TX6) (N := 9) hx hb hts hin6 hown hK hP 30 (cw_o30 (S := S11)) rfl 1 (by decide) hfl18 (fun _ h9 => h9) rfl dX6_rule_106 ?_
                  refine lv_iload_n hx hb dX6_rule_109 rfl (lv_at hl 2 rfl) ?_
                  refine lv_iconst (v := (nI 0)) hx hb dX6_rule_110 (by decide) ?_
                  refine lv_iload hx hb dX6_rule_111 (lv_at hl 6 rfl) ?_
                  obtain ⟨S12, hc113, hf⟩ := zo_k hf
                  refine cal_v (rnV (As := [.int p1, .int (nI 0), .int p5]) (rest := []) ⟨hx, hb, hml, hown, hts⟩ (c_X4_set hAd (by decide) hc113) (cwV 3 hts gX6_rule_X4_set rfl rfl rfl cdV_X4_set ⟨Nat.le_of_ble_eq_true rfl, Nat.le_of_ble_eq_true rfl⟩) hP hK hN (cw_ro (S := S11) (k := 1) (by decide)) rfl rfl hl.1 rfl (Nat.le_of_ble_eq_true rfl) dX6_rule_113 ⟨Nat.le_of_ble_eq_true rfl, Nat.le_of_ble_eq_true rfl⟩) hS (fun H locs hP hS => ?_)
                  refine lv_aload_n hx hb dX6_rule_116 rfl (lv_at hl 1 rfl) ?_
                  refine va_get (D := D) (ci := 6) (v := .ref (ad (2 * 1))) (C := RX6) (T := TX6) (N := 9) hx hb hts hin6 hown hK hP 30 (cw_o30 (S := S12)) rfl 1 (by decide) hfl18 (fun _ h9 => h9) rfl dX6_rule_117 ?_
                  refine lv_iload_n hx hb dX6_rule_120 rfl (lv_at hl 2 rfl) ?_
                  refine lv_iconst (v := (nI 1)) hx hb dX6_rule_121 (by decide) ?_
                  refine lv_iload_n hx hb dX6_rule_122 rfl (lv_at hl 3 rfl) ?_
                  obtain ⟨S13, hc123, hf⟩ := zo_k hf
                  refine cal_v (rnV (As := [.int p1, .int (nI 1), .int p2]) (rest := []) ⟨hx, hb, hml, hown, hts⟩ (c_X4_set hAd (by decide) hc123) (cwV 3 hts gX6_rule_X4_set rfl rfl rfl cdV_X4_set ⟨Nat.le_of_ble_eq_true rfl, Nat.le_of_ble_eq_true rfl⟩) hP hK hN (cw_ro (S := S12) (k := 1) (by decide)) rfl rfl hl.1 rfl (Nat.le_of_ble_eq_true rfl) dX6_rule_123 ⟨Nat.le_of_ble_eq_true rfl, Nat.le_of_ble_eq_true rfl⟩) hS (fun H locs hP hS => ?_)
                  refine lv_aload_n hx hb dX6_rule_126 rfl (lv_at hl 1 rfl) ?_
                  refine va_get (D := D) (ci := 6) (v := .ref (ad (2 * 1))) (C := RX6) (T := TX6) (N := 9) hx hb hts hin6 hown hK hP 30 (cw_o30 (S := S13)) rfl 1 (by decide) hfl18 (fun _ h9 => h9) rfl dX6_rule_127 ?_
                  refine lv_iload_n hx hb dX6_rule_130 rfl (lv_at hl 2 rfl) ?_
                  refine lv_iconst (v := (nI 2)) hx hb dX6_rule_131 (by decide) ?_
                  refine lv_iload_n hx hb dX6_rule_132 rfl (lv_at hl 4 rfl) ?_
                  obtain ⟨S14, hc133, hf⟩ := zo_k hf
                  refine cal_v (rnV (As := [.int p1, .int (nI 2), .int p3]) (rest := []) ⟨hx, hb, hml, hown, hts⟩ (c_X4_set hAd (by decide) hc133) (cwV 3 hts gX6_rule_X4_set rfl rfl rfl cdV_X4_set ⟨Nat.le_of_ble_eq_true rfl, Nat.le_of_ble_eq_true rfl⟩) hP hK hN (cw_ro (S := S13) (k := 1) (by decide)) rfl rfl hl.1 rfl (Nat.le_of_ble_eq_true rfl) dX6_rule_133 ⟨Nat.le_of_ble_eq_true rfl, Nat.le_of_ble_eq_true rfl⟩) hS (fun H locs hP hS => ?_)
                  refine lv_aload_n hx hb dX6_rule_136 rfl (lv_at hl 1 rfl) ?_
                  refine va_get (D := D) (ci := 6) (v := .ref (ad (2 * 1))) (C := RX6) (T := TX6) (N := 9) hx hb hts hin6 hown hK hP 30 (cw_o30 (S := S14)) rfl 1 (by decide) hfl18 (fun _ h9 => h9) rfl dX6_rule_137 ?_
                  refine lv_iload_n hx hb dX6_rule_140 rfl (lv_at hl 2 rfl) ?_
                  refine lv_iconst (v := (nI 3)) hx hb dX6_rule_141 (by decide) ?_
                  refine lv_iload hx hb dX6_rule_142 (lv_at hl 5 rfl) ?_
                  obtain ⟨S15, hc144, hf⟩ := zo_k hf
                  refine cal_v (rnV (As := [.int p1, .int (nI 3), .int p4]) (rest := []) ⟨hx, hb, hml, hown, hts⟩ (c_X4_set hAd (by decide) hc144) (cwV 3 hts gX6_rule_X4_set rfl rfl rfl cdV_X4_set ⟨Nat.le_of_ble_eq_true rfl, Nat.le_of_ble_eq_true rfl⟩) hP hK hN (cw_ro (S := S14) (k := 1) (by decide)) rfl rfl hl.1 rfl (Nat.le_of_ble_eq_true rfl) dX6_rule_144 ⟨Nat.le_of_ble_eq_true rfl, Nat.le_of_ble_eq_true rfl⟩) hS (fun H locs hP hS => ?_)
                  refine lv_aload_n hx hb dX6_rule_147 rfl (lv_at hl 1 rfl) ?_
                  refine va_get (D := D) (ci := 6) (v := .ref (ad (2 * 1))) (C := RX6) (T := TX6) (N := 9) hx hb hts hin6 hown hK hP 30 (cw_o30 (S := S15)) rfl 1 (by decide) hfl18 (fun _ h9 => h9) rfl dX6_rule_148 ?_
                  refine lv_iload_n hx hb dX6_rule_151 rfl (lv_at hl 2 rfl) ?_
                  refine lv_iconst (v := (nI 4)) hx hb dX6_rule_152 (by decide) ?_
                  refine lv_iconst (v := (nI 0)) hx hb dX6_rule_153 (by decide) ?_
                  obtain ⟨S16, hc154, hf⟩ := zo_k hf
                  refine cal_v (rnV (As := [.int p1, .int (nI 4), .int (nI 0)]) (rest := []) ⟨hx, hb, hml, hown, hts⟩ (c_X4_set hAd (by decide) hc154) (cwV 3 hts gX6_rule_X4_set rfl rfl rfl cdV_X4_set ⟨Nat.le_of_ble_eq_true rfl, Nat.le_of_ble_eq_true rfl⟩) hP hK hN (cw_ro (S := S15) (k := 1) (by decide)) rfl rfl hl.1 rfl (Nat.le_of_ble_eq_true rfl) dX6_rule_154 ⟨Nat.le_of_ble_eq_true rfl, Nat.le_of_ble_eq_true rfl⟩) hS (fun H locs hP hS => ?_)
                  refine lv_iload hx hb dX6_rule_157 (lv_at hl 0 rfl) ?_
                  have hres := (Option.some.inj hf).symm
                  exact finx_z (wf := fun S => (cw cyI ad S)) hx hb hr hlk hS hP rfl hres dX6_rule_159 (Nat.le_of_ble_eq_true rfl) (Nat.le_of_ble_eq_true rfl)
            · have hf := ifn hf hc
              have hres := (Option.some.inj hf).symm
              exact thr_leaf (e0 := 2) hx hb hfl hown hfit_2 (hts (.classLink RX6 79 "java/lang/IllegalArgumentException") (by decide +kernel)) (hts (.initialized "java/lang/IllegalArgumentException") (by decide +kernel)) hZ.2.2.2.s99 hat2 hgd_2 hZ hS (hl.1.trans hml.symm) dX6_rule_62 dX6_rule_65 dX6_rule_66 dX6_rule_68 dX6_rule_71 hexc (Nat.le_of_ble_eq_true rfl) (Nat.le_of_ble_eq_true rfl) (Nat.le_of_ble_eq_true rfl) (Nat.le_of_ble_eq_true rfl) hlk hP hres rfl (Nat.le_of_ble_eq_true rfl) (Nat.le_of_ble_eq_true rfl)
        · have hf := ifp hf hc
          have hres := (Option.some.inj hf).symm
          exact thr_leaf (e0 := 2) hx hb hfl hown hfit_2 (hts (.classLink RX6 79 "java/lang/IllegalArgumentException") (by decide +kernel)) (hts (.initialized "java/lang/IllegalArgumentException") (by decide +kernel)) hZ.2.2.2.s97 hat2 hgd_2 hZ hS (hl.1.trans hml.symm) dX6_rule_39 dX6_rule_42 dX6_rule_43 dX6_rule_45 dX6_rule_48 hexc (Nat.le_of_ble_eq_true rfl) (Nat.le_of_ble_eq_true rfl) (Nat.le_of_ble_eq_true rfl) (Nat.le_of_ble_eq_true rfl) hlk hP hres rfl (Nat.le_of_ble_eq_true rfl) (Nat.le_of_ble_eq_true rfl)
    · have hf := ifn hf hc
      have hres := (Option.some.inj hf).symm
      exact thr_leaf (e0 := 2) hx hb hfl hown hfit_2 (hts (.classLink RX6 79 "java/lang/IllegalArgumentException") (by decide +kernel)) (hts (.initialized "java/lang/IllegalArgumentException") (by decide +kernel)) hZ.2.2.2.s95 hat2 hgd_2 hZ hS (hl.1.trans hml.symm) dX6_rule_14 dX6_rule_17 dX6_rule_18 dX6_rule_20 dX6_rule_23 hexc (Nat.le_of_ble_eq_true rfl) (Nat.le_of_ble_eq_true rfl) (Nat.le_of_ble_eq_true rfl) (Nat.le_of_ble_eq_true rfl) hlk hP hres rfl (Nat.le_of_ble_eq_true rfl) (Nat.le_of_ble_eq_true rfl)
set_option maxHeartbeats 4000000 in
set_option maxRecDepth 100000 in
theorem c_X6_input {l : Launch} {D : va_G} {cyI cyJ cyZ : ClassId} {ad : Nat → Nat}  (hfl : l.stackTraces = false) (hAd : AdOK 31 ad)  {S : St} {p1 : Int32} {p2 : Int32} {p3 : Int32} {res : Sum Nat (Int32 × St)} (hf : m_X6_input S p1 p2 p3 = some res) : vx_Met l yX6_input wsX6_input rl_X6_input (PreX D [(cyI, .int), (cyJ, .long), (cyZ, .boolean)] (cw cyI ad S) (CA ad) [.ref (ad 30), .int p1, .int p2, .int p3]) (PoXI D (fun S => (cw cyI ad S)) (CA ad) res) (XX res D (cw cyI ad S) (CA ad)) 2 12 (CA ad) := by
  refine metx_go (cc := cX6_input) (maxL := 6) (ret := (some .int)) (by decide) rfl (Nat.le_of_ble_eq_true rfl) ?_
  intro p e s m args below meth c ls hx hb hr hml hts hown hlk hexc hP hK hN hZ hl
  have hown : s.vm.findClass RX6 = some m.cls := hown
  have hS : va_S (CA ad) s.heap s.heap [] := va_S.rf
  have hl : lv_has ls 6 [(0, .ref (ad 30)), (1, .int p1), (2, .int p2), (3, .int p3)] := hl
  have hin6 : ∀ w ∈ wsX60, w ∈ wsX6_input := by decide +kernel
  have hfl18 := hts (.fieldLink RX6 18 "Makewheel" "rules" "LMakewheel$Rows;") (by decide +kernel)
  have hat3 := hat_3 (args := args) hZ.2.2.1 (fun w hw => hts w (List.mem_cons_of_mem _ (List.mem_append_right _ hw)))
  have hat2 := hat_2 (args := args) hZ.2.2.1 (fun w hw => hts w (List.mem_cons_of_mem _ (List.mem_append_left _ (List.mem_append_right _ hw))))
  have hat1 := hat_1 (args := args) hZ.2.2.1 (fun w hw => hts w (List.mem_cons_of_mem _ (List.mem_append_left _ (List.mem_append_left _ (List.mem_append_right _ hw)))))
  unfold m_X6_input at hf
  refine lv_iload_n hx hb dX6_input_0 rfl (lv_at hl 1 rfl) ?_
  rcases zx_k hf with ⟨e1, hc1, hR1⟩ | ⟨S1, hc1, hf⟩
  · exact xcal_t (rnxS (As := [.int p1]) (rest := []) ⟨hx, hb, hml, hown, hts⟩ (c_X6_refuseOtherTargets hfl hAd hc1) (va_cwS 1 hts gX6_input_X6_refuseOtherTargets rfl rfl rfl cdS_X6_refuseOtherTargets ⟨Nat.le_of_ble_eq_true rfl, Nat.le_of_ble_eq_true rfl⟩) hP hK hN hZ (fun _ h => h) hS rfl hl.1 rfl (Nat.le_of_ble_eq_true rfl) dX6_input_1 ⟨Nat.le_of_ble_eq_true rfl, Nat.le_of_ble_eq_true rfl⟩) hS rfl hR1 hlk hexc (Nat.le_of_ble_eq_true rfl) (Nat.le_of_ble_eq_true rfl)
  have eS1 := ro_X6_refuseOtherTargets hc1
  subst eS1
  refine xcal_k (rnxS (As := [.int p1]) (rest := []) ⟨hx, hb, hml, hown, hts⟩ (c_X6_refuseOtherTargets hfl hAd hc1) (va_cwS 1 hts gX6_input_X6_refuseOtherTargets rfl rfl rfl cdS_X6_refuseOtherTargets ⟨Nat.le_of_ble_eq_true rfl, Nat.le_of_ble_eq_true rfl⟩) hP hK hN hZ (fun _ h => h) hS rfl hl.1 rfl (Nat.le_of_ble_eq_true rfl) dX6_input_1 ⟨Nat.le_of_ble_eq_true rfl, Nat.le_of_ble_eq_true rfl⟩) hS rfl (fun H locs hP hS => ?_)
  refine lv_iload_n hx hb dX6_input_4 rfl (lv_at hl 2 rfl) ?_
  have hJ18 : ∀ (t2 : Int32), m_X6_input_J18 S p1 p2 p3 t2 = some res → ∀ (H : Heap) (locs : List Loc) (ls : Array Slot), va_P D vwCl (cw cyI ad S) H → va_S (CA ad) s.heap H locs → lv_has ls 6 [(0, .ref (ad 30)), (1, .int p1), (2, .int p2), (3, .int p3)] → W p l e rl_X6_input s m args below meth c H locs 1 6 (vx_MQ below (PoXI D (fun S => (cw cyI ad S)) (CA ad) res) (XX res D (cw cyI ad S) (CA ad)) args s 2 12 (CA ad)) (F0 m 18 ls [.int t2]) := by
    intro t2 hf H locs ls hP hS hl
    unfold m_X6_input_J18 at hf
    refine lv_istore (lv' := [(4, .int t2), (0, .ref (ad 30)), (1, .int p1), (2, .int p2), (3, .int p3)]) hx hb dX6_input_18 hl (by decide) rfl (fun ls hl => ?_)
    refine lv_iload hx hb dX6_input_20 (lv_at hl 0 rfl) ?_
    have hJ47 : m_X6_input_J47 t2 S p1 p2 p3 = some res → ∀ (H : Heap) (locs : List Loc) (ls : Array Slot), va_P D vwCl (cw cyI ad S) H → va_S (CA ad) s.heap H locs → lv_has ls 6 [(4, .int t2), (0, .ref (ad 30)), (1, .int p1), (2, .int p2), (3, .int p3)] → W p l e rl_X6_input s m args below meth c H locs 1 6 (vx_MQ below (PoXI D (fun S => (cw cyI ad S)) (CA ad) res) (XX res D (cw cyI ad S) (CA ad)) args s 2 12 (CA ad)) (F0 m 47 ls []) := by
      intro  hf H locs ls hP hS hl
      unfold m_X6_input_J47 at hf
      refine lv_iload hx hb dX6_input_47 (lv_at hl 0 rfl) ?_
      refine lv_if_ne (tgt := 62) hx hb dX6_input_49 (by decide) (fun hc => ?_) (fun hc => ?_)
      · have hf := ifn hf hc
        refine lv_aload_n hx hb dX6_input_62 rfl (lv_at hl 1 rfl) ?_
        refine va_get (D := D) (ci := 6) (v := .ref (ad (2 * 1))) (C := RX6) (T := TX6) (N := 9) hx hb hts hin6 hown hK hP 30 (cw_o30 (S := S)) rfl 1 (by decide) hfl18 (fun _ h9 => h9) rfl dX6_input_63 ?_
        refine lv_iload_n hx hb dX6_input_66 rfl (lv_at hl 2 rfl) ?_
        refine lv_iconst (v := (nI 4)) hx hb dX6_input_67 (by decide) ?_
        obtain ⟨x3, hc68, hf⟩ := zo_k hf
        refine cal_i (rnV (As := [.int p1, .int (nI 4)]) (rest := []) ⟨hx, hb, hml, hown, hts⟩ (c_X4_get hAd (by decide) hc68) (cwV 2 hts gX6_input_X4_get rfl rfl rfl cdV_X4_get ⟨Nat.le_of_ble_eq_true rfl, Nat.le_of_ble_eq_true rfl⟩) hP hK hN (cw_ro (S := S) (k := 1) (by decide)) rfl rfl hl.1 rfl (Nat.le_of_ble_eq_true rfl) dX6_input_68 ⟨Nat.le_of_ble_eq_true rfl, Nat.le_of_ble_eq_true rfl⟩) hS (fun H locs hP hS => ?_)
        refine lv_istore (lv' := [(5, .int x3), (4, .int t2), (0, .ref (ad 30)), (1, .int p1), (2, .int p2), (3, .int p3)]) hx hb dX6_input_71 hl (by decide) rfl (fun ls hl => ?_)
        refine lv_aload_n hx hb dX6_input_73 rfl (lv_at hl 2 rfl) ?_
        refine va_get (D := D) (ci := 6) (v := .ref (ad (2 * 1))) (C := RX6) (T := TX6) (N := 9) hx hb hts hin6 hown hK hP 30 (cw_o30 (S := S)) rfl 1 (by decide) hfl18 (fun _ h9 => h9) rfl dX6_input_74 ?_
        refine lv_iload_n hx hb dX6_input_77 rfl (lv_at hl 3 rfl) ?_
        refine lv_iconst (v := (nI 1)) hx hb dX6_input_78 (by decide) ?_
        obtain ⟨x4, hc79, hf⟩ := zo_k hf
        refine cal_i (rnV (As := [.int p1, .int (nI 1)]) (rest := []) ⟨hx, hb, hml, hown, hts⟩ (c_X4_get hAd (by decide) hc79) (cwV 2 hts gX6_input_X4_get rfl rfl rfl cdV_X4_get ⟨Nat.le_of_ble_eq_true rfl, Nat.le_of_ble_eq_true rfl⟩) hP hK hN (cw_ro (S := S) (k := 1) (by decide)) rfl rfl hl.1 rfl (Nat.le_of_ble_eq_true rfl) dX6_input_79 ⟨Nat.le_of_ble_eq_true rfl, Nat.le_of_ble_eq_true rfl⟩) hS (fun H locs hP hS => ?_)
        refine lv_iconst (v := (-1)) hx hb dX6_input_82 (by decide) ?_
        refine lv_icmp_eq (tgt := 92) hx hb dX6_input_83 (by decide) (fun hc => ?_) (fun hc => ?_)
        · have hf := ifp hf hc
          have hres := (Option.some.inj hf).symm
          exact thr_leaf (e0 := 3) hx hb hfl hown hfit_3 (hts (.classLink RX6 116 "java/lang/IllegalStateException") (by decide +kernel)) (hts (.initialized "java/lang/IllegalStateException") (by decide +kernel)) hZ.2.2.2.s118 hat3 hgd_3 hZ hS (hl.1.trans hml.symm) dX6_input_92 dX6_input_95 dX6_input_96 dX6_input_98 dX6_input_101 hexc (Nat.le_of_ble_eq_true rfl) (Nat.le_of_ble_eq_true rfl) (Nat.le_of_ble_eq_true rfl) (Nat.le_of_ble_eq_true rfl) hlk hP hres rfl (Nat.le_of_ble_eq_true rfl) (Nat.le_of_ble_eq_true rfl)
        · have hf := ifn hf hc
          refine lv_iload hx hb dX6_input_86 (lv_at hl 0 rfl) ?_
          refine lv_iconst (v := (nI 4)) hx hb dX6_input_88 (by decide) ?_
          refine lv_icmp_lt (tgt := 102) hx hb dX6_input_89 (by decide) (fun hc => ?_) (fun hc => ?_)
          · have hf := ifp hf hc
            refine lv_aload_n hx hb dX6_input_102 rfl (lv_at hl 2 rfl) ?_
            refine va_get (D := D) (ci := 6) (v := .ref (ad (2 * 1))) (C := RX6) (T := TX6) (N := 9) hx hb hts hin6 hown hK hP 30 (cw_o30 (S := S)) rfl 1 (by decide) hfl18 (fun _ h9 => h9) rfl dX6_input_103 ?_
            refine lv_iload_n hx hb dX6_input_106 rfl (lv_at hl 3 rfl) ?_
            refine lv_iconst (v := (nI 5)) hx hb dX6_input_107 (by decide) ?_
            refine lv_iload hx hb dX6_input_108 (lv_at hl 0 rfl) ?_
            refine lv_iconst (v := (nI 2)) hx hb dX6_input_110 (by decide) ?_
            refine lv_imul hx hb dX6_input_111 ?_
            refine lv_iadd hx hb dX6_input_112 ?_
            refine lv_iconst (v := (nI 0)) hx hb dX6_input_113 (by decide) ?_
            refine lv_iadd hx hb dX6_input_114 ?_
            refine lv_iload_n hx hb dX6_input_115 rfl (lv_at hl 4 rfl) ?_
            obtain ⟨S5, hc116, hf⟩ := zo_k hf
            refine cal_v (rnV (As := [.int p1, .int (((nI 5) + (x3 * (nI 2))) + (nI 0)), .int p2]) (rest := []) ⟨hx, hb, hml, hown, hts⟩ (c_X4_set hAd (by decide) hc116) (cwV 3 hts gX6_input_X4_set rfl rfl rfl cdV_X4_set ⟨Nat.le_of_ble_eq_true rfl, Nat.le_of_ble_eq_true rfl⟩) hP hK hN (cw_ro (S := S) (k := 1) (by decide)) rfl rfl hl.1 rfl (Nat.le_of_ble_eq_true rfl) dX6_input_116 ⟨Nat.le_of_ble_eq_true rfl, Nat.le_of_ble_eq_true rfl⟩) hS (fun H locs hP hS => ?_)
            refine lv_aload_n hx hb dX6_input_119 rfl (lv_at hl 2 rfl) ?_
            refine va_get (D := D) (ci := 6) (v := .ref (ad (2 * 1))) (C := RX6) (T := TX6) (N := 9) hx hb hts hin6 hown hK hP 30 (cw_o30 (S := S5)) rfl 1 (by decide) hfl18 (fun _ h9 => h9) rfl dX6_input_120 ?_
            refine lv_iload_n hx hb dX6_input_123 rfl (lv_at hl 3 rfl) ?_
            refine lv_iconst (v := (nI 5)) hx hb dX6_input_124 (by decide) ?_
            refine lv_iload hx hb dX6_input_125 (lv_at hl 0 rfl) ?_
            refine lv_iconst (v := (nI 2)) hx hb dX6_input_127 (by decide) ?_
            refine lv_imul hx hb dX6_input_128 ?_
            refine lv_iadd hx hb dX6_input_129 ?_
            refine lv_iconst (v := (nI 1)) hx hb dX6_input_130 (by decide) ?_
            refine lv_iadd hx hb dX6_input_131 ?_
            refine lv_iload_n hx hb dX6_input_132 rfl (lv_at hl 5 rfl) ?_
            obtain ⟨S6, hc133, hf⟩ := zo_k hf
            refine cal_v (rnV (As := [.int p1, .int (((nI 5) + (x3 * (nI 2))) + (nI 1)), .int p3]) (rest := []) ⟨hx, hb, hml, hown, hts⟩ (c_X4_set hAd (by decide) hc133) (cwV 3 hts gX6_input_X4_set rfl rfl rfl cdV_X4_set ⟨Nat.le_of_ble_eq_true rfl, Nat.le_of_ble_eq_true rfl⟩) hP hK hN (cw_ro (S := S5) (k := 1) (by decide)) rfl rfl hl.1 rfl (Nat.le_of_ble_eq_true rfl) dX6_input_133 ⟨Nat.le_of_ble_eq_true rfl, Nat.le_of_ble_eq_true rfl⟩) hS (fun H locs hP hS => ?_)
            refine lv_aload_n hx hb dX6_input_136 rfl (lv_at hl 2 rfl) ?_
            refine va_get (D := D) (ci := 6) (v := .ref (ad (2 * 1))) (C := RX6) (T := TX6) (N := 9) hx hb hts hin6 hown hK hP 30 (cw_o30 (S := S6)) rfl 1 (by decide) hfl18 (fun _ h9 => h9) rfl dX6_input_137 ?_
            refine lv_iload_n hx hb dX6_input_140 rfl (lv_at hl 3 rfl) ?_
            refine lv_iconst (v := (nI 4)) hx hb dX6_input_141 (by decide) ?_
            refine lv_iload hx hb dX6_input_142 (lv_at hl 0 rfl) ?_
            refine lv_iconst (v := (nI 1)) hx hb dX6_input_144 (by decide) ?_
            refine lv_iadd hx hb dX6_input_145 ?_
            obtain ⟨S7, hc146, hf⟩ := zo_k hf
            refine cal_v (rnV (As := [.int p1, .int (nI 4), .int (x3 + (nI 1))]) (rest := []) ⟨hx, hb, hml, hown, hts⟩ (c_X4_set hAd (by decide) hc146) (cwV 3 hts gX6_input_X4_set rfl rfl rfl cdV_X4_set ⟨Nat.le_of_ble_eq_true rfl, Nat.le_of_ble_eq_true rfl⟩) hP hK hN (cw_ro (S := S6) (k := 1) (by decide)) rfl rfl hl.1 rfl (Nat.le_of_ble_eq_true rfl) dX6_input_146 ⟨Nat.le_of_ble_eq_true rfl, Nat.le_of_ble_eq_true rfl⟩) hS (fun H locs hP hS => ?_)
            refine lv_iload hx hb dX6_input_149 (lv_at hl 0 rfl) ?_
            refine lv_iconst (v := (nI 1)) hx hb dX6_input_151 (by decide) ?_
            refine lv_iadd hx hb dX6_input_152 ?_
            have hres := (Option.some.inj hf).symm
            exact finx_i (wf := fun S => (cw cyI ad S)) hx hb hr hlk hS hP hres dX6_input_153 (Nat.le_of_ble_eq_true rfl) (Nat.le_of_ble_eq_true rfl)
          · have hf := ifn hf hc
            have hres := (Option.some.inj hf).symm
            exact thr_leaf (e0 := 3) hx hb hfl hown hfit_3 (hts (.classLink RX6 116 "java/lang/IllegalStateException") (by decide +kernel)) (hts (.initialized "java/lang/IllegalStateException") (by decide +kernel)) hZ.2.2.2.s118 hat3 hgd_3 hZ hS (hl.1.trans hml.symm) dX6_input_92 dX6_input_95 dX6_input_96 dX6_input_98 dX6_input_101 hexc (Nat.le_of_ble_eq_true rfl) (Nat.le_of_ble_eq_true rfl) (Nat.le_of_ble_eq_true rfl) (Nat.le_of_ble_eq_true rfl) hlk hP hres rfl (Nat.le_of_ble_eq_true rfl) (Nat.le_of_ble_eq_true rfl)
      · have hf := ifp hf hc
        have hres := (Option.some.inj hf).symm
        exact thr_leaf (e0 := 2) hx hb hfl hown hfit_2 (hts (.classLink RX6 79 "java/lang/IllegalArgumentException") (by decide +kernel)) (hts (.initialized "java/lang/IllegalArgumentException") (by decide +kernel)) hZ.2.2.2.s114 hat2 hgd_2 hZ hS (hl.1.trans hml.symm) dX6_input_52 dX6_input_55 dX6_input_56 dX6_input_58 dX6_input_61 hexc (Nat.le_of_ble_eq_true rfl) (Nat.le_of_ble_eq_true rfl) (Nat.le_of_ble_eq_true rfl) (Nat.le_of_ble_eq_true rfl) hlk hP hres rfl (Nat.le_of_ble_eq_true rfl) (Nat.le_of_ble_eq_true rfl)
    refine lv_if_eq (tgt := 47) hx hb dX6_input_22 (by decide) (fun hc => ?_) (fun hc => ?_)
    · have hf := ifp hf hc
      exact hJ47  hf _ _ _ hP hS (lv_sub hl [0, 1, 2, 3, 4] rfl)
    · have hf := ifn hf hc
      refine lv_iload_n hx hb dX6_input_25 rfl (lv_at hl 4 rfl) ?_
      refine lv_if_lt (tgt := 37) hx hb dX6_input_26 (by decide) (fun hc => ?_) (fun hc => ?_)
      · have hf := ifp hf hc
        have hres := (Option.some.inj hf).symm
        exact thr_leaf (e0 := 1) hx hb hfl hown hfit_1 (hts (.classLink RX6 68 "java/lang/IndexOutOfBoundsException") (by decide +kernel)) (hts (.initialized "java/lang/IndexOutOfBoundsException") (by decide +kernel)) hZ.2.2.2.s112 hat1 hgd_1 hZ hS (hl.1.trans hml.symm) dX6_input_37 dX6_input_40 dX6_input_41 dX6_input_43 dX6_input_46 hexc (Nat.le_of_ble_eq_true rfl) (Nat.le_of_ble_eq_true rfl) (Nat.le_of_ble_eq_true rfl) (Nat.le_of_ble_eq_true rfl) hlk hP hres rfl (Nat.le_of_ble_eq_true rfl) (Nat.le_of_ble_eq_true rfl)
      · have hf := ifn hf hc
        refine lv_iload_n hx hb dX6_input_29 rfl (lv_at hl 4 rfl) ?_
        refine lv_iload_n hx hb dX6_input_30 rfl (lv_at hl 3 rfl) ?_
        obtain ⟨x8, hc31, hf⟩ := zo_k hf
        refine cal_i (rnS (As := [.int p2]) (rest := [.int p3]) ⟨hx, hb, hml, hown, hts⟩ (c_X6_howManyOf hAd  hc31) (va_cwS 1 hts gX6_input_X6_howManyOf rfl rfl rfl cdS_X6_howManyOf ⟨Nat.le_of_ble_eq_true rfl, Nat.le_of_ble_eq_true rfl⟩) hP hK hN rfl hl.1 rfl (Nat.le_of_ble_eq_true rfl) dX6_input_31 ⟨Nat.le_of_ble_eq_true rfl, Nat.le_of_ble_eq_true rfl⟩) hS (fun H locs hP hS => ?_)
        refine lv_icmp_lt (tgt := 47) hx hb dX6_input_34 (by decide) (fun hc => ?_) (fun hc => ?_)
        · have hf := ifp hf hc
          exact hJ47  hf _ _ _ hP hS (lv_sub hl [0, 1, 2, 3, 4] rfl)
        · have hf := ifn hf hc
          have hres := (Option.some.inj hf).symm
          exact thr_leaf (e0 := 1) hx hb hfl hown hfit_1 (hts (.classLink RX6 68 "java/lang/IndexOutOfBoundsException") (by decide +kernel)) (hts (.initialized "java/lang/IndexOutOfBoundsException") (by decide +kernel)) hZ.2.2.2.s112 hat1 hgd_1 hZ hS (hl.1.trans hml.symm) dX6_input_37 dX6_input_40 dX6_input_41 dX6_input_43 dX6_input_46 hexc (Nat.le_of_ble_eq_true rfl) (Nat.le_of_ble_eq_true rfl) (Nat.le_of_ble_eq_true rfl) (Nat.le_of_ble_eq_true rfl) hlk hP hres rfl (Nat.le_of_ble_eq_true rfl) (Nat.le_of_ble_eq_true rfl)
  have hJ17 : m_X6_input_J17 S p1 p2 p3 = some res → ∀ (H : Heap) (locs : List Loc) (ls : Array Slot), va_P D vwCl (cw cyI ad S) H → va_S (CA ad) s.heap H locs → lv_has ls 6 [(0, .ref (ad 30)), (1, .int p1), (2, .int p2), (3, .int p3)] → W p l e rl_X6_input s m args below meth c H locs 1 6 (vx_MQ below (PoXI D (fun S => (cw cyI ad S)) (CA ad) res) (XX res D (cw cyI ad S) (CA ad)) args s 2 12 (CA ad)) (F0 m 17 ls []) := by
    intro  hf H locs ls hP hS hl
    unfold m_X6_input_J17 at hf
    refine lv_iconst (v := (nI 0)) hx hb dX6_input_17 (by decide) ?_
    exact hJ18 (nI 0) hf _ _ _ hP hS (lv_sub hl [0, 1, 2, 3] rfl)
  refine lv_if_lt (tgt := 17) hx hb dX6_input_5 (by decide) (fun hc => ?_) (fun hc => ?_)
  · have hf := ifp hf hc
    exact hJ17  hf _ _ _ hP hS (lv_sub hl [0, 1, 2, 3] rfl)
  · have hf := ifn hf hc
    refine lv_iload_n hx hb dX6_input_8 rfl (lv_at hl 2 rfl) ?_
    refine lv_iconst (v := (nI 3)) hx hb dX6_input_9 (by decide) ?_
    refine lv_icmp_gt (tgt := 17) hx hb dX6_input_10 (by decide) (fun hc => ?_) (fun hc => ?_)
    · have hf := ifp hf hc
      exact hJ17  hf _ _ _ hP hS (lv_sub hl [0, 1, 2, 3] rfl)
    · have hf := ifn hf hc
      refine lv_iconst (v := (nI 1)) hx hb dX6_input_13 (by decide) ?_
      refine lv_goto (tgt := 18) hx hb dX6_input_14 (by decide) ?_
      exact hJ18 (nI 1) hf _ _ _ hP hS (lv_sub hl [0, 1, 2, 3] rfl)
set_option maxHeartbeats 4000000 in
set_option maxRecDepth 100000 in
theorem c_X6_fails {l : Launch} {D : va_G} {cyI cyJ cyZ : ClassId} {ad : Nat → Nat}  (hfl : l.stackTraces = false) (hAd : AdOK 31 ad)  {S : St} {p1 : Int32} {p2 : Int32} {res : Sum Nat (Int32 × St)} (hf : m_X6_fails S p1 p2 = some res) : vx_Met l yX6_fails wsX6_fails rl_X6_fails (PreX D [(cyI, .int), (cyJ, .long), (cyZ, .boolean)] (cw cyI ad S) (CA ad) [.ref (ad 30), .int p1, .int p2]) (PoXI D (fun S => (cw cyI ad S)) (CA ad) res) (XX res D (cw cyI ad S) (CA ad)) 2 12 (CA ad) := by
  refine metx_go (cc := cX6_fails) (maxL := 3) (ret := (some .int)) (by decide) rfl (Nat.le_of_ble_eq_true rfl) ?_
  intro p e s m args below meth c ls hx hb hr hml hts hown hlk hexc hP hK hN hZ hl
  have hown : s.vm.findClass RX6 = some m.cls := hown
  have hS : va_S (CA ad) s.heap s.heap [] := va_S.rf
  have hl : lv_has ls 3 [(0, .ref (ad 30)), (1, .int p1), (2, .int p2)] := hl
  have hin6 : ∀ w ∈ wsX60, w ∈ wsX6_fails := by decide +kernel
  have hfl34 := hts (.fieldLink RX6 34 "Makewheel" "machines" "LMakewheel$Machines;") (by decide +kernel)
  have hat2 := hat_2 (args := args) hZ.2.2.1 (fun w hw => hts w (List.mem_cons_of_mem _ (List.mem_append_left _ (List.mem_append_right _ hw))))
  unfold m_X6_fails at hf
  refine lv_iload_n hx hb dX6_fails_0 rfl (lv_at hl 1 rfl) ?_
  rcases zx_k hf with ⟨e1, hc1, hR1⟩ | ⟨S1, hc1, hf⟩
  · exact xcal_t (rnxS (As := [.int p1]) (rest := []) ⟨hx, hb, hml, hown, hts⟩ (c_X6_refuseOtherTargets hfl hAd hc1) (va_cwS 1 hts gX6_fails_X6_refuseOtherTargets rfl rfl rfl cdS_X6_refuseOtherTargets ⟨Nat.le_of_ble_eq_true rfl, Nat.le_of_ble_eq_true rfl⟩) hP hK hN hZ (fun _ h => h) hS rfl hl.1 rfl (Nat.le_of_ble_eq_true rfl) dX6_fails_1 ⟨Nat.le_of_ble_eq_true rfl, Nat.le_of_ble_eq_true rfl⟩) hS rfl hR1 hlk hexc (Nat.le_of_ble_eq_true rfl) (Nat.le_of_ble_eq_true rfl)
  have eS1 := ro_X6_refuseOtherTargets hc1
  subst eS1
  refine xcal_k (rnxS (As := [.int p1]) (rest := []) ⟨hx, hb, hml, hown, hts⟩ (c_X6_refuseOtherTargets hfl hAd hc1) (va_cwS 1 hts gX6_fails_X6_refuseOtherTargets rfl rfl rfl cdS_X6_refuseOtherTargets ⟨Nat.le_of_ble_eq_true rfl, Nat.le_of_ble_eq_true rfl⟩) hP hK hN hZ (fun _ h => h) hS rfl hl.1 rfl (Nat.le_of_ble_eq_true rfl) dX6_fails_1 ⟨Nat.le_of_ble_eq_true rfl, Nat.le_of_ble_eq_true rfl⟩) hS rfl (fun H locs hP hS => ?_)
  refine lv_iload_n hx hb dX6_fails_4 rfl (lv_at hl 2 rfl) ?_
  refine lv_if_lt (tgt := 14) hx hb dX6_fails_5 (by decide) (fun hc => ?_) (fun hc => ?_)
  · have hf := ifp hf hc
    have hres := (Option.some.inj hf).symm
    exact thr_leaf (e0 := 2) hx hb hfl hown hfit_2 (hts (.classLink RX6 79 "java/lang/IllegalArgumentException") (by decide +kernel)) (hts (.initialized "java/lang/IllegalArgumentException") (by decide +kernel)) hZ.2.2.2.s121 hat2 hgd_2 hZ hS (hl.1.trans hml.symm) dX6_fails_14 dX6_fails_17 dX6_fails_18 dX6_fails_20 dX6_fails_23 hexc (Nat.le_of_ble_eq_true rfl) (Nat.le_of_ble_eq_true rfl) (Nat.le_of_ble_eq_true rfl) (Nat.le_of_ble_eq_true rfl) hlk hP hres rfl (Nat.le_of_ble_eq_true rfl) (Nat.le_of_ble_eq_true rfl)
  · have hf := ifn hf hc
    refine lv_iload_n hx hb dX6_fails_8 rfl (lv_at hl 2 rfl) ?_
    refine lv_bipush (v := (nI 20)) hx hb dX6_fails_9 (by decide) ?_
    refine lv_icmp_le (tgt := 24) hx hb dX6_fails_11 (by decide) (fun hc => ?_) (fun hc => ?_)
    · have hf := ifp hf hc
      refine lv_aload_n hx hb dX6_fails_24 rfl (lv_at hl 0 rfl) ?_
      refine va_get (D := D) (ci := 6) (v := .ref (ad 25)) (C := RX6) (T := TX6) (N := 9) hx hb hts hin6 hown hK hP 30 (cw_o30 (S := S)) rfl 4 (by decide) hfl34 (fun _ h9 => h9) rfl dX6_fails_25 ?_
      refine lv_iload_n hx hb dX6_fails_28 rfl (lv_at hl 1 rfl) ?_
      refine lv_iload_n hx hb dX6_fails_29 rfl (lv_at hl 2 rfl) ?_
      obtain ⟨x2, S3, hc30, hf⟩ := zo2_k hf
      refine cal_i (rnV (As := [.int p1, .int p2]) (rest := []) ⟨hx, hb, hml, hown, hts⟩ (c_X3_letFail hAd  hc30) (cwV 2 hts gX6_fails_X3_letFail rfl rfl rfl cdV_X3_letFail ⟨Nat.le_of_ble_eq_true rfl, Nat.le_of_ble_eq_true rfl⟩) hP hK hN (cw_o25 (S := S)) rfl rfl hl.1 rfl (Nat.le_of_ble_eq_true rfl) dX6_fails_30 ⟨Nat.le_of_ble_eq_true rfl, Nat.le_of_ble_eq_true rfl⟩) hS (fun H locs hP hS => ?_)
      have hres := (Option.some.inj hf).symm
      exact finx_i (wf := fun S => (cw cyI ad S)) hx hb hr hlk hS hP hres dX6_fails_33 (Nat.le_of_ble_eq_true rfl) (Nat.le_of_ble_eq_true rfl)
    · have hf := ifn hf hc
      have hres := (Option.some.inj hf).symm
      exact thr_leaf (e0 := 2) hx hb hfl hown hfit_2 (hts (.classLink RX6 79 "java/lang/IllegalArgumentException") (by decide +kernel)) (hts (.initialized "java/lang/IllegalArgumentException") (by decide +kernel)) hZ.2.2.2.s121 hat2 hgd_2 hZ hS (hl.1.trans hml.symm) dX6_fails_14 dX6_fails_17 dX6_fails_18 dX6_fails_20 dX6_fails_23 hexc (Nat.le_of_ble_eq_true rfl) (Nat.le_of_ble_eq_true rfl) (Nat.le_of_ble_eq_true rfl) (Nat.le_of_ble_eq_true rfl) hlk hP hres rfl (Nat.le_of_ble_eq_true rfl) (Nat.le_of_ble_eq_true rfl)
set_option maxHeartbeats 4000000 in
set_option maxRecDepth 100000 in
theorem c_X6_poison {l : Launch} {D : va_G} {cyI cyJ cyZ : ClassId} {ad : Nat → Nat}  (hfl : l.stackTraces = false) (hAd : AdOK 31 ad)  {S : St} {p1 : Int32} {p2 : Int32} {res : Sum Nat (Int32 × St)} (hf : m_X6_poison S p1 p2 = some res) : vx_Met l yX6_poison wsX6_poison rl_X6_poison (PreX D [(cyI, .int), (cyJ, .long), (cyZ, .boolean)] (cw cyI ad S) (CA ad) [.ref (ad 30), .int p1, .int p2]) (PoXI D (fun S => (cw cyI ad S)) (CA ad) res) (XX res D (cw cyI ad S) (CA ad)) 1 6 (CA ad) := by
  refine metx_go (cc := cX6_poison) (maxL := 3) (ret := (some .boolean)) (by decide) rfl (Nat.le_of_ble_eq_true rfl) ?_
  intro p e s m args below meth c ls hx hb hr hml hts hown hlk hexc hP hK hN hZ hl
  have hown : s.vm.findClass RX6 = some m.cls := hown
  have hS : va_S (CA ad) s.heap s.heap [] := va_S.rf
  have hl : lv_has ls 3 [(0, .ref (ad 30)), (1, .int p1), (2, .int p2)] := hl
  have hin6 : ∀ w ∈ wsX60, w ∈ wsX6_poison := by decide +kernel
  have hfl34 := hts (.fieldLink RX6 34 "Makewheel" "machines" "LMakewheel$Machines;") (by decide +kernel)
  have hat1 := hat_1 (args := args) hZ.2.2.1 (fun w hw => hts w (List.mem_cons_of_mem _ (List.mem_append_right _ hw)))
  unfold m_X6_poison at hf
  refine lv_iload_n hx hb dX6_poison_0 rfl (lv_at hl 1 rfl) ?_
  refine lv_if_lt (tgt := 9) hx hb dX6_poison_1 (by decide) (fun hc => ?_) (fun hc => ?_)
  · have hf := ifp hf hc
    have hres := (Option.some.inj hf).symm
    exact thr_leaf (e0 := 1) hx hb hfl hown hfit_1 (hts (.classLink RX6 68 "java/lang/IndexOutOfBoundsException") (by decide +kernel)) (hts (.initialized "java/lang/IndexOutOfBoundsException") (by decide +kernel)) hZ.2.2.2.s126 hat1 hgd_1 hZ hS (hl.1.trans hml.symm) dX6_poison_9 dX6_poison_12 dX6_poison_13 dX6_poison_15 dX6_poison_18 hexc (Nat.le_of_ble_eq_true rfl) (Nat.le_of_ble_eq_true rfl) (Nat.le_of_ble_eq_true rfl) (Nat.le_of_ble_eq_true rfl) hlk hP hres rfl (Nat.le_of_ble_eq_true rfl) (Nat.le_of_ble_eq_true rfl)
  · have hf := ifn hf hc
    refine lv_iload_n hx hb dX6_poison_4 rfl (lv_at hl 1 rfl) ?_
    refine lv_iconst (v := (nI 3)) hx hb dX6_poison_5 (by decide) ?_
    refine lv_icmp_lt (tgt := 19) hx hb dX6_poison_6 (by decide) (fun hc => ?_) (fun hc => ?_)
    · have hf := ifp hf hc
      refine lv_aload_n hx hb dX6_poison_19 rfl (lv_at hl 0 rfl) ?_
      refine va_get (D := D) (ci := 6) (v := .ref (ad 25)) (C := RX6) (T := TX6) (N := 9) hx hb hts hin6 hown hK hP 30 (cw_o30 (S := S)) rfl 4 (by decide) hfl34 (fun _ h9 => h9) rfl dX6_poison_20 ?_
      refine lv_iload_n hx hb dX6_poison_23 rfl (lv_at hl 1 rfl) ?_
      refine lv_iload_n hx hb dX6_poison_24 rfl (lv_at hl 2 rfl) ?_
      obtain ⟨x1, S2, hc25, hf⟩ := zo2_k hf
      refine cal_i (rnV (As := [.int p1, .int p2]) (rest := []) ⟨hx, hb, hml, hown, hts⟩ (c_X3_bringBack hAd  hc25) (cwV 2 hts gX6_poison_X3_bringBack rfl rfl rfl cdV_X3_bringBack ⟨Nat.le_of_ble_eq_true rfl, Nat.le_of_ble_eq_true rfl⟩) hP hK hN (cw_o25 (S := S)) rfl rfl hl.1 rfl (Nat.le_of_ble_eq_true rfl) dX6_poison_25 ⟨Nat.le_of_ble_eq_true rfl, Nat.le_of_ble_eq_true rfl⟩) hS (fun H locs hP hS => ?_)
      obtain ⟨hbz, hf⟩ := zg_k hf
      have hres := (Option.some.inj hf).symm
      exact finx_z (wf := fun S => (cw cyI ad S)) hx hb hr hlk hS hP (bz_n hbz) hres dX6_poison_28 (Nat.le_of_ble_eq_true rfl) (Nat.le_of_ble_eq_true rfl)
    · have hf := ifn hf hc
      have hres := (Option.some.inj hf).symm
      exact thr_leaf (e0 := 1) hx hb hfl hown hfit_1 (hts (.classLink RX6 68 "java/lang/IndexOutOfBoundsException") (by decide +kernel)) (hts (.initialized "java/lang/IndexOutOfBoundsException") (by decide +kernel)) hZ.2.2.2.s126 hat1 hgd_1 hZ hS (hl.1.trans hml.symm) dX6_poison_9 dX6_poison_12 dX6_poison_13 dX6_poison_15 dX6_poison_18 hexc (Nat.le_of_ble_eq_true rfl) (Nat.le_of_ble_eq_true rfl) (Nat.le_of_ble_eq_true rfl) (Nat.le_of_ble_eq_true rfl) hlk hP hres rfl (Nat.le_of_ble_eq_true rfl) (Nat.le_of_ble_eq_true rfl)
set_option maxHeartbeats 4000000 in
set_option maxRecDepth 100000 in
theorem c_X6_vanish {l : Launch} {D : va_G} {cyI cyJ cyZ : ClassId} {ad : Nat → Nat}  (hfl : l.stackTraces = false) (hAd : AdOK 31 ad)  {S : St} {p1 : Int32} {res : Sum Nat (Int32 × St)} (hf : m_X6_vanish S p1 = some res) : vx_Met l yX6_vanish wsX6_vanish rl_X6_vanish (PreX D [(cyI, .int), (cyJ, .long), (cyZ, .boolean)] (cw cyI ad S) (CA ad) [.ref (ad 30), .int p1]) (PoXI D (fun S => (cw cyI ad S)) (CA ad) res) (XX res D (cw cyI ad S) (CA ad)) 1 6 (CA ad) := by
  refine metx_go (cc := cX6_vanish) (maxL := 3) (ret := (some .int)) (by decide) rfl (Nat.le_of_ble_eq_true rfl) ?_
  intro p e s m args below meth c ls hx hb hr hml hts hown hlk hexc hP hK hN hZ hl
  have hown : s.vm.findClass RX6 = some m.cls := hown
  have hS : va_S (CA ad) s.heap s.heap [] := va_S.rf
  have hl : lv_has ls 3 [(0, .ref (ad 30)), (1, .int p1)] := hl
  have hin0 : ∀ w ∈ wsX00, w ∈ wsX6_vanish := by decide +kernel
  have hin6 : ∀ w ∈ wsX60, w ∈ wsX6_vanish := by decide +kernel
  have hfl27 := hts (.fieldLink RX6 27 "Makewheel" "cache" "LMakewheel$Cache;") (by decide +kernel)
  have hat2 := hat_2 (args := args) hZ.2.2.1 (fun w hw => hts w (List.mem_cons_of_mem _ (List.mem_append_right _ hw)))
  unfold m_X6_vanish at hf
  refine lv_iload_n hx hb dX6_vanish_0 rfl (lv_at hl 1 rfl) ?_
  refine lv_if_lt (tgt := 10) hx hb dX6_vanish_1 (by decide) (fun hc => ?_) (fun hc => ?_)
  · have hf := ifp hf hc
    have hres := (Option.some.inj hf).symm
    exact thr_leaf (e0 := 2) hx hb hfl hown hfit_2 (hts (.classLink RX6 79 "java/lang/IllegalArgumentException") (by decide +kernel)) (hts (.initialized "java/lang/IllegalArgumentException") (by decide +kernel)) hZ.2.2.2.s136 hat2 hgd_2 hZ hS (hl.1.trans hml.symm) dX6_vanish_10 dX6_vanish_13 dX6_vanish_14 dX6_vanish_16 dX6_vanish_19 hexc (Nat.le_of_ble_eq_true rfl) (Nat.le_of_ble_eq_true rfl) (Nat.le_of_ble_eq_true rfl) (Nat.le_of_ble_eq_true rfl) hlk hP hres rfl (Nat.le_of_ble_eq_true rfl) (Nat.le_of_ble_eq_true rfl)
  · have hf := ifn hf hc
    refine lv_iload_n hx hb dX6_vanish_4 rfl (lv_at hl 1 rfl) ?_
    refine lv_bipush (v := (nI 20)) hx hb dX6_vanish_5 (by decide) ?_
    refine lv_icmp_le (tgt := 20) hx hb dX6_vanish_7 (by decide) (fun hc => ?_) (fun hc => ?_)
    · have hf := ifp hf hc
      refine lv_aload_n hx hb dX6_vanish_20 rfl (lv_at hl 0 rfl) ?_
      refine va_get (D := D) (ci := 6) (v := .ref (ad 24)) (C := RX6) (T := TX6) (N := 9) hx hb hts hin6 hown hK hP 30 (cw_o30 (S := S)) rfl 3 (by decide) hfl27 (fun _ h9 => h9) rfl dX6_vanish_21 ?_
      refine va_getN (D := D) (ci := 0) (v := .int (S.1 12 0)) (C := RX0) (T := TX0) (N := 3) hx hb hts hin0 hown hK hP 24 (cw_o24 (S := S)) rfl 1 (by decide) (va_Nw.use rfl hN.n6_138) (fun _ h9 => h9) rfl dX6_vanish_24 ?_
      refine lv_topi (fun x1 ex1 => ?_)
      have hf := zb_x hf ex1
      refine lv_istore_n (lv' := [(2, .int x1), (0, .ref (ad 30)), (1, .int p1)]) hx hb dX6_vanish_27 rfl hl (by decide) rfl (fun ls hl => ?_)
      refine lv_aload_n hx hb dX6_vanish_28 rfl (lv_at hl 1 rfl) ?_
      refine va_get (D := D) (ci := 6) (v := .ref (ad 24)) (C := RX6) (T := TX6) (N := 9) hx hb hts hin6 hown hK hP 30 (cw_o30 (S := S)) rfl 3 (by decide) hfl27 (fun _ h9 => h9) rfl dX6_vanish_29 ?_
      refine lv_iload_n hx hb dX6_vanish_32 rfl (lv_at hl 2 rfl) ?_
      refine va_putN (D := D) (ci := 0) (v := .int p1) (ty := .int) (C := RX0) (T := TX0) (N := 3) hx hb hts hin0 tyX0 tyX0_ok nmX0 hown hK hP (cw_D hAd) hS 24 (cw_o24 (S := S)) rfl 1 (by decide) (va_Nw.use rfl hN.n6_138) (fun _ h9 => h9) rfl (by decide +kernel) rfl rfl (Nat.le_of_ble_eq_true rfl) dX6_vanish_33 (fun H locs hP _ hS => ?_)
      have hP : va_P D vwCl (cw cyI ad (wi S 12 0 p1)) H := by rw [← cw_s12]; exact hP
      obtain ⟨S2, eS2, hf⟩ := zb_k hf
      rw [← eS2] at hP
      refine lv_iload_n hx hb dX6_vanish_36 rfl (lv_at hl 0 rfl) ?_
      have hres := (Option.some.inj hf).symm
      exact finx_i (wf := fun S => (cw cyI ad S)) hx hb hr hlk hS hP hres dX6_vanish_37 (Nat.le_of_ble_eq_true rfl) (Nat.le_of_ble_eq_true rfl)
    · have hf := ifn hf hc
      have hres := (Option.some.inj hf).symm
      exact thr_leaf (e0 := 2) hx hb hfl hown hfit_2 (hts (.classLink RX6 79 "java/lang/IllegalArgumentException") (by decide +kernel)) (hts (.initialized "java/lang/IllegalArgumentException") (by decide +kernel)) hZ.2.2.2.s136 hat2 hgd_2 hZ hS (hl.1.trans hml.symm) dX6_vanish_10 dX6_vanish_13 dX6_vanish_14 dX6_vanish_16 dX6_vanish_19 hexc (Nat.le_of_ble_eq_true rfl) (Nat.le_of_ble_eq_true rfl) (Nat.le_of_ble_eq_true rfl) (Nat.le_of_ble_eq_true rfl) hlk hP hres rfl (Nat.le_of_ble_eq_true rfl) (Nat.le_of_ble_eq_true rfl)
set_option maxHeartbeats 4000000 in
set_option maxRecDepth 100000 in
theorem c_X6_build {l : Launch} {D : va_G} {cyI cyJ cyZ : ClassId} {ad : Nat → Nat}  (hfl : l.stackTraces = false) (hAd : AdOK 31 ad)  {S : St} {p1 : Int32} {p2 : Int32} {res : Sum Nat (Int32 × St)} (hf : m_X6_build S p1 p2 = some res) : vx_Met l yX6_build wsX6_build rl_X6_build (PreX D [(cyI, .int), (cyJ, .long), (cyZ, .boolean)] (cw cyI ad S) (CA ad) [.ref (ad 30), .int p1, .int p2]) (PoXI D (fun S => (cw cyI ad S)) (CA ad) res) (XX res D (cw cyI ad S) (CA ad)) 2 12 (CA ad) := by
  refine metx_go (cc := cX6_build) (maxL := 3) (ret := (some .int)) (by decide) rfl (Nat.le_of_ble_eq_true rfl) ?_
  intro p e s m args below meth c ls hx hb hr hml hts hown hlk hexc hP hK hN hZ hl
  have hown : s.vm.findClass RX6 = some m.cls := hown
  have hS : va_S (CA ad) s.heap s.heap [] := va_S.rf
  have hl : lv_has ls 3 [(0, .ref (ad 30)), (1, .int p1), (2, .int p2)] := hl
  have hin6 : ∀ w ∈ wsX60, w ∈ wsX6_build := by decide +kernel
  have hfl43 := hts (.fieldLink RX6 43 "Makewheel" "builder" "LMakewheel$Looker;") (by decide +kernel)
  unfold m_X6_build at hf
  refine lv_iload_n hx hb dX6_build_0 rfl (lv_at hl 1 rfl) ?_
  refine lv_iload_n hx hb dX6_build_1 rfl (lv_at hl 2 rfl) ?_
  rcases zx_k hf with ⟨e2, hc2, hR2⟩ | ⟨S1, hc2, hf⟩
  · exact xcal_t (rnxS (As := [.int p1, .int p2]) (rest := []) ⟨hx, hb, hml, hown, hts⟩ (c_X6_refuseOtherNodes hfl hAd hc2) (va_cwS 2 hts gX6_build_X6_refuseOtherNodes rfl rfl rfl cdS_X6_refuseOtherNodes ⟨Nat.le_of_ble_eq_true rfl, Nat.le_of_ble_eq_true rfl⟩) hP hK hN hZ (fun _ h => h) hS rfl hl.1 rfl (Nat.le_of_ble_eq_true rfl) dX6_build_2 ⟨Nat.le_of_ble_eq_true rfl, Nat.le_of_ble_eq_true rfl⟩) hS rfl hR2 hlk hexc (Nat.le_of_ble_eq_true rfl) (Nat.le_of_ble_eq_true rfl)
  have eS1 := ro_X6_refuseOtherNodes hc2
  subst eS1
  refine xcal_k (rnxS (As := [.int p1, .int p2]) (rest := []) ⟨hx, hb, hml, hown, hts⟩ (c_X6_refuseOtherNodes hfl hAd hc2) (va_cwS 2 hts gX6_build_X6_refuseOtherNodes rfl rfl rfl cdS_X6_refuseOtherNodes ⟨Nat.le_of_ble_eq_true rfl, Nat.le_of_ble_eq_true rfl⟩) hP hK hN hZ (fun _ h => h) hS rfl hl.1 rfl (Nat.le_of_ble_eq_true rfl) dX6_build_2 ⟨Nat.le_of_ble_eq_true rfl, Nat.le_of_ble_eq_true rfl⟩) hS rfl (fun H locs hP hS => ?_)
  refine lv_aload_n hx hb dX6_build_5 rfl (lv_at hl 0 rfl) ?_
  refine va_get (D := D) (ci := 6) (v := .ref (ad (26 + 0))) (C := RX6) (T := TX6) (N := 9) hx hb hts hin6 hown hK hP 30 (cw_o30 (S := S)) rfl 5 (by decide) hfl43 (fun _ h9 => h9) rfl dX6_build_6 ?_
  refine lv_iload_n hx hb dX6_build_9 rfl (lv_at hl 1 rfl) ?_
  refine lv_iload_n hx hb dX6_build_10 rfl (lv_at hl 2 rfl) ?_
  obtain ⟨x2, hc11, hf⟩ := zo_k hf
  refine cal_i (rnS (As := [.int p1, .int p2]) (rest := [.ref (ad (26 + 0))]) ⟨hx, hb, hml, hown, hts⟩ (c_X6_nodeOf hAd  hc11) (va_cwS 2 hts gX6_build_X6_nodeOf rfl rfl rfl cdS_X6_nodeOf ⟨Nat.le_of_ble_eq_true rfl, Nat.le_of_ble_eq_true rfl⟩) hP hK hN rfl hl.1 rfl (Nat.le_of_ble_eq_true rfl) dX6_build_11 ⟨Nat.le_of_ble_eq_true rfl, Nat.le_of_ble_eq_true rfl⟩) hS (fun H locs hP hS => ?_)
  obtain ⟨x3, S4, hc14, hf⟩ := zo2_k hf
  refine cal_i (rnV (As := [.int x2]) (rest := []) ⟨hx, hb, hml, hown, hts⟩ (c_X2_start hAd (by decide) hc14) (cwV 1 hts gX6_build_X2_start rfl rfl rfl cdV_X2_start ⟨Nat.le_of_ble_eq_true rfl, Nat.le_of_ble_eq_true rfl⟩) hP hK hN (cw_lo (S := S) (b := 0) (by decide)) rfl rfl hl.1 rfl (Nat.le_of_ble_eq_true rfl) dX6_build_14 ⟨Nat.le_of_ble_eq_true rfl, Nat.le_of_ble_eq_true rfl⟩) hS (fun H locs hP hS => ?_)
  have hres := (Option.some.inj hf).symm
  exact finx_i (wf := fun S => (cw cyI ad S)) hx hb hr hlk hS hP hres dX6_build_17 (Nat.le_of_ble_eq_true rfl) (Nat.le_of_ble_eq_true rfl)
set_option maxHeartbeats 4000000 in
set_option maxRecDepth 100000 in
theorem c_X6_plain {l : Launch} {D : va_G} {cyI cyJ cyZ : ClassId} {ad : Nat → Nat}  (hfl : l.stackTraces = false) (hAd : AdOK 31 ad)  {S : St} {p1 : Int32} {p2 : Int32} {res : Sum Nat (Int32 × St)} (hf : m_X6_plain S p1 p2 = some res) : vx_Met l yX6_plain wsX6_plain rl_X6_plain (PreX D [(cyI, .int), (cyJ, .long), (cyZ, .boolean)] (cw cyI ad S) (CA ad) [.ref (ad 30), .int p1, .int p2]) (PoXI D (fun S => (cw cyI ad S)) (CA ad) res) (XX res D (cw cyI ad S) (CA ad)) 2 12 (CA ad) := by
  refine metx_go (cc := cX6_plain) (maxL := 3) (ret := (some .int)) (by decide) rfl (Nat.le_of_ble_eq_true rfl) ?_
  intro p e s m args below meth c ls hx hb hr hml hts hown hlk hexc hP hK hN hZ hl
  have hown : s.vm.findClass RX6 = some m.cls := hown
  have hS : va_S (CA ad) s.heap s.heap [] := va_S.rf
  have hl : lv_has ls 3 [(0, .ref (ad 30)), (1, .int p1), (2, .int p2)] := hl
  have hin6 : ∀ w ∈ wsX60, w ∈ wsX6_plain := by decide +kernel
  have hfl47 := hts (.fieldLink RX6 47 "Makewheel" "plainly" "LMakewheel$Looker;") (by decide +kernel)
  unfold m_X6_plain at hf
  refine lv_iload_n hx hb dX6_plain_0 rfl (lv_at hl 1 rfl) ?_
  refine lv_iload_n hx hb dX6_plain_1 rfl (lv_at hl 2 rfl) ?_
  rcases zx_k hf with ⟨e2, hc2, hR2⟩ | ⟨S1, hc2, hf⟩
  · exact xcal_t (rnxS (As := [.int p1, .int p2]) (rest := []) ⟨hx, hb, hml, hown, hts⟩ (c_X6_refuseOtherNodes hfl hAd hc2) (va_cwS 2 hts gX6_plain_X6_refuseOtherNodes rfl rfl rfl cdS_X6_refuseOtherNodes ⟨Nat.le_of_ble_eq_true rfl, Nat.le_of_ble_eq_true rfl⟩) hP hK hN hZ (fun _ h => h) hS rfl hl.1 rfl (Nat.le_of_ble_eq_true rfl) dX6_plain_2 ⟨Nat.le_of_ble_eq_true rfl, Nat.le_of_ble_eq_true rfl⟩) hS rfl hR2 hlk hexc (Nat.le_of_ble_eq_true rfl) (Nat.le_of_ble_eq_true rfl)
  have eS1 := ro_X6_refuseOtherNodes hc2
  subst eS1
  refine xcal_k (rnxS (As := [.int p1, .int p2]) (rest := []) ⟨hx, hb, hml, hown, hts⟩ (c_X6_refuseOtherNodes hfl hAd hc2) (va_cwS 2 hts gX6_plain_X6_refuseOtherNodes rfl rfl rfl cdS_X6_refuseOtherNodes ⟨Nat.le_of_ble_eq_true rfl, Nat.le_of_ble_eq_true rfl⟩) hP hK hN hZ (fun _ h => h) hS rfl hl.1 rfl (Nat.le_of_ble_eq_true rfl) dX6_plain_2 ⟨Nat.le_of_ble_eq_true rfl, Nat.le_of_ble_eq_true rfl⟩) hS rfl (fun H locs hP hS => ?_)
  refine lv_aload_n hx hb dX6_plain_5 rfl (lv_at hl 0 rfl) ?_
  refine va_get (D := D) (ci := 6) (v := .ref (ad (26 + 1))) (C := RX6) (T := TX6) (N := 9) hx hb hts hin6 hown hK hP 30 (cw_o30 (S := S)) rfl 6 (by decide) hfl47 (fun _ h9 => h9) rfl dX6_plain_6 ?_
  refine lv_iload_n hx hb dX6_plain_9 rfl (lv_at hl 1 rfl) ?_
  refine lv_iload_n hx hb dX6_plain_10 rfl (lv_at hl 2 rfl) ?_
  obtain ⟨x2, hc11, hf⟩ := zo_k hf
  refine cal_i (rnS (As := [.int p1, .int p2]) (rest := [.ref (ad (26 + 1))]) ⟨hx, hb, hml, hown, hts⟩ (c_X6_nodeOf hAd  hc11) (va_cwS 2 hts gX6_plain_X6_nodeOf rfl rfl rfl cdS_X6_nodeOf ⟨Nat.le_of_ble_eq_true rfl, Nat.le_of_ble_eq_true rfl⟩) hP hK hN rfl hl.1 rfl (Nat.le_of_ble_eq_true rfl) dX6_plain_11 ⟨Nat.le_of_ble_eq_true rfl, Nat.le_of_ble_eq_true rfl⟩) hS (fun H locs hP hS => ?_)
  obtain ⟨x3, S4, hc14, hf⟩ := zo2_k hf
  refine cal_i (rnV (As := [.int x2]) (rest := []) ⟨hx, hb, hml, hown, hts⟩ (c_X2_start hAd (by decide) hc14) (cwV 1 hts gX6_plain_X2_start rfl rfl rfl cdV_X2_start ⟨Nat.le_of_ble_eq_true rfl, Nat.le_of_ble_eq_true rfl⟩) hP hK hN (cw_lo (S := S) (b := 1) (by decide)) rfl rfl hl.1 rfl (Nat.le_of_ble_eq_true rfl) dX6_plain_14 ⟨Nat.le_of_ble_eq_true rfl, Nat.le_of_ble_eq_true rfl⟩) hS (fun H locs hP hS => ?_)
  have hres := (Option.some.inj hf).symm
  exact finx_i (wf := fun S => (cw cyI ad S)) hx hb hr hlk hS hP hres dX6_plain_17 (Nat.le_of_ble_eq_true rfl) (Nat.le_of_ble_eq_true rfl)
set_option maxHeartbeats 4000000 in
set_option maxRecDepth 100000 in
theorem c_X6_done {l : Launch} {D : va_G} {cyI cyJ cyZ : ClassId} {ad : Nat → Nat}  (hfl : l.stackTraces = false) (hAd : AdOK 31 ad)  {S : St} {p1 : Int32} {p2 : Int32} {res : Sum Nat (Int32 × St)} (hf : m_X6_done S p1 p2 = some res) : vx_Met l yX6_done wsX6_done rl_X6_done (PreX D [(cyI, .int), (cyJ, .long), (cyZ, .boolean)] (cw cyI ad S) (CA ad) [.ref (ad 30), .int p1, .int p2]) (PoXI D (fun S => (cw cyI ad S)) (CA ad) res) (XX res D (cw cyI ad S) (CA ad)) 2 12 (CA ad) := by
  refine metx_go (cc := cX6_done) (maxL := 3) (ret := (some .int)) (by decide) rfl (Nat.le_of_ble_eq_true rfl) ?_
  intro p e s m args below meth c ls hx hb hr hml hts hown hlk hexc hP hK hN hZ hl
  have hown : s.vm.findClass RX6 = some m.cls := hown
  have hS : va_S (CA ad) s.heap s.heap [] := va_S.rf
  have hl : lv_has ls 3 [(0, .ref (ad 30)), (1, .int p1), (2, .int p2)] := hl
  have hin2 : ∀ w ∈ wsX20, w ∈ wsX6_done := by decide +kernel
  have hin6 : ∀ w ∈ wsX60, w ∈ wsX6_done := by decide +kernel
  have hfl43 := hts (.fieldLink RX6 43 "Makewheel" "builder" "LMakewheel$Looker;") (by decide +kernel)
  unfold m_X6_done at hf
  refine lv_iload_n hx hb dX6_done_0 rfl (lv_at hl 1 rfl) ?_
  refine lv_iload_n hx hb dX6_done_1 rfl (lv_at hl 2 rfl) ?_
  rcases zx_k hf with ⟨e2, hc2, hR2⟩ | ⟨S1, hc2, hf⟩
  · exact xcal_t (rnxS (As := [.int p1, .int p2]) (rest := []) ⟨hx, hb, hml, hown, hts⟩ (c_X6_refuseOtherNodes hfl hAd hc2) (va_cwS 2 hts gX6_done_X6_refuseOtherNodes rfl rfl rfl cdS_X6_refuseOtherNodes ⟨Nat.le_of_ble_eq_true rfl, Nat.le_of_ble_eq_true rfl⟩) hP hK hN hZ (fun _ h => h) hS rfl hl.1 rfl (Nat.le_of_ble_eq_true rfl) dX6_done_2 ⟨Nat.le_of_ble_eq_true rfl, Nat.le_of_ble_eq_true rfl⟩) hS rfl hR2 hlk hexc (Nat.le_of_ble_eq_true rfl) (Nat.le_of_ble_eq_true rfl)
  have eS1 := ro_X6_refuseOtherNodes hc2
  subst eS1
  refine xcal_k (rnxS (As := [.int p1, .int p2]) (rest := []) ⟨hx, hb, hml, hown, hts⟩ (c_X6_refuseOtherNodes hfl hAd hc2) (va_cwS 2 hts gX6_done_X6_refuseOtherNodes rfl rfl rfl cdS_X6_refuseOtherNodes ⟨Nat.le_of_ble_eq_true rfl, Nat.le_of_ble_eq_true rfl⟩) hP hK hN hZ (fun _ h => h) hS rfl hl.1 rfl (Nat.le_of_ble_eq_true rfl) dX6_done_2 ⟨Nat.le_of_ble_eq_true rfl, Nat.le_of_ble_eq_true rfl⟩) hS rfl (fun H locs hP hS => ?_)
  refine lv_aload_n hx hb dX6_done_5 rfl (lv_at hl 0 rfl) ?_
  refine va_get (D := D) (ci := 6) (v := .ref (ad (26 + 0))) (C := RX6) (T := TX6) (N := 9) hx hb hts hin6 hown hK hP 30 (cw_o30 (S := S)) rfl 5 (by decide) hfl43 (fun _ h9 => h9) rfl dX6_done_6 ?_
  refine va_getN (D := D) (ci := 2) (v := .ref (ad (2 * (8 + 2 * 0)))) (C := RX2) (T := TX2) (N := 10) hx hb hts hin2 hown hK hP (26 + 0) (cw_lo (S := S) (b := 0) (by decide)) rfl 6 (by decide) (va_Nw.use rfl hN.n6_159) (fun _ h9 => h9) rfl dX6_done_9 ?_
  refine lv_iload_n hx hb dX6_done_12 rfl (lv_at hl 1 rfl) ?_
  refine lv_iload_n hx hb dX6_done_13 rfl (lv_at hl 2 rfl) ?_
  obtain ⟨x2, hc14, hf⟩ := zo_k hf
  refine cal_i (rnS (As := [.int p1, .int p2]) (rest := [.ref (ad (2 * (8 + 2 * 0)))]) ⟨hx, hb, hml, hown, hts⟩ (c_X6_nodeOf hAd  hc14) (va_cwS 2 hts gX6_done_X6_nodeOf rfl rfl rfl cdS_X6_nodeOf ⟨Nat.le_of_ble_eq_true rfl, Nat.le_of_ble_eq_true rfl⟩) hP hK hN rfl hl.1 rfl (Nat.le_of_ble_eq_true rfl) dX6_done_14 ⟨Nat.le_of_ble_eq_true rfl, Nat.le_of_ble_eq_true rfl⟩) hS (fun H locs hP hS => ?_)
  refine lv_iconst (v := (nI 0)) hx hb dX6_done_17 (by decide) ?_
  obtain ⟨x3, hc18, hf⟩ := zo_k hf
  refine cal_i (rnV (As := [.int x2, .int (nI 0)]) (rest := []) ⟨hx, hb, hml, hown, hts⟩ (c_X4_get hAd (by omega) hc18) (cwV 2 hts gX6_done_X4_get rfl rfl rfl cdV_X4_get ⟨Nat.le_of_ble_eq_true rfl, Nat.le_of_ble_eq_true rfl⟩) hP hK hN (cw_ro (S := S) (k := (8 + 2 * 0)) (by omega)) rfl rfl hl.1 rfl (Nat.le_of_ble_eq_true rfl) dX6_done_18 ⟨Nat.le_of_ble_eq_true rfl, Nat.le_of_ble_eq_true rfl⟩) hS (fun H locs hP hS => ?_)
  have hres := (Option.some.inj hf).symm
  exact finx_i (wf := fun S => (cw cyI ad S)) hx hb hr hlk hS hP hres dX6_done_21 (Nat.le_of_ble_eq_true rfl) (Nat.le_of_ble_eq_true rfl)
set_option maxHeartbeats 4000000 in
set_option maxRecDepth 100000 in
theorem c_X6_why {l : Launch} {D : va_G} {cyI cyJ cyZ : ClassId} {ad : Nat → Nat}  (hfl : l.stackTraces = false) (hAd : AdOK 31 ad)  {S : St} {p1 : Int32} {p2 : Int32} {res : Sum Nat (Int32 × St)} (hf : m_X6_why S p1 p2 = some res) : vx_Met l yX6_why wsX6_why rl_X6_why (PreX D [(cyI, .int), (cyJ, .long), (cyZ, .boolean)] (cw cyI ad S) (CA ad) [.ref (ad 30), .int p1, .int p2]) (PoXI D (fun S => (cw cyI ad S)) (CA ad) res) (XX res D (cw cyI ad S) (CA ad)) 2 12 (CA ad) := by
  refine metx_go (cc := cX6_why) (maxL := 3) (ret := (some .int)) (by decide) rfl (Nat.le_of_ble_eq_true rfl) ?_
  intro p e s m args below meth c ls hx hb hr hml hts hown hlk hexc hP hK hN hZ hl
  have hown : s.vm.findClass RX6 = some m.cls := hown
  have hS : va_S (CA ad) s.heap s.heap [] := va_S.rf
  have hl : lv_has ls 3 [(0, .ref (ad 30)), (1, .int p1), (2, .int p2)] := hl
  have hin2 : ∀ w ∈ wsX20, w ∈ wsX6_why := by decide +kernel
  have hin6 : ∀ w ∈ wsX60, w ∈ wsX6_why := by decide +kernel
  have hfl43 := hts (.fieldLink RX6 43 "Makewheel" "builder" "LMakewheel$Looker;") (by decide +kernel)
  unfold m_X6_why at hf
  refine lv_iload_n hx hb dX6_why_0 rfl (lv_at hl 1 rfl) ?_
  refine lv_iload_n hx hb dX6_why_1 rfl (lv_at hl 2 rfl) ?_
  rcases zx_k hf with ⟨e2, hc2, hR2⟩ | ⟨S1, hc2, hf⟩
  · exact xcal_t (rnxS (As := [.int p1, .int p2]) (rest := []) ⟨hx, hb, hml, hown, hts⟩ (c_X6_refuseOtherNodes hfl hAd hc2) (va_cwS 2 hts gX6_why_X6_refuseOtherNodes rfl rfl rfl cdS_X6_refuseOtherNodes ⟨Nat.le_of_ble_eq_true rfl, Nat.le_of_ble_eq_true rfl⟩) hP hK hN hZ (fun _ h => h) hS rfl hl.1 rfl (Nat.le_of_ble_eq_true rfl) dX6_why_2 ⟨Nat.le_of_ble_eq_true rfl, Nat.le_of_ble_eq_true rfl⟩) hS rfl hR2 hlk hexc (Nat.le_of_ble_eq_true rfl) (Nat.le_of_ble_eq_true rfl)
  have eS1 := ro_X6_refuseOtherNodes hc2
  subst eS1
  refine xcal_k (rnxS (As := [.int p1, .int p2]) (rest := []) ⟨hx, hb, hml, hown, hts⟩ (c_X6_refuseOtherNodes hfl hAd hc2) (va_cwS 2 hts gX6_why_X6_refuseOtherNodes rfl rfl rfl cdS_X6_refuseOtherNodes ⟨Nat.le_of_ble_eq_true rfl, Nat.le_of_ble_eq_true rfl⟩) hP hK hN hZ (fun _ h => h) hS rfl hl.1 rfl (Nat.le_of_ble_eq_true rfl) dX6_why_2 ⟨Nat.le_of_ble_eq_true rfl, Nat.le_of_ble_eq_true rfl⟩) hS rfl (fun H locs hP hS => ?_)
  refine lv_aload_n hx hb dX6_why_5 rfl (lv_at hl 0 rfl) ?_
  refine va_get (D := D) (ci := 6) (v := .ref (ad (26 + 0))) (C := RX6) (T := TX6) (N := 9) hx hb hts hin6 hown hK hP 30 (cw_o30 (S := S)) rfl 5 (by decide) hfl43 (fun _ h9 => h9) rfl dX6_why_6 ?_
  refine va_getN (D := D) (ci := 2) (v := .ref (ad (2 * (8 + 2 * 0)))) (C := RX2) (T := TX2) (N := 10) hx hb hts hin2 hown hK hP (26 + 0) (cw_lo (S := S) (b := 0) (by decide)) rfl 6 (by decide) (va_Nw.use rfl hN.n6_159) (fun _ h9 => h9) rfl dX6_why_9 ?_
  refine lv_iload_n hx hb dX6_why_12 rfl (lv_at hl 1 rfl) ?_
  refine lv_iload_n hx hb dX6_why_13 rfl (lv_at hl 2 rfl) ?_
  obtain ⟨x2, hc14, hf⟩ := zo_k hf
  refine cal_i (rnS (As := [.int p1, .int p2]) (rest := [.ref (ad (2 * (8 + 2 * 0)))]) ⟨hx, hb, hml, hown, hts⟩ (c_X6_nodeOf hAd  hc14) (va_cwS 2 hts gX6_why_X6_nodeOf rfl rfl rfl cdS_X6_nodeOf ⟨Nat.le_of_ble_eq_true rfl, Nat.le_of_ble_eq_true rfl⟩) hP hK hN rfl hl.1 rfl (Nat.le_of_ble_eq_true rfl) dX6_why_14 ⟨Nat.le_of_ble_eq_true rfl, Nat.le_of_ble_eq_true rfl⟩) hS (fun H locs hP hS => ?_)
  refine lv_iconst (v := (nI 2)) hx hb dX6_why_17 (by decide) ?_
  obtain ⟨x3, hc18, hf⟩ := zo_k hf
  refine cal_i (rnV (As := [.int x2, .int (nI 2)]) (rest := []) ⟨hx, hb, hml, hown, hts⟩ (c_X4_get hAd (by omega) hc18) (cwV 2 hts gX6_why_X4_get rfl rfl rfl cdV_X4_get ⟨Nat.le_of_ble_eq_true rfl, Nat.le_of_ble_eq_true rfl⟩) hP hK hN (cw_ro (S := S) (k := (8 + 2 * 0)) (by omega)) rfl rfl hl.1 rfl (Nat.le_of_ble_eq_true rfl) dX6_why_18 ⟨Nat.le_of_ble_eq_true rfl, Nat.le_of_ble_eq_true rfl⟩) hS (fun H locs hP hS => ?_)
  have hres := (Option.some.inj hf).symm
  exact finx_i (wf := fun S => (cw cyI ad S)) hx hb hr hlk hS hP hres dX6_why_21 (Nat.le_of_ble_eq_true rfl) (Nat.le_of_ble_eq_true rfl)
set_option maxHeartbeats 4000000 in
set_option maxRecDepth 100000 in
theorem c_X6_counts {l : Launch} {D : va_G} {cyI cyJ cyZ : ClassId} {ad : Nat → Nat}  (hfl : l.stackTraces = false) (hAd : AdOK 31 ad)  {S : St} {p1 : Int32} {res : Sum Nat (Int32 × St)} (hf : m_X6_counts S p1 = some res) : vx_Met l yX6_counts wsX6_counts rl_X6_counts (PreX D [(cyI, .int), (cyJ, .long), (cyZ, .boolean)] (cw cyI ad S) (CA ad) [.ref (ad 30), .int p1]) (PoXI D (fun S => (cw cyI ad S)) (CA ad) res) (XX res D (cw cyI ad S) (CA ad)) 1 6 (CA ad) := by
  refine metx_go (cc := cX6_counts) (maxL := 2) (ret := (some .int)) (by decide) rfl (Nat.le_of_ble_eq_true rfl) ?_
  intro p e s m args below meth c ls hx hb hr hml hts hown hlk hexc hP hK hN hZ hl
  have hown : s.vm.findClass RX6 = some m.cls := hown
  have hS : va_S (CA ad) s.heap s.heap [] := va_S.rf
  have hl : lv_has ls 2 [(0, .ref (ad 30)), (1, .int p1)] := hl
  have hin2 : ∀ w ∈ wsX20, w ∈ wsX6_counts := by decide +kernel
  have hin6 : ∀ w ∈ wsX60, w ∈ wsX6_counts := by decide +kernel
  have hfl43 := hts (.fieldLink RX6 43 "Makewheel" "builder" "LMakewheel$Looker;") (by decide +kernel)
  have hat2 := hat_2 (args := args) hZ.2.2.1 (fun w hw => hts w (List.mem_cons_of_mem _ (List.mem_append_right _ hw)))
  unfold m_X6_counts at hf
  refine lv_iload_n hx hb dX6_counts_0 rfl (lv_at hl 1 rfl) ?_
  refine lv_if_lt (tgt := 9) hx hb dX6_counts_1 (by decide) (fun hc => ?_) (fun hc => ?_)
  · have hf := ifp hf hc
    have hres := (Option.some.inj hf).symm
    exact thr_leaf (e0 := 2) hx hb hfl hown hfit_2 (hts (.classLink RX6 79 "java/lang/IllegalArgumentException") (by decide +kernel)) (hts (.initialized "java/lang/IllegalArgumentException") (by decide +kernel)) hZ.2.2.2.s162 hat2 hgd_2 hZ hS (hl.1.trans hml.symm) dX6_counts_9 dX6_counts_12 dX6_counts_13 dX6_counts_15 dX6_counts_18 hexc (Nat.le_of_ble_eq_true rfl) (Nat.le_of_ble_eq_true rfl) (Nat.le_of_ble_eq_true rfl) (Nat.le_of_ble_eq_true rfl) hlk hP hres rfl (Nat.le_of_ble_eq_true rfl) (Nat.le_of_ble_eq_true rfl)
  · have hf := ifn hf hc
    refine lv_iload_n hx hb dX6_counts_4 rfl (lv_at hl 1 rfl) ?_
    refine lv_iconst (v := (nI 4)) hx hb dX6_counts_5 (by decide) ?_
    refine lv_icmp_lt (tgt := 19) hx hb dX6_counts_6 (by decide) (fun hc => ?_) (fun hc => ?_)
    · have hf := ifp hf hc
      refine lv_iload_n hx hb dX6_counts_19 rfl (lv_at hl 1 rfl) ?_
      refine lv_if_ne (tgt := 31) hx hb dX6_counts_20 (by decide) (fun hc => ?_) (fun hc => ?_)
      · have hf := ifn hf hc
        refine lv_iload_n hx hb dX6_counts_31 rfl (lv_at hl 1 rfl) ?_
        refine lv_iconst (v := (nI 1)) hx hb dX6_counts_32 (by decide) ?_
        refine lv_icmp_ne (tgt := 45) hx hb dX6_counts_33 (by decide) (fun hc => ?_) (fun hc => ?_)
        · have hf := ifn hf hc
          refine lv_iload_n hx hb dX6_counts_45 rfl (lv_at hl 1 rfl) ?_
          refine lv_iconst (v := (nI 2)) hx hb dX6_counts_46 (by decide) ?_
          refine lv_icmp_ne (tgt := 61) hx hb dX6_counts_47 (by decide) (fun hc => ?_) (fun hc => ?_)
          · have hf := ifn hf hc
            refine lv_bipush (v := (nI 32)) hx hb dX6_counts_61 (by decide) ?_
            refine lv_aload_n hx hb dX6_counts_63 rfl (lv_at hl 0 rfl) ?_
            refine va_get (D := D) (ci := 6) (v := .ref (ad (26 + 0))) (C := RX6) (T := TX6) (N := 9) hx hb hts hin6 hown hK hP 30 (cw_o30 (S := S)) rfl 5 (by decide) hfl43 (fun _ h9 => h9) rfl dX6_counts_64 ?_
            refine lv_iconst (v := (nI 0)) hx hb dX6_counts_67 (by decide) ?_
            obtain ⟨x1, hc68, hf⟩ := zo_k hf
            refine cal_i (rnV (As := [.int (nI 0)]) (rest := [.int (nI 32)]) ⟨hx, hb, hml, hown, hts⟩ (c_X2_howMany hAd (by decide) hc68) (cwV 1 hts gX6_counts_X2_howMany rfl rfl rfl cdV_X2_howMany ⟨Nat.le_of_ble_eq_true rfl, Nat.le_of_ble_eq_true rfl⟩) hP hK hN (cw_lo (S := S) (b := 0) (by decide)) rfl rfl hl.1 rfl (Nat.le_of_ble_eq_true rfl) dX6_counts_68 ⟨Nat.le_of_ble_eq_true rfl, Nat.le_of_ble_eq_true rfl⟩) hS (fun H locs hP hS => ?_)
            refine lv_isub hx hb dX6_counts_71 ?_
            have hres := (Option.some.inj hf).symm
            exact finx_i (wf := fun S => (cw cyI ad S)) hx hb hr hlk hS hP hres dX6_counts_72 (Nat.le_of_ble_eq_true rfl) (Nat.le_of_ble_eq_true rfl)
          · have hf := ifp hf hc
            refine lv_aload_n hx hb dX6_counts_50 rfl (lv_at hl 0 rfl) ?_
            refine va_get (D := D) (ci := 6) (v := .ref (ad (26 + 0))) (C := RX6) (T := TX6) (N := 9) hx hb hts hin6 hown hK hP 30 (cw_o30 (S := S)) rfl 5 (by decide) hfl43 (fun _ h9 => h9) rfl dX6_counts_51 ?_
            refine lv_iconst (v := (nI 1)) hx hb dX6_counts_54 (by decide) ?_
            obtain ⟨x2, hc55, hf⟩ := zo_k hf
            refine cal_i (rnV (As := [.int (nI 1)]) (rest := []) ⟨hx, hb, hml, hown, hts⟩ (c_X2_howMany hAd (by decide) hc55) (cwV 1 hts gX6_counts_X2_howMany rfl rfl rfl cdV_X2_howMany ⟨Nat.le_of_ble_eq_true rfl, Nat.le_of_ble_eq_true rfl⟩) hP hK hN (cw_lo (S := S) (b := 0) (by decide)) rfl rfl hl.1 rfl (Nat.le_of_ble_eq_true rfl) dX6_counts_55 ⟨Nat.le_of_ble_eq_true rfl, Nat.le_of_ble_eq_true rfl⟩) hS (fun H locs hP hS => ?_)
            refine lv_goto (tgt := 72) hx hb dX6_counts_58 (by decide) ?_
            have hres := (Option.some.inj hf).symm
            exact finx_i (wf := fun S => (cw cyI ad S)) hx hb hr hlk hS hP hres dX6_counts_72 (Nat.le_of_ble_eq_true rfl) (Nat.le_of_ble_eq_true rfl)
        · have hf := ifp hf hc
          refine lv_aload_n hx hb dX6_counts_36 rfl (lv_at hl 0 rfl) ?_
          refine va_get (D := D) (ci := 6) (v := .ref (ad (26 + 0))) (C := RX6) (T := TX6) (N := 9) hx hb hts hin6 hown hK hP 30 (cw_o30 (S := S)) rfl 5 (by decide) hfl43 (fun _ h9 => h9) rfl dX6_counts_37 ?_
          refine lv_iconst (v := (nI 2)) hx hb dX6_counts_40 (by decide) ?_
          obtain ⟨x3, hc41, hf⟩ := zo_k hf
          refine cal_i (rnV (As := [.int (nI 2)]) (rest := []) ⟨hx, hb, hml, hown, hts⟩ (c_X2_howMany hAd (by decide) hc41) (cwV 1 hts gX6_counts_X2_howMany rfl rfl rfl cdV_X2_howMany ⟨Nat.le_of_ble_eq_true rfl, Nat.le_of_ble_eq_true rfl⟩) hP hK hN (cw_lo (S := S) (b := 0) (by decide)) rfl rfl hl.1 rfl (Nat.le_of_ble_eq_true rfl) dX6_counts_41 ⟨Nat.le_of_ble_eq_true rfl, Nat.le_of_ble_eq_true rfl⟩) hS (fun H locs hP hS => ?_)
          have hres := (Option.some.inj hf).symm
          exact finx_i (wf := fun S => (cw cyI ad S)) hx hb hr hlk hS hP hres dX6_counts_44 (Nat.le_of_ble_eq_true rfl) (Nat.le_of_ble_eq_true rfl)
      · have hf := ifp hf hc
        refine lv_aload_n hx hb dX6_counts_23 rfl (lv_at hl 0 rfl) ?_
        refine va_get (D := D) (ci := 6) (v := .ref (ad (26 + 0))) (C := RX6) (T := TX6) (N := 9) hx hb hts hin6 hown hK hP 30 (cw_o30 (S := S)) rfl 5 (by decide) hfl43 (fun _ h9 => h9) rfl dX6_counts_24 ?_
        refine va_getN (D := D) (ci := 2) (v := .int (S.1 (16 + 2 * 0) 0)) (C := RX2) (T := TX2) (N := 10) hx hb hts hin2 hown hK hP (26 + 0) (cw_lo (S := S) (b := 0) (by decide)) rfl 8 (by decide) (va_Nw.use rfl hN.n6_164) (fun _ h9 => h9) rfl dX6_counts_27 ?_
        have hres := (Option.some.inj hf).symm
        exact finx_i (wf := fun S => (cw cyI ad S)) hx hb hr hlk hS hP hres dX6_counts_30 (Nat.le_of_ble_eq_true rfl) (Nat.le_of_ble_eq_true rfl)
    · have hf := ifn hf hc
      have hres := (Option.some.inj hf).symm
      exact thr_leaf (e0 := 2) hx hb hfl hown hfit_2 (hts (.classLink RX6 79 "java/lang/IllegalArgumentException") (by decide +kernel)) (hts (.initialized "java/lang/IllegalArgumentException") (by decide +kernel)) hZ.2.2.2.s162 hat2 hgd_2 hZ hS (hl.1.trans hml.symm) dX6_counts_9 dX6_counts_12 dX6_counts_13 dX6_counts_15 dX6_counts_18 hexc (Nat.le_of_ble_eq_true rfl) (Nat.le_of_ble_eq_true rfl) (Nat.le_of_ble_eq_true rfl) (Nat.le_of_ble_eq_true rfl) hlk hP hres rfl (Nat.le_of_ble_eq_true rfl) (Nat.le_of_ble_eq_true rfl)
set_option maxHeartbeats 4000000 in
set_option maxRecDepth 100000 in
theorem c_X6_needs {l : Launch} {D : va_G} {cyI cyJ cyZ : ClassId} {ad : Nat → Nat}  (hfl : l.stackTraces = false) (hAd : AdOK 31 ad)  {S : St} {p1 : Int32} {res : Sum Nat (Int32 × St)} (hf : m_X6_needs S p1 = some res) : vx_Met l yX6_needs wsX6_needs rl_X6_needs (PreX D [(cyI, .int), (cyJ, .long), (cyZ, .boolean)] (cw cyI ad S) (CA ad) [.ref (ad 30), .int p1]) (PoXI D (fun S => (cw cyI ad S)) (CA ad) res) (XX res D (cw cyI ad S) (CA ad)) 1 6 (CA ad) := by
  refine metx_go (cc := cX6_needs) (maxL := 2) (ret := (some .int)) (by decide) rfl (Nat.le_of_ble_eq_true rfl) ?_
  intro p e s m args below meth c ls hx hb hr hml hts hown hlk hexc hP hK hN hZ hl
  have hown : s.vm.findClass RX6 = some m.cls := hown
  have hS : va_S (CA ad) s.heap s.heap [] := va_S.rf
  have hl : lv_has ls 2 [(0, .ref (ad 30)), (1, .int p1)] := hl
  have hin6 : ∀ w ∈ wsX60, w ∈ wsX6_needs := by decide +kernel
  have hfl55 := hts (.fieldLink RX6 55 "Makewheel" "graph" "LMakewheel$Graph;") (by decide +kernel)
  unfold m_X6_needs at hf
  refine lv_iload_n hx hb dX6_needs_0 rfl (lv_at hl 1 rfl) ?_
  rcases zx_k hf with ⟨e1, hc1, hR1⟩ | ⟨S1, hc1, hf⟩
  · exact xcal_t (rnxS (As := [.int p1]) (rest := []) ⟨hx, hb, hml, hown, hts⟩ (c_X6_refuseOtherTargets hfl hAd hc1) (va_cwS 1 hts gX6_needs_X6_refuseOtherTargets rfl rfl rfl cdS_X6_refuseOtherTargets ⟨Nat.le_of_ble_eq_true rfl, Nat.le_of_ble_eq_true rfl⟩) hP hK hN hZ (fun _ h => h) hS rfl hl.1 rfl (Nat.le_of_ble_eq_true rfl) dX6_needs_1 ⟨Nat.le_of_ble_eq_true rfl, Nat.le_of_ble_eq_true rfl⟩) hS rfl hR1 hlk hexc (Nat.le_of_ble_eq_true rfl) (Nat.le_of_ble_eq_true rfl)
  have eS1 := ro_X6_refuseOtherTargets hc1
  subst eS1
  refine xcal_k (rnxS (As := [.int p1]) (rest := []) ⟨hx, hb, hml, hown, hts⟩ (c_X6_refuseOtherTargets hfl hAd hc1) (va_cwS 1 hts gX6_needs_X6_refuseOtherTargets rfl rfl rfl cdS_X6_refuseOtherTargets ⟨Nat.le_of_ble_eq_true rfl, Nat.le_of_ble_eq_true rfl⟩) hP hK hN hZ (fun _ h => h) hS rfl hl.1 rfl (Nat.le_of_ble_eq_true rfl) dX6_needs_1 ⟨Nat.le_of_ble_eq_true rfl, Nat.le_of_ble_eq_true rfl⟩) hS rfl (fun H locs hP hS => ?_)
  refine lv_aload_n hx hb dX6_needs_4 rfl (lv_at hl 0 rfl) ?_
  refine va_get (D := D) (ci := 6) (v := .ref (ad 28)) (C := RX6) (T := TX6) (N := 9) hx hb hts hin6 hown hK hP 30 (cw_o30 (S := S)) rfl 7 (by decide) hfl55 (fun _ h9 => h9) rfl dX6_needs_5 ?_
  obtain ⟨S2, hc8, hf⟩ := zo_k hf
  refine cal_v (rnV (As := []) (rest := []) ⟨hx, hb, hml, hown, hts⟩ (c_X1_draw hAd  hc8) (cwV 0 hts gX6_needs_X1_draw rfl rfl rfl cdV_X1_draw ⟨Nat.le_of_ble_eq_true rfl, Nat.le_of_ble_eq_true rfl⟩) hP hK hN (cw_o28 (S := S)) rfl rfl hl.1 rfl (Nat.le_of_ble_eq_true rfl) dX6_needs_8 ⟨Nat.le_of_ble_eq_true rfl, Nat.le_of_ble_eq_true rfl⟩) hS (fun H locs hP hS => ?_)
  refine lv_aload_n hx hb dX6_needs_11 rfl (lv_at hl 0 rfl) ?_
  refine va_get (D := D) (ci := 6) (v := .ref (ad 28)) (C := RX6) (T := TX6) (N := 9) hx hb hts hin6 hown hK hP 30 (cw_o30 (S := S2)) rfl 7 (by decide) hfl55 (fun _ h9 => h9) rfl dX6_needs_12 ?_
  refine lv_iload_n hx hb dX6_needs_15 rfl (lv_at hl 1 rfl) ?_
  obtain ⟨x3, hc16, hf⟩ := zo_k hf
  refine cal_i (rnV (As := [.int p1]) (rest := []) ⟨hx, hb, hml, hown, hts⟩ (c_X1_allFrom hAd  hc16) (cwV 1 hts gX6_needs_X1_allFrom rfl rfl rfl cdV_X1_allFrom ⟨Nat.le_of_ble_eq_true rfl, Nat.le_of_ble_eq_true rfl⟩) hP hK hN (cw_o28 (S := S2)) rfl rfl hl.1 rfl (Nat.le_of_ble_eq_true rfl) dX6_needs_16 ⟨Nat.le_of_ble_eq_true rfl, Nat.le_of_ble_eq_true rfl⟩) hS (fun H locs hP hS => ?_)
  have hres := (Option.some.inj hf).symm
  exact finx_i (wf := fun S => (cw cyI ad S)) hx hb hr hlk hS hP hres dX6_needs_19 (Nat.le_of_ble_eq_true rfl) (Nat.le_of_ble_eq_true rfl)
set_option maxHeartbeats 4000000 in
set_option maxRecDepth 100000 in
theorem c_X6_users {l : Launch} {D : va_G} {cyI cyJ cyZ : ClassId} {ad : Nat → Nat}  (hfl : l.stackTraces = false) (hAd : AdOK 31 ad)  {S : St} {p1 : Int32} {res : Sum Nat (Int32 × St)} (hf : m_X6_users S p1 = some res) : vx_Met l yX6_users wsX6_users rl_X6_users (PreX D [(cyI, .int), (cyJ, .long), (cyZ, .boolean)] (cw cyI ad S) (CA ad) [.ref (ad 30), .int p1]) (PoXI D (fun S => (cw cyI ad S)) (CA ad) res) (XX res D (cw cyI ad S) (CA ad)) 1 6 (CA ad) := by
  refine metx_go (cc := cX6_users) (maxL := 4) (ret := (some .int)) (by decide) rfl (Nat.le_of_ble_eq_true rfl) ?_
  intro p e s m args below meth c ls hx hb hr hml hts hown hlk hexc hP hK hN hZ hl
  have hown : s.vm.findClass RX6 = some m.cls := hown
  have hS : va_S (CA ad) s.heap s.heap [] := va_S.rf
  have hl : lv_has ls 4 [(0, .ref (ad 30)), (1, .int p1)] := hl
  have hin6 : ∀ w ∈ wsX60, w ∈ wsX6_users := by decide +kernel
  have hfl55 := hts (.fieldLink RX6 55 "Makewheel" "graph" "LMakewheel$Graph;") (by decide +kernel)
  have hat1 := hat_1 (args := args) hZ.2.2.1 (fun w hw => hts w (List.mem_cons_of_mem _ (List.mem_append_right _ hw)))
  unfold m_X6_users at hf
  refine lv_iload_n hx hb dX6_users_0 rfl (lv_at hl 1 rfl) ?_
  refine lv_bipush (v := (nI 100)) hx hb dX6_users_1 (by decide) ?_
  refine lv_icmp_lt (tgt := 16) hx hb dX6_users_3 (by decide) (fun hc => ?_) (fun hc => ?_)
  · have hf := ifp hf hc
    refine lv_iconst (v := (nI 0)) hx hb dX6_users_16 (by decide) ?_
    refine lv_istore_n (lv' := [(2, .int (nI 0)), (0, .ref (ad 30)), (1, .int p1)]) hx hb dX6_users_17 rfl hl (by decide) rfl (fun ls hl => ?_)
    refine lv_iload_n hx hb dX6_users_18 rfl (lv_at hl 0 rfl) ?_
    refine lv_if_ne (tgt := 42) hx hb dX6_users_19 (by decide) (fun hc => absurd (by decide) hc) (fun _ => ?_)
    refine lv_iload_n hx hb dX6_users_22 rfl (lv_at hl 2 rfl) ?_
    refine lv_if_lt (tgt := 32) hx hb dX6_users_23 (by decide) (fun hc => ?_) (fun hc => ?_)
    · have hf := ifp hf hc
      have hres := (Option.some.inj hf).symm
      exact thr_leaf (e0 := 1) hx hb hfl hown hfit_1 (hts (.classLink RX6 68 "java/lang/IndexOutOfBoundsException") (by decide +kernel)) (hts (.initialized "java/lang/IndexOutOfBoundsException") (by decide +kernel)) hZ.2.2.2.s186 hat1 hgd_1 hZ hS (hl.1.trans hml.symm) dX6_users_32 dX6_users_35 dX6_users_36 dX6_users_38 dX6_users_41 hexc (Nat.le_of_ble_eq_true rfl) (Nat.le_of_ble_eq_true rfl) (Nat.le_of_ble_eq_true rfl) (Nat.le_of_ble_eq_true rfl) hlk hP hres rfl (Nat.le_of_ble_eq_true rfl) (Nat.le_of_ble_eq_true rfl)
    · have hf := ifn hf hc
      refine lv_iload_n hx hb dX6_users_26 rfl (lv_at hl 2 rfl) ?_
      refine lv_bipush (v := (nI 16)) hx hb dX6_users_27 (by decide) ?_
      refine lv_icmp_lt (tgt := 42) hx hb dX6_users_29 (by decide) (fun hc => ?_) (fun hc => ?_)
      · have hf := ifp hf hc
        refine lv_aload_n hx hb dX6_users_42 rfl (lv_at hl 1 rfl) ?_
        refine va_get (D := D) (ci := 6) (v := .ref (ad 28)) (C := RX6) (T := TX6) (N := 9) hx hb hts hin6 hown hK hP 30 (cw_o30 (S := S)) rfl 7 (by decide) hfl55 (fun _ h9 => h9) rfl dX6_users_43 ?_
        obtain ⟨S1, hc46, hf⟩ := zo_k hf
        refine cal_v (rnV (As := []) (rest := []) ⟨hx, hb, hml, hown, hts⟩ (c_X1_draw hAd  hc46) (cwV 0 hts gX6_users_X1_draw rfl rfl rfl cdV_X1_draw ⟨Nat.le_of_ble_eq_true rfl, Nat.le_of_ble_eq_true rfl⟩) hP hK hN (cw_o28 (S := S)) rfl rfl hl.1 rfl (Nat.le_of_ble_eq_true rfl) dX6_users_46 ⟨Nat.le_of_ble_eq_true rfl, Nat.le_of_ble_eq_true rfl⟩) hS (fun H locs hP hS => ?_)
        refine lv_iload_n hx hb dX6_users_49 rfl (lv_at hl 0 rfl) ?_
        refine lv_if_ne (tgt := 64) hx hb dX6_users_50 (by decide) (fun hc => absurd (by decide) hc) (fun _ => ?_)
        refine lv_aload_n hx hb dX6_users_53 rfl (lv_at hl 1 rfl) ?_
        refine va_get (D := D) (ci := 6) (v := .ref (ad 28)) (C := RX6) (T := TX6) (N := 9) hx hb hts hin6 hown hK hP 30 (cw_o30 (S := S1)) rfl 7 (by decide) hfl55 (fun _ h9 => h9) rfl dX6_users_54 ?_
        refine lv_iconst (v := (nI 1)) hx hb dX6_users_57 (by decide) ?_
        refine lv_iload_n hx hb dX6_users_58 rfl (lv_at hl 2 rfl) ?_
        refine lv_ishl hx hb dX6_users_59 ?_
        obtain ⟨x2, hc60, hf⟩ := zo_k hf
        refine cal_i (rnV (As := [.int ((nI 1) <<< (p1 &&& 31))]) (rest := []) ⟨hx, hb, hml, hown, hts⟩ (c_X1_thatNeed hAd  hc60) (cwV 1 hts gX6_users_X1_thatNeed rfl rfl rfl cdV_X1_thatNeed ⟨Nat.le_of_ble_eq_true rfl, Nat.le_of_ble_eq_true rfl⟩) hP hK hN (cw_o28 (S := S1)) rfl rfl hl.1 rfl (Nat.le_of_ble_eq_true rfl) dX6_users_60 ⟨Nat.le_of_ble_eq_true rfl, Nat.le_of_ble_eq_true rfl⟩) hS (fun H locs hP hS => ?_)
        have hres := (Option.some.inj hf).symm
        exact finx_i (wf := fun S => (cw cyI ad S)) hx hb hr hlk hS hP hres dX6_users_63 (Nat.le_of_ble_eq_true rfl) (Nat.le_of_ble_eq_true rfl)
      · have hf := ifn hf hc
        have hres := (Option.some.inj hf).symm
        exact thr_leaf (e0 := 1) hx hb hfl hown hfit_1 (hts (.classLink RX6 68 "java/lang/IndexOutOfBoundsException") (by decide +kernel)) (hts (.initialized "java/lang/IndexOutOfBoundsException") (by decide +kernel)) hZ.2.2.2.s186 hat1 hgd_1 hZ hS (hl.1.trans hml.symm) dX6_users_32 dX6_users_35 dX6_users_36 dX6_users_38 dX6_users_41 hexc (Nat.le_of_ble_eq_true rfl) (Nat.le_of_ble_eq_true rfl) (Nat.le_of_ble_eq_true rfl) (Nat.le_of_ble_eq_true rfl) hlk hP hres rfl (Nat.le_of_ble_eq_true rfl) (Nat.le_of_ble_eq_true rfl)
  · have hf := ifn hf hc
    refine lv_iload_n hx hb dX6_users_6 rfl (lv_at hl 1 rfl) ?_
    refine lv_bipush (v := (nI 120)) hx hb dX6_users_7 (by decide) ?_
    refine lv_icmp_ge (tgt := 16) hx hb dX6_users_9 (by decide) (fun hc => ?_) (fun hc => ?_)
    · have hf := ifp hf hc
      refine lv_iconst (v := (nI 0)) hx hb dX6_users_16 (by decide) ?_
      refine lv_istore_n (lv' := [(2, .int (nI 0)), (0, .ref (ad 30)), (1, .int p1)]) hx hb dX6_users_17 rfl hl (by decide) rfl (fun ls hl => ?_)
      refine lv_iload_n hx hb dX6_users_18 rfl (lv_at hl 0 rfl) ?_
      refine lv_if_ne (tgt := 42) hx hb dX6_users_19 (by decide) (fun hc => absurd (by decide) hc) (fun _ => ?_)
      refine lv_iload_n hx hb dX6_users_22 rfl (lv_at hl 2 rfl) ?_
      refine lv_if_lt (tgt := 32) hx hb dX6_users_23 (by decide) (fun hc => ?_) (fun hc => ?_)
      · have hf := ifp hf hc
        have hres := (Option.some.inj hf).symm
        exact thr_leaf (e0 := 1) hx hb hfl hown hfit_1 (hts (.classLink RX6 68 "java/lang/IndexOutOfBoundsException") (by decide +kernel)) (hts (.initialized "java/lang/IndexOutOfBoundsException") (by decide +kernel)) hZ.2.2.2.s186 hat1 hgd_1 hZ hS (hl.1.trans hml.symm) dX6_users_32 dX6_users_35 dX6_users_36 dX6_users_38 dX6_users_41 hexc (Nat.le_of_ble_eq_true rfl) (Nat.le_of_ble_eq_true rfl) (Nat.le_of_ble_eq_true rfl) (Nat.le_of_ble_eq_true rfl) hlk hP hres rfl (Nat.le_of_ble_eq_true rfl) (Nat.le_of_ble_eq_true rfl)
      · have hf := ifn hf hc
        refine lv_iload_n hx hb dX6_users_26 rfl (lv_at hl 2 rfl) ?_
        refine lv_bipush (v := (nI 16)) hx hb dX6_users_27 (by decide) ?_
        refine lv_icmp_lt (tgt := 42) hx hb dX6_users_29 (by decide) (fun hc => ?_) (fun hc => ?_)
        · have hf := ifp hf hc
          refine lv_aload_n hx hb dX6_users_42 rfl (lv_at hl 1 rfl) ?_
          refine va_get (D := D) (ci := 6) (v := .ref (ad 28)) (C := RX6) (T := TX6) (N := 9) hx hb hts hin6 hown hK hP 30 (cw_o30 (S := S)) rfl 7 (by decide) hfl55 (fun _ h9 => h9) rfl dX6_users_43 ?_
          obtain ⟨S3, hc46, hf⟩ := zo_k hf
          refine cal_v (rnV (As := []) (rest := []) ⟨hx, hb, hml, hown, hts⟩ (c_X1_draw hAd  hc46) (cwV 0 hts gX6_users_X1_draw rfl rfl rfl cdV_X1_draw ⟨Nat.le_of_ble_eq_true rfl, Nat.le_of_ble_eq_true rfl⟩) hP hK hN (cw_o28 (S := S)) rfl rfl hl.1 rfl (Nat.le_of_ble_eq_true rfl) dX6_users_46 ⟨Nat.le_of_ble_eq_true rfl, Nat.le_of_ble_eq_true rfl⟩) hS (fun H locs hP hS => ?_)
          refine lv_iload_n hx hb dX6_users_49 rfl (lv_at hl 0 rfl) ?_
          refine lv_if_ne (tgt := 64) hx hb dX6_users_50 (by decide) (fun hc => absurd (by decide) hc) (fun _ => ?_)
          refine lv_aload_n hx hb dX6_users_53 rfl (lv_at hl 1 rfl) ?_
          refine va_get (D := D) (ci := 6) (v := .ref (ad 28)) (C := RX6) (T := TX6) (N := 9) hx hb hts hin6 hown hK hP 30 (cw_o30 (S := S3)) rfl 7 (by decide) hfl55 (fun _ h9 => h9) rfl dX6_users_54 ?_
          refine lv_iconst (v := (nI 1)) hx hb dX6_users_57 (by decide) ?_
          refine lv_iload_n hx hb dX6_users_58 rfl (lv_at hl 2 rfl) ?_
          refine lv_ishl hx hb dX6_users_59 ?_
          obtain ⟨x4, hc60, hf⟩ := zo_k hf
          refine cal_i (rnV (As := [.int ((nI 1) <<< (p1 &&& 31))]) (rest := []) ⟨hx, hb, hml, hown, hts⟩ (c_X1_thatNeed hAd  hc60) (cwV 1 hts gX6_users_X1_thatNeed rfl rfl rfl cdV_X1_thatNeed ⟨Nat.le_of_ble_eq_true rfl, Nat.le_of_ble_eq_true rfl⟩) hP hK hN (cw_o28 (S := S3)) rfl rfl hl.1 rfl (Nat.le_of_ble_eq_true rfl) dX6_users_60 ⟨Nat.le_of_ble_eq_true rfl, Nat.le_of_ble_eq_true rfl⟩) hS (fun H locs hP hS => ?_)
          have hres := (Option.some.inj hf).symm
          exact finx_i (wf := fun S => (cw cyI ad S)) hx hb hr hlk hS hP hres dX6_users_63 (Nat.le_of_ble_eq_true rfl) (Nat.le_of_ble_eq_true rfl)
        · have hf := ifn hf hc
          have hres := (Option.some.inj hf).symm
          exact thr_leaf (e0 := 1) hx hb hfl hown hfit_1 (hts (.classLink RX6 68 "java/lang/IndexOutOfBoundsException") (by decide +kernel)) (hts (.initialized "java/lang/IndexOutOfBoundsException") (by decide +kernel)) hZ.2.2.2.s186 hat1 hgd_1 hZ hS (hl.1.trans hml.symm) dX6_users_32 dX6_users_35 dX6_users_36 dX6_users_38 dX6_users_41 hexc (Nat.le_of_ble_eq_true rfl) (Nat.le_of_ble_eq_true rfl) (Nat.le_of_ble_eq_true rfl) (Nat.le_of_ble_eq_true rfl) hlk hP hres rfl (Nat.le_of_ble_eq_true rfl) (Nat.le_of_ble_eq_true rfl)
    · have hf := ifn hf hc
      refine lv_iconst (v := (nI 1)) hx hb dX6_users_12 (by decide) ?_
      refine lv_goto (tgt := 17) hx hb dX6_users_13 (by decide) ?_
      refine lv_istore_n (lv' := [(2, .int (nI 1)), (0, .ref (ad 30)), (1, .int p1)]) hx hb dX6_users_17 rfl hl (by decide) rfl (fun ls hl => ?_)
      refine lv_iload_n hx hb dX6_users_18 rfl (lv_at hl 0 rfl) ?_
      refine lv_if_ne (tgt := 42) hx hb dX6_users_19 (by decide) (fun _ => ?_) (fun hc => absurd hc (by decide))
      refine lv_aload_n hx hb dX6_users_42 rfl (lv_at hl 1 rfl) ?_
      refine va_get (D := D) (ci := 6) (v := .ref (ad 28)) (C := RX6) (T := TX6) (N := 9) hx hb hts hin6 hown hK hP 30 (cw_o30 (S := S)) rfl 7 (by decide) hfl55 (fun _ h9 => h9) rfl dX6_users_43 ?_
      obtain ⟨S5, hc46, hf⟩ := zo_k hf
      refine cal_v (rnV (As := []) (rest := []) ⟨hx, hb, hml, hown, hts⟩ (c_X1_draw hAd  hc46) (cwV 0 hts gX6_users_X1_draw rfl rfl rfl cdV_X1_draw ⟨Nat.le_of_ble_eq_true rfl, Nat.le_of_ble_eq_true rfl⟩) hP hK hN (cw_o28 (S := S)) rfl rfl hl.1 rfl (Nat.le_of_ble_eq_true rfl) dX6_users_46 ⟨Nat.le_of_ble_eq_true rfl, Nat.le_of_ble_eq_true rfl⟩) hS (fun H locs hP hS => ?_)
      refine lv_iload_n hx hb dX6_users_49 rfl (lv_at hl 0 rfl) ?_
      refine lv_if_ne (tgt := 64) hx hb dX6_users_50 (by decide) (fun _ => ?_) (fun hc => absurd hc (by decide))
      refine lv_aload_n hx hb dX6_users_64 rfl (lv_at hl 1 rfl) ?_
      refine va_get (D := D) (ci := 6) (v := .ref (ad 28)) (C := RX6) (T := TX6) (N := 9) hx hb hts hin6 hown hK hP 30 (cw_o30 (S := S5)) rfl 7 (by decide) hfl55 (fun _ h9 => h9) rfl dX6_users_65 ?_
      refine lv_iload_n hx hb dX6_users_68 rfl (lv_at hl 2 rfl) ?_
      refine lv_bipush (v := (nI 100)) hx hb dX6_users_69 (by decide) ?_
      refine lv_isub hx hb dX6_users_71 ?_
      obtain ⟨x6, hc72, hf⟩ := zo_k hf
      refine cal_i (rnV (As := [.int (p1 - (nI 100))]) (rest := []) ⟨hx, hb, hml, hown, hts⟩ (c_X1_withFile hAd  hc72) (cwV 1 hts gX6_users_X1_withFile rfl rfl rfl cdV_X1_withFile ⟨Nat.le_of_ble_eq_true rfl, Nat.le_of_ble_eq_true rfl⟩) hP hK hN (cw_o28 (S := S5)) rfl rfl hl.1 rfl (Nat.le_of_ble_eq_true rfl) dX6_users_72 ⟨Nat.le_of_ble_eq_true rfl, Nat.le_of_ble_eq_true rfl⟩) hS (fun H locs hP hS => ?_)
      refine lv_istore_n (lv' := [(3, .int x6), (2, .int (nI 1)), (0, .ref (ad 30)), (1, .int p1)]) hx hb dX6_users_75 rfl hl (by decide) rfl (fun ls hl => ?_)
      refine lv_iload_n hx hb dX6_users_76 rfl (lv_at hl 0 rfl) ?_
      refine lv_aload_n hx hb dX6_users_77 rfl (lv_at hl 2 rfl) ?_
      refine va_get (D := D) (ci := 6) (v := .ref (ad 28)) (C := RX6) (T := TX6) (N := 9) hx hb hts hin6 hown hK hP 30 (cw_o30 (S := S5)) rfl 7 (by decide) hfl55 (fun _ h9 => h9) rfl dX6_users_78 ?_
      refine lv_iload_n hx hb dX6_users_81 rfl (lv_at hl 0 rfl) ?_
      obtain ⟨x7, hc82, hf⟩ := zo_k hf
      refine cal_i (rnV (As := [.int x6]) (rest := [.int x6]) ⟨hx, hb, hml, hown, hts⟩ (c_X1_thatNeed hAd  hc82) (cwV 1 hts gX6_users_X1_thatNeed rfl rfl rfl cdV_X1_thatNeed ⟨Nat.le_of_ble_eq_true rfl, Nat.le_of_ble_eq_true rfl⟩) hP hK hN (cw_o28 (S := S5)) rfl rfl hl.1 rfl (Nat.le_of_ble_eq_true rfl) dX6_users_82 ⟨Nat.le_of_ble_eq_true rfl, Nat.le_of_ble_eq_true rfl⟩) hS (fun H locs hP hS => ?_)
      refine lv_ior hx hb dX6_users_85 ?_
      have hres := (Option.some.inj hf).symm
      exact finx_i (wf := fun S => (cw cyI ad S)) hx hb hr hlk hS hP hres dX6_users_86 (Nat.le_of_ble_eq_true rfl) (Nat.le_of_ble_eq_true rfl)
set_option maxHeartbeats 4000000 in
set_option maxRecDepth 100000 in
theorem c_X6_ring {l : Launch} {D : va_G} {cyI cyJ cyZ : ClassId} {ad : Nat → Nat}  (hfl : l.stackTraces = false) (hAd : AdOK 31 ad)  {S : St} {p1 : Int32} {res : Sum Nat (Int32 × St)} (hf : m_X6_ring S p1 = some res) : vx_Met l yX6_ring wsX6_ring rl_X6_ring (PreX D [(cyI, .int), (cyJ, .long), (cyZ, .boolean)] (cw cyI ad S) (CA ad) [.ref (ad 30), .int p1]) (PoXI D (fun S => (cw cyI ad S)) (CA ad) res) (XX res D (cw cyI ad S) (CA ad)) 1 6 (CA ad) := by
  refine metx_go (cc := cX6_ring) (maxL := 2) (ret := (some .int)) (by decide) rfl (Nat.le_of_ble_eq_true rfl) ?_
  intro p e s m args below meth c ls hx hb hr hml hts hown hlk hexc hP hK hN hZ hl
  have hown : s.vm.findClass RX6 = some m.cls := hown
  have hS : va_S (CA ad) s.heap s.heap [] := va_S.rf
  have hl : lv_has ls 2 [(0, .ref (ad 30)), (1, .int p1)] := hl
  have hin6 : ∀ w ∈ wsX60, w ∈ wsX6_ring := by decide +kernel
  have hfl55 := hts (.fieldLink RX6 55 "Makewheel" "graph" "LMakewheel$Graph;") (by decide +kernel)
  unfold m_X6_ring at hf
  refine lv_iload_n hx hb dX6_ring_0 rfl (lv_at hl 1 rfl) ?_
  rcases zx_k hf with ⟨e1, hc1, hR1⟩ | ⟨S1, hc1, hf⟩
  · exact xcal_t (rnxS (As := [.int p1]) (rest := []) ⟨hx, hb, hml, hown, hts⟩ (c_X6_refuseOtherTargets hfl hAd hc1) (va_cwS 1 hts gX6_ring_X6_refuseOtherTargets rfl rfl rfl cdS_X6_refuseOtherTargets ⟨Nat.le_of_ble_eq_true rfl, Nat.le_of_ble_eq_true rfl⟩) hP hK hN hZ (fun _ h => h) hS rfl hl.1 rfl (Nat.le_of_ble_eq_true rfl) dX6_ring_1 ⟨Nat.le_of_ble_eq_true rfl, Nat.le_of_ble_eq_true rfl⟩) hS rfl hR1 hlk hexc (Nat.le_of_ble_eq_true rfl) (Nat.le_of_ble_eq_true rfl)
  have eS1 := ro_X6_refuseOtherTargets hc1
  subst eS1
  refine xcal_k (rnxS (As := [.int p1]) (rest := []) ⟨hx, hb, hml, hown, hts⟩ (c_X6_refuseOtherTargets hfl hAd hc1) (va_cwS 1 hts gX6_ring_X6_refuseOtherTargets rfl rfl rfl cdS_X6_refuseOtherTargets ⟨Nat.le_of_ble_eq_true rfl, Nat.le_of_ble_eq_true rfl⟩) hP hK hN hZ (fun _ h => h) hS rfl hl.1 rfl (Nat.le_of_ble_eq_true rfl) dX6_ring_1 ⟨Nat.le_of_ble_eq_true rfl, Nat.le_of_ble_eq_true rfl⟩) hS rfl (fun H locs hP hS => ?_)
  refine lv_aload_n hx hb dX6_ring_4 rfl (lv_at hl 0 rfl) ?_
  refine va_get (D := D) (ci := 6) (v := .ref (ad 28)) (C := RX6) (T := TX6) (N := 9) hx hb hts hin6 hown hK hP 30 (cw_o30 (S := S)) rfl 7 (by decide) hfl55 (fun _ h9 => h9) rfl dX6_ring_5 ?_
  obtain ⟨S2, hc8, hf⟩ := zo_k hf
  refine cal_v (rnV (As := []) (rest := []) ⟨hx, hb, hml, hown, hts⟩ (c_X1_draw hAd  hc8) (cwV 0 hts gX6_ring_X1_draw rfl rfl rfl cdV_X1_draw ⟨Nat.le_of_ble_eq_true rfl, Nat.le_of_ble_eq_true rfl⟩) hP hK hN (cw_o28 (S := S)) rfl rfl hl.1 rfl (Nat.le_of_ble_eq_true rfl) dX6_ring_8 ⟨Nat.le_of_ble_eq_true rfl, Nat.le_of_ble_eq_true rfl⟩) hS (fun H locs hP hS => ?_)
  refine lv_aload_n hx hb dX6_ring_11 rfl (lv_at hl 0 rfl) ?_
  refine va_get (D := D) (ci := 6) (v := .ref (ad 28)) (C := RX6) (T := TX6) (N := 9) hx hb hts hin6 hown hK hP 30 (cw_o30 (S := S2)) rfl 7 (by decide) hfl55 (fun _ h9 => h9) rfl dX6_ring_12 ?_
  refine lv_iload_n hx hb dX6_ring_15 rfl (lv_at hl 1 rfl) ?_
  obtain ⟨x3, S4, hc16, hf⟩ := zo2_k hf
  refine cal_i (rnV (As := [.int p1]) (rest := []) ⟨hx, hb, hml, hown, hts⟩ (c_X1_shortestRing hAd  hc16) (cwV 1 hts gX6_ring_X1_shortestRing rfl rfl rfl cdV_X1_shortestRing ⟨Nat.le_of_ble_eq_true rfl, Nat.le_of_ble_eq_true rfl⟩) hP hK hN (cw_o28 (S := S2)) rfl rfl hl.1 rfl (Nat.le_of_ble_eq_true rfl) dX6_ring_16 ⟨Nat.le_of_ble_eq_true rfl, Nat.le_of_ble_eq_true rfl⟩) hS (fun H locs hP hS => ?_)
  have hres := (Option.some.inj hf).symm
  exact finx_i (wf := fun S => (cw cyI ad S)) hx hb hr hlk hS hP hres dX6_ring_19 (Nat.le_of_ble_eq_true rfl) (Nat.le_of_ble_eq_true rfl)
set_option maxHeartbeats 4000000 in
set_option maxRecDepth 100000 in
theorem c_X6_way {l : Launch} {D : va_G} {cyI cyJ cyZ : ClassId} {ad : Nat → Nat}  (hfl : l.stackTraces = false) (hAd : AdOK 31 ad)  {S : St} {p1 : Int32} {p2 : Int32} {p3 : Int32} {res : Sum Nat (Int32 × St)} (hf : m_X6_way S p1 p2 p3 = some res) : vx_Met l yX6_way wsX6_way rl_X6_way (PreX D [(cyI, .int), (cyJ, .long), (cyZ, .boolean)] (cw cyI ad S) (CA ad) [.ref (ad 30), .int p1, .int p2, .int p3]) (PoXI D (fun S => (cw cyI ad S)) (CA ad) res) (XX res D (cw cyI ad S) (CA ad)) 3 18 (CA ad) := by
  refine metx_go (cc := cX6_way) (maxL := 4) (ret := (some .int)) (by decide) rfl (Nat.le_of_ble_eq_true rfl) ?_
  intro p e s m args below meth c ls hx hb hr hml hts hown hlk hexc hP hK hN hZ hl
  have hown : s.vm.findClass RX6 = some m.cls := hown
  have hS : va_S (CA ad) s.heap s.heap [] := va_S.rf
  have hl : lv_has ls 4 [(0, .ref (ad 30)), (1, .int p1), (2, .int p2), (3, .int p3)] := hl
  have hin6 : ∀ w ∈ wsX60, w ∈ wsX6_way := by decide +kernel
  have hfl55 := hts (.fieldLink RX6 55 "Makewheel" "graph" "LMakewheel$Graph;") (by decide +kernel)
  have hat2 := hat_2 (args := args) hZ.2.2.1 (fun w hw => hts w (List.mem_cons_of_mem _ (List.mem_append_right _ hw)))
  have hat1 := hat_1 (args := args) hZ.2.2.1 (fun w hw => hts w (List.mem_cons_of_mem _ (List.mem_append_left _ (List.mem_append_right _ hw))))
  unfold m_X6_way at hf
  refine lv_iload_n hx hb dX6_way_0 rfl (lv_at hl 1 rfl) ?_
  rcases zx_k hf with ⟨e1, hc1, hR1⟩ | ⟨S1, hc1, hf⟩
  · exact xcal_t (rnxS (As := [.int p1]) (rest := []) ⟨hx, hb, hml, hown, hts⟩ (c_X6_refuseOtherTargets hfl hAd hc1) (va_cwS 1 hts gX6_way_X6_refuseOtherTargets rfl rfl rfl cdS_X6_refuseOtherTargets ⟨Nat.le_of_ble_eq_true rfl, Nat.le_of_ble_eq_true rfl⟩) hP hK hN hZ (fun _ h => h) hS rfl hl.1 rfl (Nat.le_of_ble_eq_true rfl) dX6_way_1 ⟨Nat.le_of_ble_eq_true rfl, Nat.le_of_ble_eq_true rfl⟩) hS rfl hR1 hlk hexc (Nat.le_of_ble_eq_true rfl) (Nat.le_of_ble_eq_true rfl)
  have eS1 := ro_X6_refuseOtherTargets hc1
  subst eS1
  refine xcal_k (rnxS (As := [.int p1]) (rest := []) ⟨hx, hb, hml, hown, hts⟩ (c_X6_refuseOtherTargets hfl hAd hc1) (va_cwS 1 hts gX6_way_X6_refuseOtherTargets rfl rfl rfl cdS_X6_refuseOtherTargets ⟨Nat.le_of_ble_eq_true rfl, Nat.le_of_ble_eq_true rfl⟩) hP hK hN hZ (fun _ h => h) hS rfl hl.1 rfl (Nat.le_of_ble_eq_true rfl) dX6_way_1 ⟨Nat.le_of_ble_eq_true rfl, Nat.le_of_ble_eq_true rfl⟩) hS rfl (fun H locs hP hS => ?_)
  refine lv_iload_n hx hb dX6_way_4 rfl (lv_at hl 2 rfl) ?_
  rcases zx_k hf with ⟨e5, hc5, hR5⟩ | ⟨S2, hc5, hf⟩
  · exact xcal_t (rnxS (As := [.int p2]) (rest := []) ⟨hx, hb, hml, hown, hts⟩ (c_X6_refuseOtherTargets hfl hAd hc5) (va_cwS 1 hts gX6_way_X6_refuseOtherTargets rfl rfl rfl cdS_X6_refuseOtherTargets ⟨Nat.le_of_ble_eq_true rfl, Nat.le_of_ble_eq_true rfl⟩) hP hK hN hZ (fun _ h => h) hS rfl hl.1 rfl (Nat.le_of_ble_eq_true rfl) dX6_way_5 ⟨Nat.le_of_ble_eq_true rfl, Nat.le_of_ble_eq_true rfl⟩) hS rfl hR5 hlk hexc (Nat.le_of_ble_eq_true rfl) (Nat.le_of_ble_eq_true rfl)
  have eS2 := ro_X6_refuseOtherTargets hc5
  subst eS2
  refine xcal_k (rnxS (As := [.int p2]) (rest := []) ⟨hx, hb, hml, hown, hts⟩ (c_X6_refuseOtherTargets hfl hAd hc5) (va_cwS 1 hts gX6_way_X6_refuseOtherTargets rfl rfl rfl cdS_X6_refuseOtherTargets ⟨Nat.le_of_ble_eq_true rfl, Nat.le_of_ble_eq_true rfl⟩) hP hK hN hZ (fun _ h => h) hS rfl hl.1 rfl (Nat.le_of_ble_eq_true rfl) dX6_way_5 ⟨Nat.le_of_ble_eq_true rfl, Nat.le_of_ble_eq_true rfl⟩) hS rfl (fun H locs hP hS => ?_)
  refine lv_iload_n hx hb dX6_way_8 rfl (lv_at hl 3 rfl) ?_
  refine lv_if_ge (tgt := 22) hx hb dX6_way_9 (by decide) (fun hc => ?_) (fun hc => ?_)
  · have hf := ifp hf hc
    refine lv_iload_n hx hb dX6_way_22 rfl (lv_at hl 1 rfl) ?_
    refine lv_iload_n hx hb dX6_way_23 rfl (lv_at hl 2 rfl) ?_
    refine lv_icmp_ne (tgt := 37) hx hb dX6_way_24 (by decide) (fun hc => ?_) (fun hc => ?_)
    · have hf := ifn hf hc
      refine lv_aload_n hx hb dX6_way_37 rfl (lv_at hl 0 rfl) ?_
      refine va_get (D := D) (ci := 6) (v := .ref (ad 28)) (C := RX6) (T := TX6) (N := 9) hx hb hts hin6 hown hK hP 30 (cw_o30 (S := S)) rfl 7 (by decide) hfl55 (fun _ h9 => h9) rfl dX6_way_38 ?_
      obtain ⟨S3, hc41, hf⟩ := zo_k hf
      refine cal_v (rnV (As := []) (rest := []) ⟨hx, hb, hml, hown, hts⟩ (c_X1_draw hAd  hc41) (cwV 0 hts gX6_way_X1_draw rfl rfl rfl cdV_X1_draw ⟨Nat.le_of_ble_eq_true rfl, Nat.le_of_ble_eq_true rfl⟩) hP hK hN (cw_o28 (S := S)) rfl rfl hl.1 rfl (Nat.le_of_ble_eq_true rfl) dX6_way_41 ⟨Nat.le_of_ble_eq_true rfl, Nat.le_of_ble_eq_true rfl⟩) hS (fun H locs hP hS => ?_)
      refine lv_aload_n hx hb dX6_way_44 rfl (lv_at hl 0 rfl) ?_
      refine va_get (D := D) (ci := 6) (v := .ref (ad 28)) (C := RX6) (T := TX6) (N := 9) hx hb hts hin6 hown hK hP 30 (cw_o30 (S := S3)) rfl 7 (by decide) hfl55 (fun _ h9 => h9) rfl dX6_way_45 ?_
      refine lv_iload_n hx hb dX6_way_48 rfl (lv_at hl 1 rfl) ?_
      refine lv_iload_n hx hb dX6_way_49 rfl (lv_at hl 2 rfl) ?_
      refine lv_iload_n hx hb dX6_way_50 rfl (lv_at hl 3 rfl) ?_
      obtain ⟨x4, S5, hc51, hf⟩ := zo2_k hf
      refine cal_i (rnV (As := [.int p1, .int p2, .int p3]) (rest := []) ⟨hx, hb, hml, hown, hts⟩ (c_X1_onShortestWay hAd  hc51) (cwV 3 hts gX6_way_X1_onShortestWay rfl rfl rfl cdV_X1_onShortestWay ⟨Nat.le_of_ble_eq_true rfl, Nat.le_of_ble_eq_true rfl⟩) hP hK hN (cw_o28 (S := S3)) rfl rfl hl.1 rfl (Nat.le_of_ble_eq_true rfl) dX6_way_51 ⟨Nat.le_of_ble_eq_true rfl, Nat.le_of_ble_eq_true rfl⟩) hS (fun H locs hP hS => ?_)
      have hres := (Option.some.inj hf).symm
      exact finx_i (wf := fun S => (cw cyI ad S)) hx hb hr hlk hS hP hres dX6_way_54 (Nat.le_of_ble_eq_true rfl) (Nat.le_of_ble_eq_true rfl)
    · have hf := ifp hf hc
      have hres := (Option.some.inj hf).symm
      exact thr_leaf (e0 := 2) hx hb hfl hown hfit_2 (hts (.classLink RX6 79 "java/lang/IllegalArgumentException") (by decide +kernel)) (hts (.initialized "java/lang/IllegalArgumentException") (by decide +kernel)) hZ.2.2.2.s199 hat2 hgd_2 hZ hS (hl.1.trans hml.symm) dX6_way_27 dX6_way_30 dX6_way_31 dX6_way_33 dX6_way_36 hexc (Nat.le_of_ble_eq_true rfl) (Nat.le_of_ble_eq_true rfl) (Nat.le_of_ble_eq_true rfl) (Nat.le_of_ble_eq_true rfl) hlk hP hres rfl (Nat.le_of_ble_eq_true rfl) (Nat.le_of_ble_eq_true rfl)
  · have hf := ifn hf hc
    have hres := (Option.some.inj hf).symm
    exact thr_leaf (e0 := 1) hx hb hfl hown hfit_1 (hts (.classLink RX6 68 "java/lang/IndexOutOfBoundsException") (by decide +kernel)) (hts (.initialized "java/lang/IndexOutOfBoundsException") (by decide +kernel)) hZ.2.2.2.s197 hat1 hgd_1 hZ hS (hl.1.trans hml.symm) dX6_way_12 dX6_way_15 dX6_way_16 dX6_way_18 dX6_way_21 hexc (Nat.le_of_ble_eq_true rfl) (Nat.le_of_ble_eq_true rfl) (Nat.le_of_ble_eq_true rfl) (Nat.le_of_ble_eq_true rfl) hlk hP hres rfl (Nat.le_of_ble_eq_true rfl) (Nat.le_of_ble_eq_true rfl)
set_option maxHeartbeats 4000000 in
set_option maxRecDepth 100000 in
theorem c_X6_time {l : Launch} {D : va_G} {cyI cyJ cyZ : ClassId} {ad : Nat → Nat}  (hfl : l.stackTraces = false) (hAd : AdOK 31 ad)  {S : St} {p1 : Int32} {p2 : Int32} {p3 : Int32} {res : Sum Nat (Int32 × St)} (hf : m_X6_time S p1 p2 p3 = some res) : vx_Met l yX6_time wsX6_time rl_X6_time (PreX D [(cyI, .int), (cyJ, .long), (cyZ, .boolean)] (cw cyI ad S) (CA ad) [.ref (ad 30), .int p1, .int p2, .int p3]) (PoXI D (fun S => (cw cyI ad S)) (CA ad) res) (XX res D (cw cyI ad S) (CA ad)) 3 18 (CA ad) := by
  refine metx_go (cc := cX6_time) (maxL := 5) (ret := (some .int)) (by decide) rfl (Nat.le_of_ble_eq_true rfl) ?_
  intro p e s m args below meth c ls hx hb hr hml hts hown hlk hexc hP hK hN hZ hl
  have hown : s.vm.findClass RX6 = some m.cls := hown
  have hS : va_S (CA ad) s.heap s.heap [] := va_S.rf
  have hl : lv_has ls 5 [(0, .ref (ad 30)), (1, .int p1), (2, .int p2), (3, .int p3)] := hl
  have hin6 : ∀ w ∈ wsX60, w ∈ wsX6_time := by decide +kernel
  have hfl47 := hts (.fieldLink RX6 47 "Makewheel" "plainly" "LMakewheel$Looker;") (by decide +kernel)
  have hfl64 := hts (.fieldLink RX6 64 "Makewheel" "schedule" "LMakewheel$Schedule;") (by decide +kernel)
  have hat2 := hat_2 (args := args) hZ.2.2.1 (fun w hw => hts w (List.mem_cons_of_mem _ (List.mem_append_left _ (List.mem_append_right _ hw))))
  unfold m_X6_time at hf
  refine lv_iload_n hx hb dX6_time_0 rfl (lv_at hl 1 rfl) ?_
  refine lv_iload_n hx hb dX6_time_1 rfl (lv_at hl 2 rfl) ?_
  rcases zx_k hf with ⟨e2, hc2, hR2⟩ | ⟨S1, hc2, hf⟩
  · exact xcal_t (rnxS (As := [.int p1, .int p2]) (rest := []) ⟨hx, hb, hml, hown, hts⟩ (c_X6_refuseOtherNodes hfl hAd hc2) (va_cwS 2 hts gX6_time_X6_refuseOtherNodes rfl rfl rfl cdS_X6_refuseOtherNodes ⟨Nat.le_of_ble_eq_true rfl, Nat.le_of_ble_eq_true rfl⟩) hP hK hN hZ (fun _ h => h) hS rfl hl.1 rfl (Nat.le_of_ble_eq_true rfl) dX6_time_2 ⟨Nat.le_of_ble_eq_true rfl, Nat.le_of_ble_eq_true rfl⟩) hS rfl hR2 hlk hexc (Nat.le_of_ble_eq_true rfl) (Nat.le_of_ble_eq_true rfl)
  have eS1 := ro_X6_refuseOtherNodes hc2
  subst eS1
  refine xcal_k (rnxS (As := [.int p1, .int p2]) (rest := []) ⟨hx, hb, hml, hown, hts⟩ (c_X6_refuseOtherNodes hfl hAd hc2) (va_cwS 2 hts gX6_time_X6_refuseOtherNodes rfl rfl rfl cdS_X6_refuseOtherNodes ⟨Nat.le_of_ble_eq_true rfl, Nat.le_of_ble_eq_true rfl⟩) hP hK hN hZ (fun _ h => h) hS rfl hl.1 rfl (Nat.le_of_ble_eq_true rfl) dX6_time_2 ⟨Nat.le_of_ble_eq_true rfl, Nat.le_of_ble_eq_true rfl⟩) hS rfl (fun H locs hP hS => ?_)
  refine lv_iload_n hx hb dX6_time_5 rfl (lv_at hl 3 rfl) ?_
  refine lv_iconst (v := (nI 1)) hx hb dX6_time_6 (by decide) ?_
  refine lv_icmp_lt (tgt := 15) hx hb dX6_time_7 (by decide) (fun hc => ?_) (fun hc => ?_)
  · have hf := ifp hf hc
    have hres := (Option.some.inj hf).symm
    exact thr_leaf (e0 := 2) hx hb hfl hown hfit_2 (hts (.classLink RX6 79 "java/lang/IllegalArgumentException") (by decide +kernel)) (hts (.initialized "java/lang/IllegalArgumentException") (by decide +kernel)) hZ.2.2.2.s205 hat2 hgd_2 hZ hS (hl.1.trans hml.symm) dX6_time_15 dX6_time_18 dX6_time_19 dX6_time_21 dX6_time_24 hexc (Nat.le_of_ble_eq_true rfl) (Nat.le_of_ble_eq_true rfl) (Nat.le_of_ble_eq_true rfl) (Nat.le_of_ble_eq_true rfl) hlk hP hres rfl (Nat.le_of_ble_eq_true rfl) (Nat.le_of_ble_eq_true rfl)
  · have hf := ifn hf hc
    refine lv_iload_n hx hb dX6_time_10 rfl (lv_at hl 3 rfl) ?_
    refine lv_iconst (v := (nI 3)) hx hb dX6_time_11 (by decide) ?_
    refine lv_icmp_le (tgt := 25) hx hb dX6_time_12 (by decide) (fun hc => ?_) (fun hc => ?_)
    · have hf := ifp hf hc
      refine lv_iload_n hx hb dX6_time_25 rfl (lv_at hl 1 rfl) ?_
      refine lv_iload_n hx hb dX6_time_26 rfl (lv_at hl 2 rfl) ?_
      obtain ⟨x2, hc27, hf⟩ := zo_k hf
      refine cal_i (rnS (As := [.int p1, .int p2]) (rest := []) ⟨hx, hb, hml, hown, hts⟩ (c_X6_nodeOf hAd  hc27) (va_cwS 2 hts gX6_time_X6_nodeOf rfl rfl rfl cdS_X6_nodeOf ⟨Nat.le_of_ble_eq_true rfl, Nat.le_of_ble_eq_true rfl⟩) hP hK hN rfl hl.1 rfl (Nat.le_of_ble_eq_true rfl) dX6_time_27 ⟨Nat.le_of_ble_eq_true rfl, Nat.le_of_ble_eq_true rfl⟩) hS (fun H locs hP hS => ?_)
      refine lv_istore (lv' := [(4, .int x2), (0, .ref (ad 30)), (1, .int p1), (2, .int p2), (3, .int p3)]) hx hb dX6_time_30 hl (by decide) rfl (fun ls hl => ?_)
      refine lv_aload_n hx hb dX6_time_32 rfl (lv_at hl 1 rfl) ?_
      refine va_get (D := D) (ci := 6) (v := .ref (ad (26 + 1))) (C := RX6) (T := TX6) (N := 9) hx hb hts hin6 hown hK hP 30 (cw_o30 (S := S)) rfl 6 (by decide) hfl47 (fun _ h9 => h9) rfl dX6_time_33 ?_
      refine lv_iload hx hb dX6_time_36 (lv_at hl 0 rfl) ?_
      obtain ⟨x3, S4, hc38, hf⟩ := zo2_k hf
      refine cal_i (rnV (As := [.int x2]) (rest := []) ⟨hx, hb, hml, hown, hts⟩ (c_X2_start hAd (by decide) hc38) (cwV 1 hts gX6_time_X2_start rfl rfl rfl cdV_X2_start ⟨Nat.le_of_ble_eq_true rfl, Nat.le_of_ble_eq_true rfl⟩) hP hK hN (cw_lo (S := S) (b := 1) (by decide)) rfl rfl hl.1 rfl (Nat.le_of_ble_eq_true rfl) dX6_time_38 ⟨Nat.le_of_ble_eq_true rfl, Nat.le_of_ble_eq_true rfl⟩) hS (fun H locs hP hS => ?_)
      refine lv_if_ge (tgt := 48) hx hb dX6_time_41 (by decide) (fun hc => ?_) (fun hc => ?_)
      · have hf := ifp hf hc
        refine lv_aload_n hx hb dX6_time_48 rfl (lv_at hl 1 rfl) ?_
        refine va_get (D := D) (ci := 6) (v := .ref (ad 29)) (C := RX6) (T := TX6) (N := 9) hx hb hts hin6 hown hK hP 30 (cw_o30 (S := S4)) rfl 8 (by decide) hfl64 (fun _ h9 => h9) rfl dX6_time_49 ?_
        refine lv_iload hx hb dX6_time_52 (lv_at hl 0 rfl) ?_
        refine lv_iload_n hx hb dX6_time_54 rfl (lv_at hl 4 rfl) ?_
        obtain ⟨x5, S6, hc55, hf⟩ := zo2_k hf
        refine cal_i (rnV (As := [.int x2, .int p3]) (rest := []) ⟨hx, hb, hml, hown, hts⟩ (c_X5_endOf hAd  hc55) (cwV 2 hts gX6_time_X5_endOf rfl rfl rfl cdV_X5_endOf ⟨Nat.le_of_ble_eq_true rfl, Nat.le_of_ble_eq_true rfl⟩) hP hK hN (cw_o29 (S := S4)) rfl rfl hl.1 rfl (Nat.le_of_ble_eq_true rfl) dX6_time_55 ⟨Nat.le_of_ble_eq_true rfl, Nat.le_of_ble_eq_true rfl⟩) hS (fun H locs hP hS => ?_)
        have hres := (Option.some.inj hf).symm
        exact finx_i (wf := fun S => (cw cyI ad S)) hx hb hr hlk hS hP hres dX6_time_58 (Nat.le_of_ble_eq_true rfl) (Nat.le_of_ble_eq_true rfl)
      · have hf := ifn hf hc
        refine lv_iconst (v := (-1)) hx hb dX6_time_44 (by decide) ?_
        refine lv_goto (tgt := 58) hx hb dX6_time_45 (by decide) ?_
        have hres := (Option.some.inj hf).symm
        exact finx_i (wf := fun S => (cw cyI ad S)) hx hb hr hlk hS hP hres dX6_time_58 (Nat.le_of_ble_eq_true rfl) (Nat.le_of_ble_eq_true rfl)
    · have hf := ifn hf hc
      have hres := (Option.some.inj hf).symm
      exact thr_leaf (e0 := 2) hx hb hfl hown hfit_2 (hts (.classLink RX6 79 "java/lang/IllegalArgumentException") (by decide +kernel)) (hts (.initialized "java/lang/IllegalArgumentException") (by decide +kernel)) hZ.2.2.2.s205 hat2 hgd_2 hZ hS (hl.1.trans hml.symm) dX6_time_15 dX6_time_18 dX6_time_19 dX6_time_21 dX6_time_24 hexc (Nat.le_of_ble_eq_true rfl) (Nat.le_of_ble_eq_true rfl) (Nat.le_of_ble_eq_true rfl) (Nat.le_of_ble_eq_true rfl) hlk hP hres rfl (Nat.le_of_ble_eq_true rfl) (Nat.le_of_ble_eq_true rfl)
