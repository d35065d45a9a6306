set_option maxHeartbeats 4000000 in
set_option maxRecDepth 100000 in
theorem c_X5_howManyRunning {l : Launch} {D : va_G} {cyI cyJ cyZ : ClassId} {ad : Nat → Nat}  (hAd : AdOK 31 ad)  {S : St} {p1 : Int32} {r : Int32} (hf : m_X5_howManyRunning S p1 = some r) : Met l yX5_howManyRunning wsX5_howManyRunning rl_X5_howManyRunning (PreW D [(cyI, .int), (cyJ, .long), (cyZ, .boolean)] (cw cyI ad S) [.ref (ad 29), .int p1]) (PoI D (cw cyI ad S) (CA ad) r) 0 0 (CA ad) := by
  refine met_go (cc := cX5_howManyRunning) (maxL := 4) (ret := (some .int)) (by decide) rfl (Nat.le_of_ble_eq_true rfl) ?_
  intro p e s m args below meth c ls hx hb hr hml hts hown hlk hP hK hN hl
  have hown : s.vm.findClass RX5 = some m.cls := hown
  have hS : va_S (CA ad) s.heap s.heap [] := va_S.rf
  have hl : lv_has ls 4 [(0, .ref (ad 29)), (1, .int p1)] := hl
  have hin5 : ∀ w ∈ wsX50, w ∈ wsX5_howManyRunning := by decide +kernel
  have hfl14 := hts (.fieldLink RX5 14 "Makewheel$Schedule" "rows" "LMakewheel$Rows;") (by decide +kernel)
  unfold m_X5_howManyRunning at hf
  refine lv_iconst (v := (nI 0)) hx hb dX5_howManyRunning_0 (by decide) ?_
  refine lv_istore_n (lv' := [(2, .int (nI 0)), (0, .ref (ad 29)), (1, .int p1)]) hx hb dX5_howManyRunning_1 rfl hl (by decide) rfl (fun ls hl => ?_)
  refine lv_iconst (v := (nI 0)) hx hb dX5_howManyRunning_2 (by decide) ?_
  refine lv_istore_n (lv' := [(3, .int (nI 0)), (2, .int (nI 0)), (0, .ref (ad 29)), (1, .int p1)]) hx hb dX5_howManyRunning_3 rfl hl (by decide) rfl (fun ls hl => ?_)
  refine zl2_ind (F := (m_X5_howManyRunning_B4 S p1)) (R := r) (P := fun x1 x2 => ∀ (H : Heap) (locs : List Loc) (ls : Array Slot), va_P D vwCl (cw cyI ad S) H → va_S (CA ad) s.heap H locs → lv_has ls 4 [(0, .ref (ad 29)), (1, .int p1), (2, .int x1), (3, .int x2)] → W p l e rl_X5_howManyRunning s m args below meth c H locs 0 0 (MQ below (PoI D (cw cyI ad S) (CA ad) r) args s 0 0 (CA ad)) (F0 m 4 ls [])) (fun rec4 ih4 x1 x2 hf H locs ls hP hS hl => ?_) FU (nI 0) (nI 0) hf _ _ _ hP hS (lv_sub hl [2, 3, 1, 0] rfl)
  unfold m_X5_howManyRunning_B4 at hf
  refine lv_iload_n hx hb dX5_howManyRunning_4 rfl (lv_at hl 3 rfl) ?_
  refine lv_bipush (v := (nI 32)) hx hb dX5_howManyRunning_5 (by decide) ?_
  refine lv_icmp_ge (tgt := 32) hx hb dX5_howManyRunning_7 (by decide) (fun hc => ?_) (fun hc => ?_)
  · have hf := ifp hf hc
    refine lv_iload_n hx hb dX5_howManyRunning_32 rfl (lv_at hl 2 rfl) ?_
    exact fin_i hx hb hr hlk hS hP (Option.some.inj hf) dX5_howManyRunning_33
  · have hf := ifn hf hc
    refine lv_aload_n hx hb dX5_howManyRunning_10 rfl (lv_at hl 0 rfl) ?_
    refine va_get (D := D) (ci := 5) (v := .ref (ad (2 * 7))) (C := RX5) (T := TX5) (N := 2) hx hb hts hin5 hown hK hP 29 (cw_o29 (S := S)) rfl 1 (by decide) hfl14 (fun _ h9 => h9) rfl dX5_howManyRunning_11 ?_
    refine lv_iload_n hx hb dX5_howManyRunning_14 rfl (lv_at hl 3 rfl) ?_
    refine lv_iconst (v := (nI 1)) hx hb dX5_howManyRunning_15 (by decide) ?_
    obtain ⟨x3, hc16, hf⟩ := zo_k hf
    refine cal_i (rnV (As := [.int x2, .int (nI 1)]) (rest := []) ⟨hx, hb, hml, hown, hts⟩ (c_X4_get hAd (by decide) hc16) (cwV 2 hts gX5_howManyRunning_X4_get rfl rfl rfl cdV_X4_get ⟨Nat.le_of_ble_eq_true rfl, Nat.le_of_ble_eq_true rfl⟩) hP hK hN (cw_ro (S := S) (k := 7) (by decide)) rfl rfl hl.1 rfl (Nat.le_of_ble_eq_true rfl) dX5_howManyRunning_16 ⟨Nat.zero_le _, Nat.zero_le _⟩) hS (fun H locs hP hS => ?_)
    refine lv_iload_n hx hb dX5_howManyRunning_19 rfl (lv_at hl 1 rfl) ?_
    refine lv_icmp_le (tgt := 26) hx hb dX5_howManyRunning_20 (by decide) (fun hc => ?_) (fun hc => ?_)
    · have hf := ifp hf hc
      obtain ⟨x4, ex4, hf⟩ := zb_k hf
      refine lv_iinc (v := x4) (lv' := [(3, .int x4), (0, .ref (ad 29)), (1, .int p1), (2, .int x1)]) hx hb dX5_howManyRunning_26 hl (k := 3) rfl (by rw [ex4]; rfl) (by decide) rfl (fun ls hl => ?_)
      refine lv_goto (tgt := 4) hx hb dX5_howManyRunning_29 (by decide) ?_
      exact ih4 x1 x4 hf _ _ _ hP hS (lv_sub hl [1, 2, 3, 0] rfl)
    · have hf := ifn hf hc
      obtain ⟨x5, ex5, hf⟩ := zb_k hf
      refine lv_iinc (v := x5) (lv' := [(2, .int x5), (0, .ref (ad 29)), (1, .int p1), (3, .int x2)]) hx hb dX5_howManyRunning_23 hl (k := 2) rfl (by rw [ex5]; rfl) (by decide) rfl (fun ls hl => ?_)
      obtain ⟨x6, ex6, hf⟩ := zb_k hf
      refine lv_iinc (v := x6) (lv' := [(3, .int x6), (2, .int x5), (0, .ref (ad 29)), (1, .int p1)]) hx hb dX5_howManyRunning_26 hl (k := 3) rfl (by rw [ex6]; rfl) (by decide) rfl (fun ls hl => ?_)
      refine lv_goto (tgt := 4) hx hb dX5_howManyRunning_29 (by decide) ?_
      exact ih4 x5 x6 hf _ _ _ hP hS (lv_sub hl [2, 3, 1, 0] rfl)
set_option maxHeartbeats 4000000 in
set_option maxRecDepth 100000 in
theorem c_X5_nodeReadAt {l : Launch} {D : va_G} {cyI cyJ cyZ : ClassId} {ad : Nat → Nat}  (hAd : AdOK 31 ad)  {S : St} {p1 : Int32} {p2 : Int32} {r : Int32} (hf : m_X5_nodeReadAt S p1 p2 = some r) : Met l yX5_nodeReadAt wsX5_nodeReadAt rl_X5_nodeReadAt (PreW D [(cyI, .int), (cyJ, .long), (cyZ, .boolean)] (cw cyI ad S) [.ref (ad 29), .int p1, .int p2]) (PoI D (cw cyI ad S) (CA ad) r) 0 0 (CA ad) := by
  refine met_go (cc := cX5_nodeReadAt) (maxL := 6) (ret := (some .int)) (by decide) rfl (Nat.le_of_ble_eq_true rfl) ?_
  intro p e s m args below meth c ls hx hb hr hml hts hown hlk hP hK hN hl
  have hown : s.vm.findClass RX5 = some m.cls := hown
  have hS : va_S (CA ad) s.heap s.heap [] := va_S.rf
  have hl : lv_has ls 6 [(0, .ref (ad 29)), (1, .int p1), (2, .int p2)] := hl
  have hin2 : ∀ w ∈ wsX20, w ∈ wsX5_nodeReadAt := by decide +kernel
  have hin5 : ∀ w ∈ wsX50, w ∈ wsX5_nodeReadAt := by decide +kernel
  have hfl20 := hts (.fieldLink RX5 20 "Makewheel$Schedule" "plainly" "LMakewheel$Looker;") (by decide +kernel)
  unfold m_X5_nodeReadAt at hf
  refine lv_bipush (v := (nI 15)) hx hb dX5_nodeReadAt_0 (by decide) ?_
  refine lv_iload_n hx hb dX5_nodeReadAt_2 rfl (lv_at hl 2 rfl) ?_
  refine lv_bipush (v := (nI 7)) hx hb dX5_nodeReadAt_3 (by decide) ?_
  refine lv_imul hx hb dX5_nodeReadAt_5 ?_
  refine lv_iadd hx hb dX5_nodeReadAt_6 ?_
  refine lv_topi (fun x1 ex1 => ?_)
  have hf := zb_x hf ex1
  refine lv_istore_n (lv' := [(3, .int x1), (0, .ref (ad 29)), (1, .int p1), (2, .int p2)]) hx hb dX5_nodeReadAt_7 rfl hl (by decide) rfl (fun ls hl => ?_)
  refine lv_aload_n hx hb dX5_nodeReadAt_8 rfl (lv_at hl 1 rfl) ?_
  refine va_get (D := D) (ci := 5) (v := .ref (ad (26 + 1))) (C := RX5) (T := TX5) (N := 2) hx hb hts hin5 hown hK hP 29 (cw_o29 (S := S)) rfl 0 (by decide) hfl20 (fun _ h9 => h9) rfl dX5_nodeReadAt_9 ?_
  refine va_getN (D := D) (ci := 2) (v := .ref (ad (2 * (9 + 2 * 1)))) (C := RX2) (T := TX2) (N := 10) hx hb hts hin2 hown hK hP (26 + 1) (cw_lo (S := S) (b := 1) (by decide)) rfl 7 (by decide) (va_Nw.use rfl hN.n5_56) (fun _ h9 => h9) rfl dX5_nodeReadAt_12 ?_
  refine lv_iload_n hx hb dX5_nodeReadAt_15 rfl (lv_at hl 2 rfl) ?_
  refine lv_iload_n hx hb dX5_nodeReadAt_16 rfl (lv_at hl 0 rfl) ?_
  refine lv_iconst (v := (nI 0)) hx hb dX5_nodeReadAt_17 (by decide) ?_
  refine lv_iadd hx hb dX5_nodeReadAt_18 ?_
  obtain ⟨x2, hc19, hf⟩ := zo_k hf
  refine cal_i (rnV (As := [.int p1, .int (x1 + (nI 0))]) (rest := []) ⟨hx, hb, hml, hown, hts⟩ (c_X4_get hAd (by omega) hc19) (cwV 2 hts gX5_nodeReadAt_X4_get rfl rfl rfl cdV_X4_get ⟨Nat.le_of_ble_eq_true rfl, Nat.le_of_ble_eq_true rfl⟩) hP hK hN (cw_ro (S := S) (k := (9 + 2 * 1)) (by omega)) rfl rfl hl.1 rfl (Nat.le_of_ble_eq_true rfl) dX5_nodeReadAt_19 ⟨Nat.zero_le _, Nat.zero_le _⟩) hS (fun H locs hP hS => ?_)
  refine lv_istore (lv' := [(4, .int x2), (3, .int x1), (0, .ref (ad 29)), (1, .int p1), (2, .int p2)]) hx hb dX5_nodeReadAt_22 hl (by decide) rfl (fun ls hl => ?_)
  refine lv_aload_n hx hb dX5_nodeReadAt_24 rfl (lv_at hl 2 rfl) ?_
  refine va_get (D := D) (ci := 5) (v := .ref (ad (26 + 1))) (C := RX5) (T := TX5) (N := 2) hx hb hts hin5 hown hK hP 29 (cw_o29 (S := S)) rfl 0 (by decide) hfl20 (fun _ h9 => h9) rfl dX5_nodeReadAt_25 ?_
  refine va_getN (D := D) (ci := 2) (v := .ref (ad (2 * (9 + 2 * 1)))) (C := RX2) (T := TX2) (N := 10) hx hb hts hin2 hown hK hP (26 + 1) (cw_lo (S := S) (b := 1) (by decide)) rfl 7 (by decide) (va_Nw.use rfl hN.n5_56) (fun _ h9 => h9) rfl dX5_nodeReadAt_28 ?_
  refine lv_iload_n hx hb dX5_nodeReadAt_31 rfl (lv_at hl 3 rfl) ?_
  refine lv_iload_n hx hb dX5_nodeReadAt_32 rfl (lv_at hl 1 rfl) ?_
  refine lv_iconst (v := (nI 1)) hx hb dX5_nodeReadAt_33 (by decide) ?_
  refine lv_iadd hx hb dX5_nodeReadAt_34 ?_
  obtain ⟨x3, hc35, hf⟩ := zo_k hf
  refine cal_i (rnV (As := [.int p1, .int (x1 + (nI 1))]) (rest := []) ⟨hx, hb, hml, hown, hts⟩ (c_X4_get hAd (by omega) hc35) (cwV 2 hts gX5_nodeReadAt_X4_get rfl rfl rfl cdV_X4_get ⟨Nat.le_of_ble_eq_true rfl, Nat.le_of_ble_eq_true rfl⟩) hP hK hN (cw_ro (S := S) (k := (9 + 2 * 1)) (by omega)) rfl rfl hl.1 rfl (Nat.le_of_ble_eq_true rfl) dX5_nodeReadAt_35 ⟨Nat.zero_le _, Nat.zero_le _⟩) hS (fun H locs hP hS => ?_)
  refine lv_istore (lv' := [(5, .int x3), (4, .int x2), (3, .int x1), (0, .ref (ad 29)), (1, .int p1), (2, .int p2)]) hx hb dX5_nodeReadAt_38 hl (by decide) rfl (fun ls hl => ?_)
  refine lv_iload hx hb dX5_nodeReadAt_40 (lv_at hl 1 rfl) ?_
  refine lv_iconst (v := (nI 2)) hx hb dX5_nodeReadAt_42 (by decide) ?_
  refine lv_icmp_eq (tgt := 52) hx hb dX5_nodeReadAt_43 (by decide) (fun hc => ?_) (fun hc => ?_)
  · have hf := ifp hf hc
    refine lv_iload_n hx hb dX5_nodeReadAt_52 rfl (lv_at hl 4 rfl) ?_
    refine lv_iload hx hb dX5_nodeReadAt_53 (lv_at hl 1 rfl) ?_
    refine lv_iload hx hb dX5_nodeReadAt_55 (lv_at hl 0 rfl) ?_
    obtain ⟨x4, hc57, hf⟩ := zo_k hf
    refine cal_i (rnSN (As := [.int p1, .int x2, .int x3]) (rest := []) ⟨hx, hb, hml, hown, hts⟩ (c_X6_nodeRead hAd  hc57) ⟨va_cnB 3 hts gX5_nodeReadAt_X6_nodeRead_n61 rfl rfl rfl hN.n5_61 (hts (.initialized RX6) (by decide +kernel)) cdS_X6_nodeRead ⟨Nat.le_of_ble_eq_true rfl, Nat.le_of_ble_eq_true rfl⟩, hts (.static yX6_nodeRead) (by decide +kernel), trivial⟩ hP hK hN rfl hl.1 rfl (Nat.le_of_ble_eq_true rfl) dX5_nodeReadAt_57 ⟨Nat.zero_le _, Nat.zero_le _⟩) hS (fun H locs hP hS => ?_)
    refine lv_goto (tgt := 64) hx hb dX5_nodeReadAt_60 (by decide) ?_
    exact fin_i hx hb hr hlk hS hP (Option.some.inj hf) dX5_nodeReadAt_64
  · have hf := ifn hf hc
    refine lv_iload hx hb dX5_nodeReadAt_46 (lv_at hl 1 rfl) ?_
    refine lv_iconst (v := (nI 3)) hx hb dX5_nodeReadAt_48 (by decide) ?_
    refine lv_icmp_ne (tgt := 63) hx hb dX5_nodeReadAt_49 (by decide) (fun hc => ?_) (fun hc => ?_)
    · have hf := ifn hf hc
      refine lv_iconst (v := (-1)) hx hb dX5_nodeReadAt_63 (by decide) ?_
      exact fin_i hx hb hr hlk hS hP (Option.some.inj hf) dX5_nodeReadAt_64
    · have hf := ifp hf hc
      refine lv_iload_n hx hb dX5_nodeReadAt_52 rfl (lv_at hl 4 rfl) ?_
      refine lv_iload hx hb dX5_nodeReadAt_53 (lv_at hl 1 rfl) ?_
      refine lv_iload hx hb dX5_nodeReadAt_55 (lv_at hl 0 rfl) ?_
      obtain ⟨x5, hc57, hf⟩ := zo_k hf
      refine cal_i (rnSN (As := [.int p1, .int x2, .int x3]) (rest := []) ⟨hx, hb, hml, hown, hts⟩ (c_X6_nodeRead hAd  hc57) ⟨va_cnB 3 hts gX5_nodeReadAt_X6_nodeRead_n61 rfl rfl rfl hN.n5_61 (hts (.initialized RX6) (by decide +kernel)) cdS_X6_nodeRead ⟨Nat.le_of_ble_eq_true rfl, Nat.le_of_ble_eq_true rfl⟩, hts (.static yX6_nodeRead) (by decide +kernel), trivial⟩ hP hK hN rfl hl.1 rfl (Nat.le_of_ble_eq_true rfl) dX5_nodeReadAt_57 ⟨Nat.zero_le _, Nat.zero_le _⟩) hS (fun H locs hP hS => ?_)
      refine lv_goto (tgt := 64) hx hb dX5_nodeReadAt_60 (by decide) ?_
      exact fin_i hx hb hr hlk hS hP (Option.some.inj hf) dX5_nodeReadAt_64
set_option maxHeartbeats 4000000 in
set_option maxRecDepth 100000 in
theorem c_X5_canBegin {l : Launch} {D : va_G} {cyI cyJ cyZ : ClassId} {ad : Nat → Nat}  (hAd : AdOK 31 ad)  {S : St} {p1 : Int32} {p2 : Int32} {r : Int32} (hf : m_X5_canBegin S p1 p2 = some r) : Met l yX5_canBegin wsX5_canBegin rl_X5_canBegin (PreW D [(cyI, .int), (cyJ, .long), (cyZ, .boolean)] (cw cyI ad S) [.ref (ad 29), .int p1, .int p2]) (PoI D (cw cyI ad S) (CA ad) r) 0 0 (CA ad) := by
  refine met_go (cc := cX5_canBegin) (maxL := 6) (ret := (some .boolean)) (by decide) rfl (Nat.le_of_ble_eq_true rfl) ?_
  intro p e s m args below meth c ls hx hb hr hml hts hown hlk hP hK hN hl
  have hown : s.vm.findClass RX5 = some m.cls := hown
  have hS : va_S (CA ad) s.heap s.heap [] := va_S.rf
  have hl : lv_has ls 6 [(0, .ref (ad 29)), (1, .int p1), (2, .int p2)] := hl
  have hin5 : ∀ w ∈ wsX50, w ∈ wsX5_canBegin := by decide +kernel
  have hfl14 := hts (.fieldLink RX5 14 "Makewheel$Schedule" "rows" "LMakewheel$Rows;") (by decide +kernel)
  unfold m_X5_canBegin at hf
  refine lv_aload_n hx hb dX5_canBegin_0 rfl (lv_at hl 0 rfl) ?_
  refine va_get (D := D) (ci := 5) (v := .ref (ad (2 * 7))) (C := RX5) (T := TX5) (N := 2) hx hb hts hin5 hown hK hP 29 (cw_o29 (S := S)) rfl 1 (by decide) hfl14 (fun _ h9 => h9) rfl dX5_canBegin_1 ?_
  refine lv_iload_n hx hb dX5_canBegin_4 rfl (lv_at hl 1 rfl) ?_
  refine lv_iconst (v := (nI 0)) hx hb dX5_canBegin_5 (by decide) ?_
  obtain ⟨x1, hc6, hf⟩ := zo_k hf
  refine cal_i (rnV (As := [.int p1, .int (nI 0)]) (rest := []) ⟨hx, hb, hml, hown, hts⟩ (c_X4_get hAd (by decide) hc6) (cwV 2 hts gX5_canBegin_X4_get rfl rfl rfl cdV_X4_get ⟨Nat.le_of_ble_eq_true rfl, Nat.le_of_ble_eq_true rfl⟩) hP hK hN (cw_ro (S := S) (k := 7) (by decide)) rfl rfl hl.1 rfl (Nat.le_of_ble_eq_true rfl) dX5_canBegin_6 ⟨Nat.zero_le _, Nat.zero_le _⟩) hS (fun H locs hP hS => ?_)
  refine lv_iconst (v := (-1)) hx hb dX5_canBegin_9 (by decide) ?_
  refine lv_icmp_eq (tgt := 26) hx hb dX5_canBegin_10 (by decide) (fun hc => ?_) (fun hc => ?_)
  · have hf := ifp hf hc
    refine lv_iconst (v := (nI 0)) hx hb dX5_canBegin_26 (by decide) ?_
    exact fin_z hx hb hr hlk hS hP rfl (Option.some.inj hf) dX5_canBegin_27
  · have hf := ifn hf hc
    refine lv_aload_n hx hb dX5_canBegin_13 rfl (lv_at hl 0 rfl) ?_
    refine va_get (D := D) (ci := 5) (v := .ref (ad (2 * 7))) (C := RX5) (T := TX5) (N := 2) hx hb hts hin5 hown hK hP 29 (cw_o29 (S := S)) rfl 1 (by decide) hfl14 (fun _ h9 => h9) rfl dX5_canBegin_14 ?_
    refine lv_iload_n hx hb dX5_canBegin_17 rfl (lv_at hl 1 rfl) ?_
    refine lv_iconst (v := (nI 1)) hx hb dX5_canBegin_18 (by decide) ?_
    obtain ⟨x2, hc19, hf⟩ := zo_k hf
    refine cal_i (rnV (As := [.int p1, .int (nI 1)]) (rest := []) ⟨hx, hb, hml, hown, hts⟩ (c_X4_get hAd (by decide) hc19) (cwV 2 hts gX5_canBegin_X4_get rfl rfl rfl cdV_X4_get ⟨Nat.le_of_ble_eq_true rfl, Nat.le_of_ble_eq_true rfl⟩) hP hK hN (cw_ro (S := S) (k := 7) (by decide)) rfl rfl hl.1 rfl (Nat.le_of_ble_eq_true rfl) dX5_canBegin_19 ⟨Nat.zero_le _, Nat.zero_le _⟩) hS (fun H locs hP hS => ?_)
    refine lv_iconst (v := (-1)) hx hb dX5_canBegin_22 (by decide) ?_
    refine lv_icmp_eq (tgt := 28) hx hb dX5_canBegin_23 (by decide) (fun hc => ?_) (fun hc => ?_)
    · have hf := ifp hf hc
      refine lv_iconst (v := (nI 0)) hx hb dX5_canBegin_28 (by decide) ?_
      refine lv_istore_n (lv' := [(3, .int (nI 0)), (0, .ref (ad 29)), (1, .int p1), (2, .int p2)]) hx hb dX5_canBegin_29 rfl hl (by decide) rfl (fun ls hl => ?_)
      refine zl1_ind (F := (m_X5_canBegin_B30 S p1 p2)) (R := r) (P := fun x3 => ∀ (H : Heap) (locs : List Loc) (ls : Array Slot), va_P D vwCl (cw cyI ad S) H → va_S (CA ad) s.heap H locs → lv_has ls 6 [(0, .ref (ad 29)), (1, .int p1), (2, .int p2), (3, .int x3)] → W p l e rl_X5_canBegin s m args below meth c H locs 0 0 (MQ below (PoI D (cw cyI ad S) (CA ad) r) args s 0 0 (CA ad)) (F0 m 30 ls [])) (fun rec30 ih30 x3 hf H locs ls hP hS hl => ?_) FU (nI 0) hf _ _ _ hP hS (lv_sub hl [1, 2, 3, 0] rfl)
      unfold m_X5_canBegin_B30 at hf
      refine lv_iload_n hx hb dX5_canBegin_30 rfl (lv_at hl 3 rfl) ?_
      refine lv_iconst (v := (nI 5)) hx hb dX5_canBegin_31 (by decide) ?_
      refine lv_icmp_ge (tgt := 85) hx hb dX5_canBegin_32 (by decide) (fun hc => ?_) (fun hc => ?_)
      · have hf := ifp hf hc
        refine lv_iconst (v := (nI 1)) hx hb dX5_canBegin_85 (by decide) ?_
        exact fin_z hx hb hr hlk hS hP rfl (Option.some.inj hf) dX5_canBegin_86
      · have hf := ifn hf hc
        refine lv_aload_n hx hb dX5_canBegin_35 rfl (lv_at hl 0 rfl) ?_
        refine lv_iload_n hx hb dX5_canBegin_36 rfl (lv_at hl 1 rfl) ?_
        refine lv_iload_n hx hb dX5_canBegin_37 rfl (lv_at hl 3 rfl) ?_
        obtain ⟨x4, hc38, hf⟩ := zo_k hf
        refine cal_i (rnV (As := [.int p1, .int x3]) (rest := []) ⟨hx, hb, hml, hown, hts⟩ (c_X5_nodeReadAt hAd  hc38) (cwV 2 hts gX5_canBegin_X5_nodeReadAt rfl rfl rfl cdV_X5_nodeReadAt ⟨Nat.le_of_ble_eq_true rfl, Nat.le_of_ble_eq_true rfl⟩) hP hK hN (cw_o29 (S := S)) rfl rfl hl.1 rfl (Nat.le_of_ble_eq_true rfl) dX5_canBegin_38 ⟨Nat.zero_le _, Nat.zero_le _⟩) hS (fun H locs hP hS => ?_)
        refine lv_istore (lv' := [(4, .int x4), (0, .ref (ad 29)), (1, .int p1), (2, .int p2), (3, .int x3)]) hx hb dX5_canBegin_41 hl (by decide) rfl (fun ls hl => ?_)
        refine lv_iload hx hb dX5_canBegin_43 (lv_at hl 0 rfl) ?_
        refine lv_iconst (v := (-1)) hx hb dX5_canBegin_45 (by decide) ?_
        refine lv_icmp_ne (tgt := 53) hx hb dX5_canBegin_46 (by decide) (fun hc => ?_) (fun hc => ?_)
        · have hf := ifn hf hc
          refine lv_aload_n hx hb dX5_canBegin_53 rfl (lv_at hl 1 rfl) ?_
          refine va_get (D := D) (ci := 5) (v := .ref (ad (2 * 7))) (C := RX5) (T := TX5) (N := 2) hx hb hts hin5 hown hK hP 29 (cw_o29 (S := S)) rfl 1 (by decide) hfl14 (fun _ h9 => h9) rfl dX5_canBegin_54 ?_
          refine lv_iload hx hb dX5_canBegin_57 (lv_at hl 0 rfl) ?_
          refine lv_iconst (v := (nI 1)) hx hb dX5_canBegin_59 (by decide) ?_
          obtain ⟨x5, hc60, hf⟩ := zo_k hf
          refine cal_i (rnV (As := [.int x4, .int (nI 1)]) (rest := []) ⟨hx, hb, hml, hown, hts⟩ (c_X4_get hAd (by decide) hc60) (cwV 2 hts gX5_canBegin_X4_get rfl rfl rfl cdV_X4_get ⟨Nat.le_of_ble_eq_true rfl, Nat.le_of_ble_eq_true rfl⟩) hP hK hN (cw_ro (S := S) (k := 7) (by decide)) rfl rfl hl.1 rfl (Nat.le_of_ble_eq_true rfl) dX5_canBegin_60 ⟨Nat.zero_le _, Nat.zero_le _⟩) hS (fun H locs hP hS => ?_)
          refine lv_istore (lv' := [(5, .int x5), (4, .int x4), (0, .ref (ad 29)), (1, .int p1), (2, .int p2), (3, .int x3)]) hx hb dX5_canBegin_63 hl (by decide) rfl (fun ls hl => ?_)
          refine lv_iload hx hb dX5_canBegin_65 (lv_at hl 0 rfl) ?_
          refine lv_iconst (v := (-1)) hx hb dX5_canBegin_67 (by decide) ?_
          refine lv_icmp_eq (tgt := 77) hx hb dX5_canBegin_68 (by decide) (fun hc => ?_) (fun hc => ?_)
          · have hf := ifp hf hc
            refine lv_iconst (v := (nI 0)) hx hb dX5_canBegin_77 (by decide) ?_
            exact fin_z hx hb hr hlk hS hP rfl (Option.some.inj hf) dX5_canBegin_78
          · have hf := ifn hf hc
            refine lv_iload hx hb dX5_canBegin_71 (lv_at hl 0 rfl) ?_
            refine lv_iload_n hx hb dX5_canBegin_73 rfl (lv_at hl 4 rfl) ?_
            refine lv_icmp_le (tgt := 79) hx hb dX5_canBegin_74 (by decide) (fun hc => ?_) (fun hc => ?_)
            · have hf := ifp hf hc
              obtain ⟨x6, ex6, hf⟩ := zb_k hf
              refine lv_iinc (v := x6) (lv' := [(3, .int x6), (5, .int x5), (4, .int x4), (0, .ref (ad 29)), (1, .int p1), (2, .int p2)]) hx hb dX5_canBegin_79 hl (k := 5) rfl (by rw [ex6]; rfl) (by decide) rfl (fun ls hl => ?_)
              refine lv_goto (tgt := 30) hx hb dX5_canBegin_82 (by decide) ?_
              exact ih30 x6 hf _ _ _ hP hS (lv_sub hl [3, 4, 5, 0] rfl)
            · have hf := ifn hf hc
              refine lv_iconst (v := (nI 0)) hx hb dX5_canBegin_77 (by decide) ?_
              exact fin_z hx hb hr hlk hS hP rfl (Option.some.inj hf) dX5_canBegin_78
        · have hf := ifp hf hc
          refine lv_iconst (v := (nI 0)) hx hb dX5_canBegin_49 (by decide) ?_
          refine lv_goto (tgt := 63) hx hb dX5_canBegin_50 (by decide) ?_
          refine lv_istore (lv' := [(5, .int (nI 0)), (4, .int x4), (0, .ref (ad 29)), (1, .int p1), (2, .int p2), (3, .int x3)]) hx hb dX5_canBegin_63 hl (by decide) rfl (fun ls hl => ?_)
          refine lv_iload hx hb dX5_canBegin_65 (lv_at hl 0 rfl) ?_
          refine lv_iconst (v := (-1)) hx hb dX5_canBegin_67 (by decide) ?_
          refine lv_icmp_eq (tgt := 77) hx hb dX5_canBegin_68 (by decide) (fun hc => absurd hc (by decide)) (fun _ => ?_)
          refine lv_iload hx hb dX5_canBegin_71 (lv_at hl 0 rfl) ?_
          refine lv_iload_n hx hb dX5_canBegin_73 rfl (lv_at hl 4 rfl) ?_
          refine lv_icmp_le (tgt := 79) hx hb dX5_canBegin_74 (by decide) (fun hc => ?_) (fun hc => ?_)
          · have hf := ifp hf hc
            obtain ⟨x7, ex7, hf⟩ := zb_k hf
            refine lv_iinc (v := x7) (lv' := [(3, .int x7), (5, .int (nI 0)), (4, .int x4), (0, .ref (ad 29)), (1, .int p1), (2, .int p2)]) hx hb dX5_canBegin_79 hl (k := 5) rfl (by rw [ex7]; rfl) (by decide) rfl (fun ls hl => ?_)
            refine lv_goto (tgt := 30) hx hb dX5_canBegin_82 (by decide) ?_
            exact ih30 x7 hf _ _ _ hP hS (lv_sub hl [3, 4, 5, 0] rfl)
          · have hf := ifn hf hc
            refine lv_iconst (v := (nI 0)) hx hb dX5_canBegin_77 (by decide) ?_
            exact fin_z hx hb hr hlk hS hP rfl (Option.some.inj hf) dX5_canBegin_78
    · have hf := ifn hf hc
      refine lv_iconst (v := (nI 0)) hx hb dX5_canBegin_26 (by decide) ?_
      exact fin_z hx hb hr hlk hS hP rfl (Option.some.inj hf) dX5_canBegin_27
set_option maxHeartbeats 4000000 in
set_option maxRecDepth 100000 in
theorem c_X5_bestToBegin {l : Launch} {D : va_G} {cyI cyJ cyZ : ClassId} {ad : Nat → Nat}  (hAd : AdOK 31 ad)  {S : St} {p1 : Int32} {r : Int32} (hf : m_X5_bestToBegin S p1 = some r) : Met l yX5_bestToBegin wsX5_bestToBegin rl_X5_bestToBegin (PreW D [(cyI, .int), (cyJ, .long), (cyZ, .boolean)] (cw cyI ad S) [.ref (ad 29), .int p1]) (PoI D (cw cyI ad S) (CA ad) r) 0 0 (CA ad) := by
  refine met_go (cc := cX5_bestToBegin) (maxL := 5) (ret := (some .int)) (by decide) rfl (Nat.le_of_ble_eq_true rfl) ?_
  intro p e s m args below meth c ls hx hb hr hml hts hown hlk hP hK hN hl
  have hown : s.vm.findClass RX5 = some m.cls := hown
  have hS : va_S (CA ad) s.heap s.heap [] := va_S.rf
  have hl : lv_has ls 5 [(0, .ref (ad 29)), (1, .int p1)] := hl
  have hin5 : ∀ w ∈ wsX50, w ∈ wsX5_bestToBegin := by decide +kernel
  have hfl14 := hts (.fieldLink RX5 14 "Makewheel$Schedule" "rows" "LMakewheel$Rows;") (by decide +kernel)
  unfold m_X5_bestToBegin at hf
  refine lv_iconst (v := (-1)) hx hb dX5_bestToBegin_0 (by decide) ?_
  refine lv_istore_n (lv' := [(2, .int (-1)), (0, .ref (ad 29)), (1, .int p1)]) hx hb dX5_bestToBegin_1 rfl hl (by decide) rfl (fun ls hl => ?_)
  refine lv_iconst (v := (-1)) hx hb dX5_bestToBegin_2 (by decide) ?_
  refine lv_istore_n (lv' := [(3, .int (-1)), (2, .int (-1)), (0, .ref (ad 29)), (1, .int p1)]) hx hb dX5_bestToBegin_3 rfl hl (by decide) rfl (fun ls hl => ?_)
  refine lv_iconst (v := (nI 0)) hx hb dX5_bestToBegin_4 (by decide) ?_
  refine lv_istore (lv' := [(4, .int (nI 0)), (3, .int (-1)), (2, .int (-1)), (0, .ref (ad 29)), (1, .int p1)]) hx hb dX5_bestToBegin_5 hl (by decide) rfl (fun ls hl => ?_)
  refine zl3_ind (F := (m_X5_bestToBegin_B7 S p1)) (R := r) (P := fun x1 x2 x3 => ∀ (H : Heap) (locs : List Loc) (ls : Array Slot), va_P D vwCl (cw cyI ad S) H → va_S (CA ad) s.heap H locs → lv_has ls 5 [(0, .ref (ad 29)), (1, .int p1), (2, .int x1), (3, .int x2), (4, .int x3)] → W p l e rl_X5_bestToBegin s m args below meth c H locs 0 0 (MQ below (PoI D (cw cyI ad S) (CA ad) r) args s 0 0 (CA ad)) (F0 m 7 ls [])) (fun rec7 ih7 x1 x2 x3 hf H locs ls hP hS hl => ?_) FU (-1) (-1) (nI 0) hf _ _ _ hP hS (lv_sub hl [3, 4, 2, 1, 0] rfl)
  unfold m_X5_bestToBegin_B7 at hf
  refine lv_iload hx hb dX5_bestToBegin_7 (lv_at hl 4 rfl) ?_
  refine lv_bipush (v := (nI 32)) hx hb dX5_bestToBegin_9 (by decide) ?_
  refine lv_icmp_ge (tgt := 58) hx hb dX5_bestToBegin_11 (by decide) (fun hc => ?_) (fun hc => ?_)
  · have hf := ifp hf hc
    refine lv_iload_n hx hb dX5_bestToBegin_58 rfl (lv_at hl 2 rfl) ?_
    exact fin_i hx hb hr hlk hS hP (Option.some.inj hf) dX5_bestToBegin_59
  · have hf := ifn hf hc
    refine lv_aload_n hx hb dX5_bestToBegin_14 rfl (lv_at hl 0 rfl) ?_
    refine lv_iload hx hb dX5_bestToBegin_15 (lv_at hl 4 rfl) ?_
    refine lv_iload_n hx hb dX5_bestToBegin_17 rfl (lv_at hl 1 rfl) ?_
    obtain ⟨x4, hc18, hf⟩ := zo_k hf
    refine cal_i (rnV (As := [.int x3, .int p1]) (rest := []) ⟨hx, hb, hml, hown, hts⟩ (c_X5_canBegin hAd  hc18) (cwV 2 hts gX5_bestToBegin_X5_canBegin rfl rfl rfl cdV_X5_canBegin ⟨Nat.le_of_ble_eq_true rfl, Nat.le_of_ble_eq_true rfl⟩) hP hK hN (cw_o29 (S := S)) rfl rfl hl.1 rfl (Nat.le_of_ble_eq_true rfl) dX5_bestToBegin_18 ⟨Nat.zero_le _, Nat.zero_le _⟩) hS (fun H locs hP hS => ?_)
    have hJ52 : ∀ (x5 : Int32) (x6 : Int32), m_X5_bestToBegin_J52 x3 rec7 x5 x6 = some r → ∀ (H : Heap) (locs : List Loc) (ls : Array Slot), va_P D vwCl (cw cyI ad S) H → va_S (CA ad) s.heap H locs → lv_has ls 5 [(0, .ref (ad 29)), (1, .int p1), (4, .int x3), (2, .int x5), (3, .int x6)] → W p l e rl_X5_bestToBegin s m args below meth c H locs 0 0 (MQ below (PoI D (cw cyI ad S) (CA ad) r) args s 0 0 (CA ad)) (F0 m 52 ls []) := by
      intro x5 x6 hf H locs ls hP hS hl
      unfold m_X5_bestToBegin_J52 at hf
      obtain ⟨x7, ex7, hf⟩ := zb_k hf
      refine lv_iinc (v := x7) (lv' := [(4, .int x7), (0, .ref (ad 29)), (1, .int p1), (2, .int x5), (3, .int x6)]) hx hb dX5_bestToBegin_52 hl (k := 2) rfl (by rw [ex7]; rfl) (by decide) rfl (fun ls hl => ?_)
      refine lv_goto (tgt := 7) hx hb dX5_bestToBegin_55 (by decide) ?_
      exact ih7 x5 x6 x7 hf _ _ _ hP hS (lv_sub hl [1, 2, 3, 4, 0] rfl)
    refine lv_if_eq (tgt := 52) hx hb dX5_bestToBegin_21 (by decide) (fun hc => ?_) (fun hc => ?_)
    · have hf := ifp hf hc
      exact hJ52 x1 x2 hf _ _ _ hP hS (lv_sub hl [0, 1, 4, 2, 3] rfl)
    · have hf := ifn hf hc
      refine lv_aload_n hx hb dX5_bestToBegin_24 rfl (lv_at hl 0 rfl) ?_
      refine va_get (D := D) (ci := 5) (v := .ref (ad (2 * 7))) (C := RX5) (T := TX5) (N := 2) hx hb hts hin5 hown hK hP 29 (cw_o29 (S := S)) rfl 1 (by decide) hfl14 (fun _ h9 => h9) rfl dX5_bestToBegin_25 ?_
      refine lv_iload hx hb dX5_bestToBegin_28 (lv_at hl 4 rfl) ?_
      refine lv_iconst (v := (nI 0)) hx hb dX5_bestToBegin_30 (by decide) ?_
      obtain ⟨x8, hc31, hf⟩ := zo_k hf
      refine cal_i (rnV (As := [.int x3, .int (nI 0)]) (rest := []) ⟨hx, hb, hml, hown, hts⟩ (c_X4_get hAd (by decide) hc31) (cwV 2 hts gX5_bestToBegin_X4_get rfl rfl rfl cdV_X4_get ⟨Nat.le_of_ble_eq_true rfl, Nat.le_of_ble_eq_true rfl⟩) hP hK hN (cw_ro (S := S) (k := 7) (by decide)) rfl rfl hl.1 rfl (Nat.le_of_ble_eq_true rfl) dX5_bestToBegin_31 ⟨Nat.zero_le _, Nat.zero_le _⟩) hS (fun H locs hP hS => ?_)
      refine lv_iload_n hx hb dX5_bestToBegin_34 rfl (lv_at hl 3 rfl) ?_
      refine lv_icmp_le (tgt := 52) hx hb dX5_bestToBegin_35 (by decide) (fun hc => ?_) (fun hc => ?_)
      · have hf := ifp hf hc
        exact hJ52 x1 x2 hf _ _ _ hP hS (lv_sub hl [0, 1, 4, 2, 3] rfl)
      · have hf := ifn hf hc
        refine lv_iload hx hb dX5_bestToBegin_38 (lv_at hl 4 rfl) ?_
        refine lv_istore_n (lv' := [(2, .int x3), (0, .ref (ad 29)), (1, .int p1), (3, .int x2), (4, .int x3)]) hx hb dX5_bestToBegin_40 rfl hl (by decide) rfl (fun ls hl => ?_)
        refine lv_aload_n hx hb dX5_bestToBegin_41 rfl (lv_at hl 1 rfl) ?_
        refine va_get (D := D) (ci := 5) (v := .ref (ad (2 * 7))) (C := RX5) (T := TX5) (N := 2) hx hb hts hin5 hown hK hP 29 (cw_o29 (S := S)) rfl 1 (by decide) hfl14 (fun _ h9 => h9) rfl dX5_bestToBegin_42 ?_
        refine lv_iload hx hb dX5_bestToBegin_45 (lv_at hl 4 rfl) ?_
        refine lv_iconst (v := (nI 0)) hx hb dX5_bestToBegin_47 (by decide) ?_
        obtain ⟨x9, hc48, hf⟩ := zo_k hf
        refine cal_i (rnV (As := [.int x3, .int (nI 0)]) (rest := []) ⟨hx, hb, hml, hown, hts⟩ (c_X4_get hAd (by decide) hc48) (cwV 2 hts gX5_bestToBegin_X4_get rfl rfl rfl cdV_X4_get ⟨Nat.le_of_ble_eq_true rfl, Nat.le_of_ble_eq_true rfl⟩) hP hK hN (cw_ro (S := S) (k := 7) (by decide)) rfl rfl hl.1 rfl (Nat.le_of_ble_eq_true rfl) dX5_bestToBegin_48 ⟨Nat.zero_le _, Nat.zero_le _⟩) hS (fun H locs hP hS => ?_)
        refine lv_istore_n (lv' := [(3, .int x9), (2, .int x3), (0, .ref (ad 29)), (1, .int p1), (4, .int x3)]) hx hb dX5_bestToBegin_51 rfl hl (by decide) rfl (fun ls hl => ?_)
        exact hJ52 x3 x9 hf _ _ _ hP hS (lv_sub hl [2, 3, 4, 1, 0] rfl)
set_option maxHeartbeats 4000000 in
set_option maxRecDepth 100000 in
theorem c_X5_timeOf {l : Launch} {D : va_G} {cyI cyJ cyZ : ClassId} {ad : Nat → Nat}  (hAd : AdOK 31 ad)  {S : St} {p1 : Int32} {r : Int32} (hf : m_X5_timeOf S p1 = some r) : Met l yX5_timeOf wsX5_timeOf rl_X5_timeOf (PreW D [(cyI, .int), (cyJ, .long), (cyZ, .boolean)] (cw cyI ad S) [.ref (ad 29), .int p1]) (PoI D (cw cyI ad S) (CA ad) r) 0 0 (CA ad) := by
  refine met_go (cc := cX5_timeOf) (maxL := 2) (ret := (some .int)) (by decide) rfl (Nat.le_of_ble_eq_true rfl) ?_
  intro p e s m args below meth c ls hx hb hr hml hts hown hlk hP hK hN hl
  have hown : s.vm.findClass RX5 = some m.cls := hown
  have hS : va_S (CA ad) s.heap s.heap [] := va_S.rf
  have hl : lv_has ls 2 [(0, .ref (ad 29)), (1, .int p1)] := hl
  have hin2 : ∀ w ∈ wsX20, w ∈ wsX5_timeOf := by decide +kernel
  have hin5 : ∀ w ∈ wsX50, w ∈ wsX5_timeOf := by decide +kernel
  have hfl20 := hts (.fieldLink RX5 20 "Makewheel$Schedule" "plainly" "LMakewheel$Looker;") (by decide +kernel)
  unfold m_X5_timeOf at hf
  refine lv_aload_n hx hb dX5_timeOf_0 rfl (lv_at hl 0 rfl) ?_
  refine va_get (D := D) (ci := 5) (v := .ref (ad (26 + 1))) (C := RX5) (T := TX5) (N := 2) hx hb hts hin5 hown hK hP 29 (cw_o29 (S := S)) rfl 0 (by decide) hfl20 (fun _ h9 => h9) rfl dX5_timeOf_1 ?_
  refine va_getN (D := D) (ci := 2) (v := .ref (ad (2 * (9 + 2 * 1)))) (C := RX2) (T := TX2) (N := 10) hx hb hts hin2 hown hK hP (26 + 1) (cw_lo (S := S) (b := 1) (by decide)) rfl 7 (by decide) (va_Nw.use rfl hN.n5_56) (fun _ h9 => h9) rfl dX5_timeOf_4 ?_
  refine lv_iload_n hx hb dX5_timeOf_7 rfl (lv_at hl 1 rfl) ?_
  refine lv_iconst (v := (nI 0)) hx hb dX5_timeOf_8 (by decide) ?_
  obtain ⟨x1, hc9, hf⟩ := zo_k hf
  refine cal_i (rnV (As := [.int p1, .int (nI 0)]) (rest := []) ⟨hx, hb, hml, hown, hts⟩ (c_X4_get hAd (by omega) hc9) (cwV 2 hts gX5_timeOf_X4_get rfl rfl rfl cdV_X4_get ⟨Nat.le_of_ble_eq_true rfl, Nat.le_of_ble_eq_true rfl⟩) hP hK hN (cw_ro (S := S) (k := (9 + 2 * 1)) (by omega)) rfl rfl hl.1 rfl (Nat.le_of_ble_eq_true rfl) dX5_timeOf_9 ⟨Nat.zero_le _, Nat.zero_le _⟩) hS (fun H locs hP hS => ?_)
  exact fin_i hx hb hr hlk hS hP (Option.some.inj hf) dX5_timeOf_12
set_option maxHeartbeats 4000000 in
set_option maxRecDepth 100000 in
theorem c_X5_beginAt {l : Launch} {D : va_G} {cyI cyJ cyZ : ClassId} {ad : Nat → Nat}  (hAd : AdOK 31 ad)  {S : St} {p1 : Int32} {p2 : Int32} {SZ : St} (hf : m_X5_beginAt S p1 p2 = some SZ) : Met l yX5_beginAt wsX5_beginAt rl_X5_beginAt (PreW D [(cyI, .int), (cyJ, .long), (cyZ, .boolean)] (cw cyI ad S) [.ref (ad 29), .int p1, .int p2]) (PoV D (cw cyI ad SZ) (CA ad)) 0 0 (CA ad) := by
  refine met_go (cc := cX5_beginAt) (maxL := 5) (ret := none) (by decide) rfl (Nat.le_of_ble_eq_true rfl) ?_
  intro p e s m args below meth c ls hx hb hr hml hts hown hlk hP hK hN hl
  have hown : s.vm.findClass RX5 = some m.cls := hown
  have hS : va_S (CA ad) s.heap s.heap [] := va_S.rf
  have hl : lv_has ls 5 [(0, .ref (ad 29)), (1, .int p1), (2, .int p2)] := hl
  have hin5 : ∀ w ∈ wsX50, w ∈ wsX5_beginAt := by decide +kernel
  have hfl14 := hts (.fieldLink RX5 14 "Makewheel$Schedule" "rows" "LMakewheel$Rows;") (by decide +kernel)
  unfold m_X5_beginAt at hf
  refine lv_iload_n hx hb dX5_beginAt_0 rfl (lv_at hl 2 rfl) ?_
  refine lv_aload_n hx hb dX5_beginAt_1 rfl (lv_at hl 0 rfl) ?_
  refine lv_iload_n hx hb dX5_beginAt_2 rfl (lv_at hl 1 rfl) ?_
  obtain ⟨x1, hc3, hf⟩ := zo_k hf
  refine cal_i (rnV (As := [.int p1]) (rest := [.int p2]) ⟨hx, hb, hml, hown, hts⟩ (c_X5_howManyRunning hAd  hc3) (cwV 1 hts gX5_beginAt_X5_howManyRunning rfl rfl rfl cdV_X5_howManyRunning ⟨Nat.le_of_ble_eq_true rfl, Nat.le_of_ble_eq_true rfl⟩) hP hK hN (cw_o29 (S := S)) rfl rfl hl.1 rfl (Nat.le_of_ble_eq_true rfl) dX5_beginAt_3 ⟨Nat.zero_le _, Nat.zero_le _⟩) hS (fun H locs hP hS => ?_)
  refine lv_isub hx hb dX5_beginAt_6 ?_
  refine lv_topi (fun x2 ex2 => ?_)
  have hf := zb_x hf ex2
  refine lv_istore_n (lv' := [(3, .int x2), (0, .ref (ad 29)), (1, .int p1), (2, .int p2)]) hx hb dX5_beginAt_7 rfl hl (by decide) rfl (fun ls hl => ?_)
  refine zl2_ind (F := (m_X5_beginAt_B8 p1)) (R := SZ) (P := fun S3 x4 => ∀ (H : Heap) (locs : List Loc) (ls : Array Slot), va_P D vwCl (cw cyI ad S3) H → va_S (CA ad) s.heap H locs → lv_has ls 5 [(0, .ref (ad 29)), (1, .int p1), (3, .int x4)] → W p l e rl_X5_beginAt s m args below meth c H locs 0 0 (MQ below (PoV D (cw cyI ad SZ) (CA ad)) args s 0 0 (CA ad)) (F0 m 8 ls [])) (fun rec8 ih8 S3 x4 hf H locs ls hP hS hl => ?_) FU S x2 hf _ _ _ hP hS (lv_sub hl [1, 2, 0] rfl)
  unfold m_X5_beginAt_B8 at hf
  refine lv_iload_n hx hb dX5_beginAt_8 rfl (lv_at hl 2 rfl) ?_
  refine lv_if_le (tgt := 49) hx hb dX5_beginAt_9 (by decide) (fun hc => ?_) (fun hc => ?_)
  · have hf := ifp hf hc
    cases Option.some.inj hf
    exact fin_v hx hb hr hlk hS hP dX5_beginAt_49
  · have hf := ifn hf hc
    refine lv_aload_n hx hb dX5_beginAt_12 rfl (lv_at hl 0 rfl) ?_
    refine lv_iload_n hx hb dX5_beginAt_13 rfl (lv_at hl 1 rfl) ?_
    obtain ⟨x5, hc14, hf⟩ := zo_k hf
    refine cal_i (rnV (As := [.int p1]) (rest := []) ⟨hx, hb, hml, hown, hts⟩ (c_X5_bestToBegin hAd  hc14) (cwV 1 hts gX5_beginAt_X5_bestToBegin rfl rfl rfl cdV_X5_bestToBegin ⟨Nat.le_of_ble_eq_true rfl, Nat.le_of_ble_eq_true rfl⟩) hP hK hN (cw_o29 (S := S3)) rfl rfl hl.1 rfl (Nat.le_of_ble_eq_true rfl) dX5_beginAt_14 ⟨Nat.zero_le _, Nat.zero_le _⟩) hS (fun H locs hP hS => ?_)
    refine lv_istore (lv' := [(4, .int x5), (0, .ref (ad 29)), (1, .int p1), (3, .int x4)]) hx hb dX5_beginAt_17 hl (by decide) rfl (fun ls hl => ?_)
    refine lv_iload hx hb dX5_beginAt_19 (lv_at hl 0 rfl) ?_
    refine lv_iconst (v := (-1)) hx hb dX5_beginAt_21 (by decide) ?_
    refine lv_icmp_eq (tgt := 43) hx hb dX5_beginAt_22 (by decide) (fun hc => ?_) (fun hc => ?_)
    · have hf := ifp hf hc
      obtain ⟨x6, ex6, hf⟩ := zb_k hf
      refine lv_iinc (v := x6) (lv' := [(3, .int x6), (4, .int x5), (0, .ref (ad 29)), (1, .int p1)]) hx hb dX5_beginAt_43 hl (k := 3) rfl (by rw [ex6]; rfl) (by decide) rfl (fun ls hl => ?_)
      refine lv_goto (tgt := 8) hx hb dX5_beginAt_46 (by decide) ?_
      exact ih8 S3 x6 hf _ _ _ hP hS (lv_sub hl [2, 3, 0] rfl)
    · have hf := ifn hf hc
      refine lv_aload_n hx hb dX5_beginAt_25 rfl (lv_at hl 1 rfl) ?_
      refine va_get (D := D) (ci := 5) (v := .ref (ad (2 * 7))) (C := RX5) (T := TX5) (N := 2) hx hb hts hin5 hown hK hP 29 (cw_o29 (S := S3)) rfl 1 (by decide) hfl14 (fun _ h9 => h9) rfl dX5_beginAt_26 ?_
      refine lv_iload hx hb dX5_beginAt_29 (lv_at hl 0 rfl) ?_
      refine lv_iconst (v := (nI 1)) hx hb dX5_beginAt_31 (by decide) ?_
      refine lv_iload_n hx hb dX5_beginAt_32 rfl (lv_at hl 2 rfl) ?_
      refine lv_aload_n hx hb dX5_beginAt_33 rfl (lv_at hl 1 rfl) ?_
      refine lv_iload hx hb dX5_beginAt_34 (lv_at hl 0 rfl) ?_
      obtain ⟨x7, hc36, hf⟩ := zo_k hf
      refine cal_i (rnV (As := [.int x5]) (rest := [.int p1, .int (nI 1), .int x5, .ref (ad (2 * 7))]) ⟨hx, hb, hml, hown, hts⟩ (c_X5_timeOf hAd  hc36) (cwV 1 hts gX5_beginAt_X5_timeOf rfl rfl rfl cdV_X5_timeOf ⟨Nat.le_of_ble_eq_true rfl, Nat.le_of_ble_eq_true rfl⟩) hP hK hN (cw_o29 (S := S3)) rfl rfl hl.1 rfl (Nat.le_of_ble_eq_true rfl) dX5_beginAt_36 ⟨Nat.zero_le _, Nat.zero_le _⟩) hS (fun H locs hP hS => ?_)
      refine lv_iadd hx hb dX5_beginAt_39 ?_
      obtain ⟨S8, hc40, hf⟩ := zo_k hf
      refine cal_v (rnV (As := [.int x5, .int (nI 1), .int (p1 + x7)]) (rest := []) ⟨hx, hb, hml, hown, hts⟩ (c_X4_set hAd (by decide) hc40) (cwV 3 hts gX5_beginAt_X4_set rfl rfl rfl cdV_X4_set ⟨Nat.le_of_ble_eq_true rfl, Nat.le_of_ble_eq_true rfl⟩) hP hK hN (cw_ro (S := S3) (k := 7) (by decide)) rfl rfl hl.1 rfl (Nat.le_of_ble_eq_true rfl) dX5_beginAt_40 ⟨Nat.zero_le _, Nat.zero_le _⟩) hS (fun H locs hP hS => ?_)
      obtain ⟨x9, ex9, hf⟩ := zb_k hf
      refine lv_iinc (v := x9) (lv' := [(3, .int x9), (4, .int x5), (0, .ref (ad 29)), (1, .int p1)]) hx hb dX5_beginAt_43 hl (k := 3) rfl (by rw [ex9]; rfl) (by decide) rfl (fun ls hl => ?_)
      refine lv_goto (tgt := 8) hx hb dX5_beginAt_46 (by decide) ?_
      exact ih8 S8 x9 hf _ _ _ hP hS (lv_sub hl [2, 3, 0] rfl)
set_option maxHeartbeats 4000000 in
set_option maxRecDepth 100000 in
theorem c_X5_makesWaysLonger {l : Launch} {D : va_G} {cyI cyJ cyZ : ClassId} {ad : Nat → Nat}  (hAd : AdOK 31 ad)  {S : St} {p1 : Int32} {r : Int32} {SZ : St} (hf : m_X5_makesWaysLonger S p1 = some (r, SZ)) : Met l yX5_makesWaysLonger wsX5_makesWaysLonger rl_X5_makesWaysLonger (PreW D [(cyI, .int), (cyJ, .long), (cyZ, .boolean)] (cw cyI ad S) [.ref (ad 29), .int p1]) (PoI D (cw cyI ad SZ) (CA ad) r) 0 0 (CA ad) := by
  refine met_go (cc := cX5_makesWaysLonger) (maxL := 6) (ret := (some .boolean)) (by decide) rfl (Nat.le_of_ble_eq_true rfl) ?_
  intro p e s m args below meth c ls hx hb hr hml hts hown hlk hP hK hN hl
  have hown : s.vm.findClass RX5 = some m.cls := hown
  have hS : va_S (CA ad) s.heap s.heap [] := va_S.rf
  have hl : lv_has ls 6 [(0, .ref (ad 29)), (1, .int p1)] := hl
  have hin5 : ∀ w ∈ wsX50, w ∈ wsX5_makesWaysLonger := by decide +kernel
  have hfl14 := hts (.fieldLink RX5 14 "Makewheel$Schedule" "rows" "LMakewheel$Rows;") (by decide +kernel)
  unfold m_X5_makesWaysLonger at hf
  refine lv_iconst (v := (nI 0)) hx hb dX5_makesWaysLonger_0 (by decide) ?_
  refine lv_istore_n (lv' := [(2, .int (nI 0)), (0, .ref (ad 29)), (1, .int p1)]) hx hb dX5_makesWaysLonger_1 rfl hl (by decide) rfl (fun ls hl => ?_)
  refine lv_iconst (v := (nI 0)) hx hb dX5_makesWaysLonger_2 (by decide) ?_
  refine lv_istore_n (lv' := [(3, .int (nI 0)), (2, .int (nI 0)), (0, .ref (ad 29)), (1, .int p1)]) hx hb dX5_makesWaysLonger_3 rfl hl (by decide) rfl (fun ls hl => ?_)
  refine zl3_ind (F := (m_X5_makesWaysLonger_B4 p1)) (R := (r, SZ)) (P := fun S1 x2 x3 => ∀ (H : Heap) (locs : List Loc) (ls : Array Slot), va_P D vwCl (cw cyI ad S1) H → va_S (CA ad) s.heap H locs → lv_has ls 6 [(0, .ref (ad 29)), (1, .int p1), (2, .int x2), (3, .int x3)] → W p l e rl_X5_makesWaysLonger s m args below meth c H locs 0 0 (MQ below (PoI D (cw cyI ad SZ) (CA ad) r) args s 0 0 (CA ad)) (F0 m 4 ls [])) (fun rec4 ih4 S1 x2 x3 hf H locs ls hP hS hl => ?_) FU S (nI 0) (nI 0) hf _ _ _ hP hS (lv_sub hl [2, 3, 1, 0] rfl)
  unfold m_X5_makesWaysLonger_B4 at hf
  refine lv_iload_n hx hb dX5_makesWaysLonger_4 rfl (lv_at hl 3 rfl) ?_
  refine lv_iconst (v := (nI 5)) hx hb dX5_makesWaysLonger_5 (by decide) ?_
  refine lv_icmp_ge (tgt := 86) hx hb dX5_makesWaysLonger_6 (by decide) (fun hc => ?_) (fun hc => ?_)
  · have hf := ifp hf hc
    refine lv_iload_n hx hb dX5_makesWaysLonger_86 rfl (lv_at hl 2 rfl) ?_
    obtain ⟨hbz, hf⟩ := zg_k hf
    cases Option.some.inj hf
    exact fin_z hx hb hr hlk hS hP (bz_n hbz) rfl dX5_makesWaysLonger_87
  · have hf := ifn hf hc
    refine lv_aload_n hx hb dX5_makesWaysLonger_9 rfl (lv_at hl 0 rfl) ?_
    refine lv_iload_n hx hb dX5_makesWaysLonger_10 rfl (lv_at hl 1 rfl) ?_
    refine lv_iload_n hx hb dX5_makesWaysLonger_11 rfl (lv_at hl 3 rfl) ?_
    obtain ⟨x4, hc12, hf⟩ := zo_k hf
    refine cal_i (rnV (As := [.int p1, .int x3]) (rest := []) ⟨hx, hb, hml, hown, hts⟩ (c_X5_nodeReadAt hAd  hc12) (cwV 2 hts gX5_makesWaysLonger_X5_nodeReadAt rfl rfl rfl cdV_X5_nodeReadAt ⟨Nat.le_of_ble_eq_true rfl, Nat.le_of_ble_eq_true rfl⟩) hP hK hN (cw_o29 (S := S1)) rfl rfl hl.1 rfl (Nat.le_of_ble_eq_true rfl) dX5_makesWaysLonger_12 ⟨Nat.zero_le _, Nat.zero_le _⟩) hS (fun H locs hP hS => ?_)
    refine lv_istore (lv' := [(4, .int x4), (0, .ref (ad 29)), (1, .int p1), (2, .int x2), (3, .int x3)]) hx hb dX5_makesWaysLonger_15 hl (by decide) rfl (fun ls hl => ?_)
    refine lv_iload hx hb dX5_makesWaysLonger_17 (lv_at hl 0 rfl) ?_
    refine lv_iconst (v := (-1)) hx hb dX5_makesWaysLonger_19 (by decide) ?_
    have hJ43 : ∀ (t5 : Int32), m_X5_makesWaysLonger_J43 x4 x3 rec4 S1 x2 t5 = some (r, SZ) → ∀ (H : Heap) (locs : List Loc) (ls : Array Slot), va_P D vwCl (cw cyI ad S1) H → va_S (CA ad) s.heap H locs → lv_has ls 6 [(4, .int x4), (0, .ref (ad 29)), (1, .int p1), (2, .int x2), (3, .int x3)] → W p l e rl_X5_makesWaysLonger s m args below meth c H locs 0 0 (MQ below (PoI D (cw cyI ad SZ) (CA ad) r) args s 0 0 (CA ad)) (F0 m 43 ls [.int t5]) := by
      intro t5 hf H locs ls hP hS hl
      unfold m_X5_makesWaysLonger_J43 at hf
      refine lv_istore (lv' := [(5, .int t5), (4, .int x4), (0, .ref (ad 29)), (1, .int p1), (2, .int x2), (3, .int x3)]) hx hb dX5_makesWaysLonger_43 hl (by decide) rfl (fun ls hl => ?_)
      refine lv_iload hx hb dX5_makesWaysLonger_45 (lv_at hl 1 rfl) ?_
      refine lv_iconst (v := (-1)) hx hb dX5_makesWaysLonger_47 (by decide) ?_
      have hJ80 : ∀ (S7 : St) (x6 : Int32), m_X5_makesWaysLonger_J80 x3 rec4 S7 x6 = some (r, SZ) → ∀ (H : Heap) (locs : List Loc) (ls : Array Slot), va_P D vwCl (cw cyI ad S7) H → va_S (CA ad) s.heap H locs → lv_has ls 6 [(0, .ref (ad 29)), (1, .int p1), (3, .int x3), (2, .int x6)] → W p l e rl_X5_makesWaysLonger s m args below meth c H locs 0 0 (MQ below (PoI D (cw cyI ad SZ) (CA ad) r) args s 0 0 (CA ad)) (F0 m 80 ls []) := by
        intro S7 x6 hf H locs ls hP hS hl
        unfold m_X5_makesWaysLonger_J80 at hf
        obtain ⟨x8, ex8, hf⟩ := zb_k hf
        refine lv_iinc (v := x8) (lv' := [(3, .int x8), (0, .ref (ad 29)), (1, .int p1), (2, .int x6)]) hx hb dX5_makesWaysLonger_80 hl (k := 2) rfl (by rw [ex8]; rfl) (by decide) rfl (fun ls hl => ?_)
        refine lv_goto (tgt := 4) hx hb dX5_makesWaysLonger_83 (by decide) ?_
        exact ih4 S7 x6 x8 hf _ _ _ hP hS (lv_sub hl [1, 2, 3, 0] rfl)
      refine lv_icmp_eq (tgt := 80) hx hb dX5_makesWaysLonger_48 (by decide) (fun hc => ?_) (fun hc => ?_)
      · have hf := ifp hf hc
        exact hJ80 S1 x2 hf _ _ _ hP hS (lv_sub hl [2, 3, 5, 4] rfl)
      · have hf := ifn hf hc
        refine lv_iload hx hb dX5_makesWaysLonger_51 (lv_at hl 0 rfl) ?_
        refine lv_aload_n hx hb dX5_makesWaysLonger_53 rfl (lv_at hl 2 rfl) ?_
        refine va_get (D := D) (ci := 5) (v := .ref (ad (2 * 7))) (C := RX5) (T := TX5) (N := 2) hx hb hts hin5 hown hK hP 29 (cw_o29 (S := S1)) rfl 1 (by decide) hfl14 (fun _ h9 => h9) rfl dX5_makesWaysLonger_54 ?_
        refine lv_iload hx hb dX5_makesWaysLonger_57 (lv_at hl 1 rfl) ?_
        refine lv_iconst (v := (nI 0)) hx hb dX5_makesWaysLonger_59 (by decide) ?_
        obtain ⟨x9, hc60, hf⟩ := zo_k hf
        refine cal_i (rnV (As := [.int x4, .int (nI 0)]) (rest := [.int t5]) ⟨hx, hb, hml, hown, hts⟩ (c_X4_get hAd (by decide) hc60) (cwV 2 hts gX5_makesWaysLonger_X4_get rfl rfl rfl cdV_X4_get ⟨Nat.le_of_ble_eq_true rfl, Nat.le_of_ble_eq_true rfl⟩) hP hK hN (cw_ro (S := S1) (k := 7) (by decide)) rfl rfl hl.1 rfl (Nat.le_of_ble_eq_true rfl) dX5_makesWaysLonger_60 ⟨Nat.zero_le _, Nat.zero_le _⟩) hS (fun H locs hP hS => ?_)
        refine lv_icmp_le (tgt := 80) hx hb dX5_makesWaysLonger_63 (by decide) (fun hc => ?_) (fun hc => ?_)
        · have hf := ifp hf hc
          exact hJ80 S1 x2 hf _ _ _ hP hS (lv_sub hl [2, 3, 5, 4] rfl)
        · have hf := ifn hf hc
          refine lv_aload_n hx hb dX5_makesWaysLonger_66 rfl (lv_at hl 2 rfl) ?_
          refine va_get (D := D) (ci := 5) (v := .ref (ad (2 * 7))) (C := RX5) (T := TX5) (N := 2) hx hb hts hin5 hown hK hP 29 (cw_o29 (S := S1)) rfl 1 (by decide) hfl14 (fun _ h9 => h9) rfl dX5_makesWaysLonger_67 ?_
          refine lv_iload hx hb dX5_makesWaysLonger_70 (lv_at hl 1 rfl) ?_
          refine lv_iconst (v := (nI 0)) hx hb dX5_makesWaysLonger_72 (by decide) ?_
          refine lv_iload hx hb dX5_makesWaysLonger_73 (lv_at hl 0 rfl) ?_
          obtain ⟨S10, hc75, hf⟩ := zo_k hf
          refine cal_v (rnV (As := [.int x4, .int (nI 0), .int t5]) (rest := []) ⟨hx, hb, hml, hown, hts⟩ (c_X4_set hAd (by decide) hc75) (cwV 3 hts gX5_makesWaysLonger_X4_set rfl rfl rfl cdV_X4_set ⟨Nat.le_of_ble_eq_true rfl, Nat.le_of_ble_eq_true rfl⟩) hP hK hN (cw_ro (S := S1) (k := 7) (by decide)) rfl rfl hl.1 rfl (Nat.le_of_ble_eq_true rfl) dX5_makesWaysLonger_75 ⟨Nat.zero_le _, Nat.zero_le _⟩) hS (fun H locs hP hS => ?_)
          refine lv_iconst (v := (nI 1)) hx hb dX5_makesWaysLonger_78 (by decide) ?_
          refine lv_istore_n (lv' := [(2, .int (nI 1)), (5, .int t5), (4, .int x4), (0, .ref (ad 29)), (1, .int p1), (3, .int x3)]) hx hb dX5_makesWaysLonger_79 rfl hl (by decide) rfl (fun ls hl => ?_)
          exact hJ80 S10 (nI 1) hf _ _ _ hP hS (lv_sub hl [3, 4, 5, 0] rfl)
    refine lv_icmp_ne (tgt := 27) hx hb dX5_makesWaysLonger_20 (by decide) (fun hc => ?_) (fun hc => ?_)
    · have hf := ifn hf hc
      refine lv_aload_n hx hb dX5_makesWaysLonger_27 rfl (lv_at hl 1 rfl) ?_
      refine va_get (D := D) (ci := 5) (v := .ref (ad (2 * 7))) (C := RX5) (T := TX5) (N := 2) hx hb hts hin5 hown hK hP 29 (cw_o29 (S := S1)) rfl 1 (by decide) hfl14 (fun _ h9 => h9) rfl dX5_makesWaysLonger_28 ?_
      refine lv_iload_n hx hb dX5_makesWaysLonger_31 rfl (lv_at hl 2 rfl) ?_
      refine lv_iconst (v := (nI 0)) hx hb dX5_makesWaysLonger_32 (by decide) ?_
      obtain ⟨x11, hc33, hf⟩ := zo_k hf
      refine cal_i (rnV (As := [.int p1, .int (nI 0)]) (rest := []) ⟨hx, hb, hml, hown, hts⟩ (c_X4_get hAd (by decide) hc33) (cwV 2 hts gX5_makesWaysLonger_X4_get rfl rfl rfl cdV_X4_get ⟨Nat.le_of_ble_eq_true rfl, Nat.le_of_ble_eq_true rfl⟩) hP hK hN (cw_ro (S := S1) (k := 7) (by decide)) rfl rfl hl.1 rfl (Nat.le_of_ble_eq_true rfl) dX5_makesWaysLonger_33 ⟨Nat.zero_le _, Nat.zero_le _⟩) hS (fun H locs hP hS => ?_)
      refine lv_aload_n hx hb dX5_makesWaysLonger_36 rfl (lv_at hl 1 rfl) ?_
      refine lv_iload hx hb dX5_makesWaysLonger_37 (lv_at hl 0 rfl) ?_
      obtain ⟨x12, hc39, hf⟩ := zo_k hf
      refine cal_i (rnV (As := [.int x4]) (rest := [.int x11]) ⟨hx, hb, hml, hown, hts⟩ (c_X5_timeOf hAd  hc39) (cwV 1 hts gX5_makesWaysLonger_X5_timeOf rfl rfl rfl cdV_X5_timeOf ⟨Nat.le_of_ble_eq_true rfl, Nat.le_of_ble_eq_true rfl⟩) hP hK hN (cw_o29 (S := S1)) rfl rfl hl.1 rfl (Nat.le_of_ble_eq_true rfl) dX5_makesWaysLonger_39 ⟨Nat.zero_le _, Nat.zero_le _⟩) hS (fun H locs hP hS => ?_)
      refine lv_iadd hx hb dX5_makesWaysLonger_42 ?_
      exact hJ43 (x11 + x12) hf _ _ _ hP hS (lv_sub hl [0, 1, 2, 3, 4] rfl)
    · have hf := ifp hf hc
      refine lv_iconst (v := (-1)) hx hb dX5_makesWaysLonger_23 (by decide) ?_
      refine lv_goto (tgt := 43) hx hb dX5_makesWaysLonger_24 (by decide) ?_
      exact hJ43 (-1) hf _ _ _ hP hS (lv_sub hl [0, 1, 2, 3, 4] rfl)
set_option maxHeartbeats 4000000 in
set_option maxRecDepth 100000 in
theorem c_X5_measureWaysUp {l : Launch} {D : va_G} {cyI cyJ cyZ : ClassId} {ad : Nat → Nat}  (hAd : AdOK 31 ad)  {S : St} {p1 : Int32} {SZ : St} (hf : m_X5_measureWaysUp S p1 = some SZ) : Met l yX5_measureWaysUp wsX5_measureWaysUp rl_X5_measureWaysUp (PreW D [(cyI, .int), (cyJ, .long), (cyZ, .boolean)] (cw cyI ad S) [.ref (ad 29), .int p1]) (PoV D (cw cyI ad SZ) (CA ad)) 0 0 (CA ad) := by
  refine met_go (cc := cX5_measureWaysUp) (maxL := 5) (ret := none) (by decide) rfl (Nat.le_of_ble_eq_true rfl) ?_
  intro p e s m args below meth c ls hx hb hr hml hts hown hlk hP hK hN hl
  have hown : s.vm.findClass RX5 = some m.cls := hown
  have hS : va_S (CA ad) s.heap s.heap [] := va_S.rf
  have hl : lv_has ls 5 [(0, .ref (ad 29)), (1, .int p1)] := hl
  have hin5 : ∀ w ∈ wsX50, w ∈ wsX5_measureWaysUp := by decide +kernel
  have hfl14 := hts (.fieldLink RX5 14 "Makewheel$Schedule" "rows" "LMakewheel$Rows;") (by decide +kernel)
  unfold m_X5_measureWaysUp at hf
  refine lv_iconst (v := (nI 0)) hx hb dX5_measureWaysUp_0 (by decide) ?_
  refine lv_istore_n (lv' := [(2, .int (nI 0)), (0, .ref (ad 29)), (1, .int p1)]) hx hb dX5_measureWaysUp_1 rfl hl (by decide) rfl (fun ls hl => ?_)
  refine zl2_ind (F := (m_X5_measureWaysUp_B2 p1)) (R := SZ) (P := fun S1 x2 => ∀ (H : Heap) (locs : List Loc) (ls : Array Slot), va_P D vwCl (cw cyI ad S1) H → va_S (CA ad) s.heap H locs → lv_has ls 5 [(0, .ref (ad 29)), (1, .int p1), (2, .int x2)] → W p l e rl_X5_measureWaysUp s m args below meth c H locs 0 0 (MQ below (PoV D (cw cyI ad SZ) (CA ad)) args s 0 0 (CA ad)) (F0 m 2 ls [])) (fun rec2 ih2 S1 x2 hf H locs ls hP hS hl => ?_) FU S (nI 0) hf _ _ _ hP hS (lv_sub hl [1, 2, 0] rfl)
  unfold m_X5_measureWaysUp_B2 at hf
  refine lv_iload_n hx hb dX5_measureWaysUp_2 rfl (lv_at hl 2 rfl) ?_
  refine lv_bipush (v := (nI 32)) hx hb dX5_measureWaysUp_3 (by decide) ?_
  refine lv_icmp_ge (tgt := 22) hx hb dX5_measureWaysUp_5 (by decide) (fun hc => ?_) (fun hc => ?_)
  · have hf := ifp hf hc
    refine lv_aload_n hx hb dX5_measureWaysUp_22 rfl (lv_at hl 0 rfl) ?_
    refine va_get (D := D) (ci := 5) (v := .ref (ad (2 * 7))) (C := RX5) (T := TX5) (N := 2) hx hb hts hin5 hown hK hP 29 (cw_o29 (S := S1)) rfl 1 (by decide) hfl14 (fun _ h9 => h9) rfl dX5_measureWaysUp_23 ?_
    refine lv_iload_n hx hb dX5_measureWaysUp_26 rfl (lv_at hl 1 rfl) ?_
    refine lv_iconst (v := (nI 0)) hx hb dX5_measureWaysUp_27 (by decide) ?_
    refine lv_aload_n hx hb dX5_measureWaysUp_28 rfl (lv_at hl 0 rfl) ?_
    refine lv_iload_n hx hb dX5_measureWaysUp_29 rfl (lv_at hl 1 rfl) ?_
    obtain ⟨x3, hc30, hf⟩ := zo_k hf
    refine cal_i (rnV (As := [.int p1]) (rest := [.int (nI 0), .int p1, .ref (ad (2 * 7))]) ⟨hx, hb, hml, hown, hts⟩ (c_X5_timeOf hAd  hc30) (cwV 1 hts gX5_measureWaysUp_X5_timeOf rfl rfl rfl cdV_X5_timeOf ⟨Nat.le_of_ble_eq_true rfl, Nat.le_of_ble_eq_true rfl⟩) hP hK hN (cw_o29 (S := S1)) rfl rfl hl.1 rfl (Nat.le_of_ble_eq_true rfl) dX5_measureWaysUp_30 ⟨Nat.zero_le _, Nat.zero_le _⟩) hS (fun H locs hP hS => ?_)
    obtain ⟨S4, hc33, hf⟩ := zo_k hf
    refine cal_v (rnV (As := [.int p1, .int (nI 0), .int x3]) (rest := []) ⟨hx, hb, hml, hown, hts⟩ (c_X4_set hAd (by decide) hc33) (cwV 3 hts gX5_measureWaysUp_X4_set rfl rfl rfl cdV_X4_set ⟨Nat.le_of_ble_eq_true rfl, Nat.le_of_ble_eq_true rfl⟩) hP hK hN (cw_ro (S := S1) (k := 7) (by decide)) rfl rfl hl.1 rfl (Nat.le_of_ble_eq_true rfl) dX5_measureWaysUp_33 ⟨Nat.zero_le _, Nat.zero_le _⟩) hS (fun H locs hP hS => ?_)
    refine lv_iconst (v := (nI 1)) hx hb dX5_measureWaysUp_36 (by decide) ?_
    refine lv_istore_n (lv' := [(2, .int (nI 1)), (0, .ref (ad 29)), (1, .int p1)]) hx hb dX5_measureWaysUp_37 rfl hl (by decide) rfl (fun ls hl => ?_)
    refine lv_iconst (v := (nI 0)) hx hb dX5_measureWaysUp_38 (by decide) ?_
    refine lv_istore_n (lv' := [(3, .int (nI 0)), (2, .int (nI 1)), (0, .ref (ad 29)), (1, .int p1)]) hx hb dX5_measureWaysUp_39 rfl hl (by decide) rfl (fun ls hl => ?_)
    refine zl3_ind (F := m_X5_measureWaysUp_B40) (R := SZ) (P := fun S5 x6 x7 => ∀ (H : Heap) (locs : List Loc) (ls : Array Slot), va_P D vwCl (cw cyI ad S5) H → va_S (CA ad) s.heap H locs → lv_has ls 5 [(0, .ref (ad 29)), (2, .int x6), (3, .int x7)] → W p l e rl_X5_measureWaysUp s m args below meth c H locs 0 0 (MQ below (PoV D (cw cyI ad SZ) (CA ad)) args s 0 0 (CA ad)) (F0 m 40 ls [])) (fun rec40 ih40 S5 x6 x7 hf H locs ls hP hS hl => ?_) FU S4 (nI 1) (nI 0) hf _ _ _ hP hS (lv_sub hl [2, 1, 0] rfl)
    unfold m_X5_measureWaysUp_B40 at hf
    refine lv_iload_n hx hb dX5_measureWaysUp_40 rfl (lv_at hl 2 rfl) ?_
    refine lv_bipush (v := (nI 32)) hx hb dX5_measureWaysUp_41 (by decide) ?_
    refine lv_icmp_ge (tgt := 105) hx hb dX5_measureWaysUp_43 (by decide) (fun hc => ?_) (fun hc => ?_)
    · have hf := ifp hf hc
      cases Option.some.inj hf
      exact fin_v hx hb hr hlk hS hP dX5_measureWaysUp_105
    · have hf := ifn hf hc
      refine lv_iload_n hx hb dX5_measureWaysUp_46 rfl (lv_at hl 1 rfl) ?_
      refine lv_if_eq (tgt := 105) hx hb dX5_measureWaysUp_47 (by decide) (fun hc => ?_) (fun hc => ?_)
      · have hf := ifp hf hc
        cases Option.some.inj hf
        exact fin_v hx hb hr hlk hS hP dX5_measureWaysUp_105
      · have hf := ifn hf hc
        refine lv_iconst (v := (nI 0)) hx hb dX5_measureWaysUp_50 (by decide) ?_
        refine lv_istore_n (lv' := [(2, .int (nI 0)), (0, .ref (ad 29)), (3, .int x7)]) hx hb dX5_measureWaysUp_51 rfl hl (by decide) rfl (fun ls hl => ?_)
        refine lv_iconst (v := (nI 0)) hx hb dX5_measureWaysUp_52 (by decide) ?_
        refine lv_istore (lv' := [(4, .int (nI 0)), (2, .int (nI 0)), (0, .ref (ad 29)), (3, .int x7)]) hx hb dX5_measureWaysUp_53 hl (by decide) rfl (fun ls hl => ?_)
        refine zl3_ind (F := (m_X5_measureWaysUp_B55 x7 rec40)) (R := SZ) (P := fun S8 x9 x10 => ∀ (H : Heap) (locs : List Loc) (ls : Array Slot), va_P D vwCl (cw cyI ad S8) H → va_S (CA ad) s.heap H locs → lv_has ls 5 [(0, .ref (ad 29)), (3, .int x7), (2, .int x9), (4, .int x10)] → W p l e rl_X5_measureWaysUp s m args below meth c H locs 0 0 (MQ below (PoV D (cw cyI ad SZ) (CA ad)) args s 0 0 (CA ad)) (F0 m 55 ls [])) (fun rec55 ih55 S8 x9 x10 hf H locs ls hP hS hl => ?_) FU S5 (nI 0) (nI 0) hf _ _ _ hP hS (lv_sub hl [2, 3, 1, 0] rfl)
        unfold m_X5_measureWaysUp_B55 at hf
        refine lv_iload hx hb dX5_measureWaysUp_55 (lv_at hl 3 rfl) ?_
        refine lv_bipush (v := (nI 32)) hx hb dX5_measureWaysUp_57 (by decide) ?_
        refine lv_icmp_ge (tgt := 99) hx hb dX5_measureWaysUp_59 (by decide) (fun hc => ?_) (fun hc => ?_)
        · have hf := ifp hf hc
          obtain ⟨x11, ex11, hf⟩ := zb_k hf
          refine lv_iinc (v := x11) (lv' := [(3, .int x11), (0, .ref (ad 29)), (2, .int x9), (4, .int x10)]) hx hb dX5_measureWaysUp_99 hl (k := 1) rfl (by rw [ex11]; rfl) (by decide) rfl (fun ls hl => ?_)
          refine lv_goto (tgt := 40) hx hb dX5_measureWaysUp_102 (by decide) ?_
          exact ih40 S8 x9 x11 hf _ _ _ hP hS (lv_sub hl [1, 2, 0] rfl)
        · have hf := ifn hf hc
          refine lv_iload_n hx hb dX5_measureWaysUp_62 rfl (lv_at hl 2 rfl) ?_
          refine lv_aload_n hx hb dX5_measureWaysUp_63 rfl (lv_at hl 0 rfl) ?_
          refine va_get (D := D) (ci := 5) (v := .ref (ad (2 * 7))) (C := RX5) (T := TX5) (N := 2) hx hb hts hin5 hown hK hP 29 (cw_o29 (S := S8)) rfl 1 (by decide) hfl14 (fun _ h9 => h9) rfl dX5_measureWaysUp_64 ?_
          refine lv_iload hx hb dX5_measureWaysUp_67 (lv_at hl 3 rfl) ?_
          refine lv_iconst (v := (nI 0)) hx hb dX5_measureWaysUp_69 (by decide) ?_
          obtain ⟨x12, hc70, hf⟩ := zo_k hf
          refine cal_i (rnV (As := [.int x10, .int (nI 0)]) (rest := [.int x9]) ⟨hx, hb, hml, hown, hts⟩ (c_X4_get hAd (by decide) hc70) (cwV 2 hts gX5_measureWaysUp_X4_get rfl rfl rfl cdV_X4_get ⟨Nat.le_of_ble_eq_true rfl, Nat.le_of_ble_eq_true rfl⟩) hP hK hN (cw_ro (S := S8) (k := 7) (by decide)) rfl rfl hl.1 rfl (Nat.le_of_ble_eq_true rfl) dX5_measureWaysUp_70 ⟨Nat.zero_le _, Nat.zero_le _⟩) hS (fun H locs hP hS => ?_)
          refine lv_iconst (v := (-1)) hx hb dX5_measureWaysUp_73 (by decide) ?_
          refine lv_icmp_eq (tgt := 90) hx hb dX5_measureWaysUp_74 (by decide) (fun hc => ?_) (fun hc => ?_)
          · have hf := ifp hf hc
            refine lv_iconst (v := (nI 0)) hx hb dX5_measureWaysUp_90 (by decide) ?_
            refine lv_ior hx hb dX5_measureWaysUp_91 ?_
            refine lv_topi (fun x13 ex13 => ?_)
            have hf := zb_x hf ex13
            refine lv_istore_n (lv' := [(2, .int x13), (0, .ref (ad 29)), (3, .int x7), (4, .int x10)]) hx hb dX5_measureWaysUp_92 rfl hl (by decide) rfl (fun ls hl => ?_)
            obtain ⟨x14, ex14, hf⟩ := zb_k hf
            refine lv_iinc (v := x14) (lv' := [(4, .int x14), (2, .int x13), (0, .ref (ad 29)), (3, .int x7)]) hx hb dX5_measureWaysUp_93 hl (k := 3) rfl (by rw [ex14]; rfl) (by decide) rfl (fun ls hl => ?_)
            refine lv_goto (tgt := 55) hx hb dX5_measureWaysUp_96 (by decide) ?_
            exact ih55 S8 x13 x14 hf _ _ _ hP hS (lv_sub hl [2, 3, 1, 0] rfl)
          · have hf := ifn hf hc
            refine lv_aload_n hx hb dX5_measureWaysUp_77 rfl (lv_at hl 0 rfl) ?_
            refine lv_iload hx hb dX5_measureWaysUp_78 (lv_at hl 3 rfl) ?_
            obtain ⟨x15, S16, hc80, hf⟩ := zo2_k hf
            refine cal_i (rnV (As := [.int x10]) (rest := [.int x9]) ⟨hx, hb, hml, hown, hts⟩ (c_X5_makesWaysLonger hAd  hc80) (cwV 1 hts gX5_measureWaysUp_X5_makesWaysLonger rfl rfl rfl cdV_X5_makesWaysLonger ⟨Nat.le_of_ble_eq_true rfl, Nat.le_of_ble_eq_true rfl⟩) hP hK hN (cw_o29 (S := S8)) rfl rfl hl.1 rfl (Nat.le_of_ble_eq_true rfl) dX5_measureWaysUp_80 ⟨Nat.zero_le _, Nat.zero_le _⟩) hS (fun H locs hP hS => ?_)
            refine lv_if_eq (tgt := 90) hx hb dX5_measureWaysUp_83 (by decide) (fun hc => ?_) (fun hc => ?_)
            · have hf := ifp hf hc
              refine lv_iconst (v := (nI 0)) hx hb dX5_measureWaysUp_90 (by decide) ?_
              refine lv_ior hx hb dX5_measureWaysUp_91 ?_
              refine lv_topi (fun x17 ex17 => ?_)
              have hf := zb_x hf ex17
              refine lv_istore_n (lv' := [(2, .int x17), (0, .ref (ad 29)), (3, .int x7), (4, .int x10)]) hx hb dX5_measureWaysUp_92 rfl hl (by decide) rfl (fun ls hl => ?_)
              obtain ⟨x18, ex18, hf⟩ := zb_k hf
              refine lv_iinc (v := x18) (lv' := [(4, .int x18), (2, .int x17), (0, .ref (ad 29)), (3, .int x7)]) hx hb dX5_measureWaysUp_93 hl (k := 3) rfl (by rw [ex18]; rfl) (by decide) rfl (fun ls hl => ?_)
              refine lv_goto (tgt := 55) hx hb dX5_measureWaysUp_96 (by decide) ?_
              exact ih55 S16 x17 x18 hf _ _ _ hP hS (lv_sub hl [2, 3, 1, 0] rfl)
            · have hf := ifn hf hc
              refine lv_iconst (v := (nI 1)) hx hb dX5_measureWaysUp_86 (by decide) ?_
              refine lv_goto (tgt := 91) hx hb dX5_measureWaysUp_87 (by decide) ?_
              refine lv_ior hx hb dX5_measureWaysUp_91 ?_
              refine lv_topi (fun x19 ex19 => ?_)
              have hf := zb_x hf ex19
              refine lv_istore_n (lv' := [(2, .int x19), (0, .ref (ad 29)), (3, .int x7), (4, .int x10)]) hx hb dX5_measureWaysUp_92 rfl hl (by decide) rfl (fun ls hl => ?_)
              obtain ⟨x20, ex20, hf⟩ := zb_k hf
              refine lv_iinc (v := x20) (lv' := [(4, .int x20), (2, .int x19), (0, .ref (ad 29)), (3, .int x7)]) hx hb dX5_measureWaysUp_93 hl (k := 3) rfl (by rw [ex20]; rfl) (by decide) rfl (fun ls hl => ?_)
              refine lv_goto (tgt := 55) hx hb dX5_measureWaysUp_96 (by decide) ?_
              exact ih55 S16 x19 x20 hf _ _ _ hP hS (lv_sub hl [2, 3, 1, 0] rfl)
  · have hf := ifn hf hc
    refine lv_aload_n hx hb dX5_measureWaysUp_8 rfl (lv_at hl 0 rfl) ?_
    refine va_get (D := D) (ci := 5) (v := .ref (ad (2 * 7))) (C := RX5) (T := TX5) (N := 2) hx hb hts hin5 hown hK hP 29 (cw_o29 (S := S1)) rfl 1 (by decide) hfl14 (fun _ h9 => h9) rfl dX5_measureWaysUp_9 ?_
    refine lv_iload_n hx hb dX5_measureWaysUp_12 rfl (lv_at hl 2 rfl) ?_
    obtain ⟨S21, hc13, hf⟩ := zo_k hf
    refine cal_v (rnV (As := [.int x2]) (rest := []) ⟨hx, hb, hml, hown, hts⟩ (c_X4_clear hAd (by decide) hc13) (cwV 1 hts gX5_measureWaysUp_X4_clear rfl rfl rfl cdV_X4_clear ⟨Nat.le_of_ble_eq_true rfl, Nat.le_of_ble_eq_true rfl⟩) hP hK hN (cw_ro (S := S1) (k := 7) (by decide)) rfl rfl hl.1 rfl (Nat.le_of_ble_eq_true rfl) dX5_measureWaysUp_13 ⟨Nat.zero_le _, Nat.zero_le _⟩) hS (fun H locs hP hS => ?_)
    obtain ⟨x22, ex22, hf⟩ := zb_k hf
    refine lv_iinc (v := x22) (lv' := [(2, .int x22), (0, .ref (ad 29)), (1, .int p1)]) hx hb dX5_measureWaysUp_16 hl (k := 2) rfl (by rw [ex22]; rfl) (by decide) rfl (fun ls hl => ?_)
    refine lv_goto (tgt := 2) hx hb dX5_measureWaysUp_19 (by decide) ?_
    exact ih2 S21 x22 hf _ _ _ hP hS (lv_sub hl [1, 2, 0] rfl)
set_option maxHeartbeats 4000000 in
set_option maxRecDepth 100000 in
theorem c_X5_nextEnd {l : Launch} {D : va_G} {cyI cyJ cyZ : ClassId} {ad : Nat → Nat}  (hAd : AdOK 31 ad)  {S : St} {p1 : Int32} {r : Int32} (hf : m_X5_nextEnd S p1 = some r) : Met l yX5_nextEnd wsX5_nextEnd rl_X5_nextEnd (PreW D [(cyI, .int), (cyJ, .long), (cyZ, .boolean)] (cw cyI ad S) [.ref (ad 29), .int p1]) (PoI D (cw cyI ad S) (CA ad) r) 0 0 (CA ad) := by
  refine met_go (cc := cX5_nextEnd) (maxL := 5) (ret := (some .int)) (by decide) rfl (Nat.le_of_ble_eq_true rfl) ?_
  intro p e s m args below meth c ls hx hb hr hml hts hown hlk hP hK hN hl
  have hown : s.vm.findClass RX5 = some m.cls := hown
  have hS : va_S (CA ad) s.heap s.heap [] := va_S.rf
  have hl : lv_has ls 5 [(0, .ref (ad 29)), (1, .int p1)] := hl
  have hin5 : ∀ w ∈ wsX50, w ∈ wsX5_nextEnd := by decide +kernel
  have hfl14 := hts (.fieldLink RX5 14 "Makewheel$Schedule" "rows" "LMakewheel$Rows;") (by decide +kernel)
  unfold m_X5_nextEnd at hf
  refine lv_iconst (v := (-1)) hx hb dX5_nextEnd_0 (by decide) ?_
  refine lv_istore_n (lv' := [(2, .int (-1)), (0, .ref (ad 29)), (1, .int p1)]) hx hb dX5_nextEnd_1 rfl hl (by decide) rfl (fun ls hl => ?_)
  refine lv_iconst (v := (nI 0)) hx hb dX5_nextEnd_2 (by decide) ?_
  refine lv_istore_n (lv' := [(3, .int (nI 0)), (2, .int (-1)), (0, .ref (ad 29)), (1, .int p1)]) hx hb dX5_nextEnd_3 rfl hl (by decide) rfl (fun ls hl => ?_)
  refine zl2_ind (F := (m_X5_nextEnd_B4 S p1)) (R := r) (P := fun x1 x2 => ∀ (H : Heap) (locs : List Loc) (ls : Array Slot), va_P D vwCl (cw cyI ad S) H → va_S (CA ad) s.heap H locs → lv_has ls 5 [(0, .ref (ad 29)), (1, .int p1), (2, .int x1), (3, .int x2)] → W p l e rl_X5_nextEnd s m args below meth c H locs 0 0 (MQ below (PoI D (cw cyI ad S) (CA ad) r) args s 0 0 (CA ad)) (F0 m 4 ls [])) (fun rec4 ih4 x1 x2 hf H locs ls hP hS hl => ?_) FU (-1) (nI 0) hf _ _ _ hP hS (lv_sub hl [2, 3, 1, 0] rfl)
  unfold m_X5_nextEnd_B4 at hf
  refine lv_iload_n hx hb dX5_nextEnd_4 rfl (lv_at hl 3 rfl) ?_
  refine lv_bipush (v := (nI 32)) hx hb dX5_nextEnd_5 (by decide) ?_
  refine lv_icmp_ge (tgt := 47) hx hb dX5_nextEnd_7 (by decide) (fun hc => ?_) (fun hc => ?_)
  · have hf := ifp hf hc
    refine lv_iload_n hx hb dX5_nextEnd_47 rfl (lv_at hl 2 rfl) ?_
    exact fin_i hx hb hr hlk hS hP (Option.some.inj hf) dX5_nextEnd_48
  · have hf := ifn hf hc
    refine lv_aload_n hx hb dX5_nextEnd_10 rfl (lv_at hl 0 rfl) ?_
    refine va_get (D := D) (ci := 5) (v := .ref (ad (2 * 7))) (C := RX5) (T := TX5) (N := 2) hx hb hts hin5 hown hK hP 29 (cw_o29 (S := S)) rfl 1 (by decide) hfl14 (fun _ h9 => h9) rfl dX5_nextEnd_11 ?_
    refine lv_iload_n hx hb dX5_nextEnd_14 rfl (lv_at hl 3 rfl) ?_
    refine lv_iconst (v := (nI 1)) hx hb dX5_nextEnd_15 (by decide) ?_
    obtain ⟨x3, hc16, hf⟩ := zo_k hf
    refine cal_i (rnV (As := [.int x2, .int (nI 1)]) (rest := []) ⟨hx, hb, hml, hown, hts⟩ (c_X4_get hAd (by decide) hc16) (cwV 2 hts gX5_nextEnd_X4_get rfl rfl rfl cdV_X4_get ⟨Nat.le_of_ble_eq_true rfl, Nat.le_of_ble_eq_true rfl⟩) hP hK hN (cw_ro (S := S) (k := 7) (by decide)) rfl rfl hl.1 rfl (Nat.le_of_ble_eq_true rfl) dX5_nextEnd_16 ⟨Nat.zero_le _, Nat.zero_le _⟩) hS (fun H locs hP hS => ?_)
    refine lv_istore (lv' := [(4, .int x3), (0, .ref (ad 29)), (1, .int p1), (2, .int x1), (3, .int x2)]) hx hb dX5_nextEnd_19 hl (by decide) rfl (fun ls hl => ?_)
    refine lv_iload hx hb dX5_nextEnd_21 (lv_at hl 0 rfl) ?_
    refine lv_iload_n hx hb dX5_nextEnd_23 rfl (lv_at hl 2 rfl) ?_
    have hJ41 : ∀ (x4 : Int32), m_X5_nextEnd_J41 x2 rec4 x4 = some r → ∀ (H : Heap) (locs : List Loc) (ls : Array Slot), va_P D vwCl (cw cyI ad S) H → va_S (CA ad) s.heap H locs → lv_has ls 5 [(0, .ref (ad 29)), (1, .int p1), (3, .int x2), (2, .int x4)] → W p l e rl_X5_nextEnd s m args below meth c H locs 0 0 (MQ below (PoI D (cw cyI ad S) (CA ad) r) args s 0 0 (CA ad)) (F0 m 41 ls []) := by
      intro x4 hf H locs ls hP hS hl
      unfold m_X5_nextEnd_J41 at hf
      obtain ⟨x5, ex5, hf⟩ := zb_k hf
      refine lv_iinc (v := x5) (lv' := [(3, .int x5), (0, .ref (ad 29)), (1, .int p1), (2, .int x4)]) hx hb dX5_nextEnd_41 hl (k := 2) rfl (by rw [ex5]; rfl) (by decide) rfl (fun ls hl => ?_)
      refine lv_goto (tgt := 4) hx hb dX5_nextEnd_44 (by decide) ?_
      exact ih4 x4 x5 hf _ _ _ hP hS (lv_sub hl [1, 2, 3, 0] rfl)
    refine lv_icmp_le (tgt := 41) hx hb dX5_nextEnd_24 (by decide) (fun hc => ?_) (fun hc => ?_)
    · have hf := ifp hf hc
      exact hJ41 x1 hf _ _ _ hP hS (lv_sub hl [1, 2, 4, 3] rfl)
    · have hf := ifn hf hc
      refine lv_iload_n hx hb dX5_nextEnd_27 rfl (lv_at hl 3 rfl) ?_
      refine lv_iconst (v := (-1)) hx hb dX5_nextEnd_28 (by decide) ?_
      refine lv_icmp_eq (tgt := 38) hx hb dX5_nextEnd_29 (by decide) (fun hc => ?_) (fun hc => ?_)
      · have hf := ifp hf hc
        refine lv_iload hx hb dX5_nextEnd_38 (lv_at hl 0 rfl) ?_
        refine lv_istore_n (lv' := [(2, .int x3), (4, .int x3), (0, .ref (ad 29)), (1, .int p1), (3, .int x2)]) hx hb dX5_nextEnd_40 rfl hl (by decide) rfl (fun ls hl => ?_)
        exact hJ41 x3 hf _ _ _ hP hS (lv_sub hl [2, 3, 4, 0] rfl)
      · have hf := ifn hf hc
        refine lv_iload hx hb dX5_nextEnd_32 (lv_at hl 0 rfl) ?_
        refine lv_iload_n hx hb dX5_nextEnd_34 rfl (lv_at hl 3 rfl) ?_
        refine lv_icmp_ge (tgt := 41) hx hb dX5_nextEnd_35 (by decide) (fun hc => ?_) (fun hc => ?_)
        · have hf := ifp hf hc
          exact hJ41 x1 hf _ _ _ hP hS (lv_sub hl [1, 2, 4, 3] rfl)
        · have hf := ifn hf hc
          refine lv_iload hx hb dX5_nextEnd_38 (lv_at hl 0 rfl) ?_
          refine lv_istore_n (lv' := [(2, .int x3), (4, .int x3), (0, .ref (ad 29)), (1, .int p1), (3, .int x2)]) hx hb dX5_nextEnd_40 rfl hl (by decide) rfl (fun ls hl => ?_)
          exact hJ41 x3 hf _ _ _ hP hS (lv_sub hl [2, 3, 4, 0] rfl)
set_option maxHeartbeats 4000000 in
set_option maxRecDepth 100000 in
theorem c_X5_endOf {l : Launch} {D : va_G} {cyI cyJ cyZ : ClassId} {ad : Nat → Nat}  (hAd : AdOK 31 ad)  {S : St} {p1 : Int32} {p2 : Int32} {r : Int32} {SZ : St} (hf : m_X5_endOf S p1 p2 = some (r, SZ)) : Met l yX5_endOf wsX5_endOf rl_X5_endOf (PreW D [(cyI, .int), (cyJ, .long), (cyZ, .boolean)] (cw cyI ad S) [.ref (ad 29), .int p1, .int p2]) (PoI D (cw cyI ad SZ) (CA ad) r) 0 0 (CA ad) := by
  refine met_go (cc := cX5_endOf) (maxL := 5) (ret := (some .int)) (by decide) rfl (Nat.le_of_ble_eq_true rfl) ?_
  intro p e s m args below meth c ls hx hb hr hml hts hown hlk hP hK hN hl
  have hown : s.vm.findClass RX5 = some m.cls := hown
  have hS : va_S (CA ad) s.heap s.heap [] := va_S.rf
  have hl : lv_has ls 5 [(0, .ref (ad 29)), (1, .int p1), (2, .int p2)] := hl
  have hin5 : ∀ w ∈ wsX50, w ∈ wsX5_endOf := by decide +kernel
  have hfl14 := hts (.fieldLink RX5 14 "Makewheel$Schedule" "rows" "LMakewheel$Rows;") (by decide +kernel)
  unfold m_X5_endOf at hf
  refine lv_aload_n hx hb dX5_endOf_0 rfl (lv_at hl 0 rfl) ?_
  refine lv_iload_n hx hb dX5_endOf_1 rfl (lv_at hl 1 rfl) ?_
  obtain ⟨S1, hc2, hf⟩ := zo_k hf
  refine cal_v (rnV (As := [.int p1]) (rest := []) ⟨hx, hb, hml, hown, hts⟩ (c_X5_measureWaysUp hAd  hc2) (cwV 1 hts gX5_endOf_X5_measureWaysUp rfl rfl rfl cdV_X5_measureWaysUp ⟨Nat.le_of_ble_eq_true rfl, Nat.le_of_ble_eq_true rfl⟩) hP hK hN (cw_o29 (S := S)) rfl rfl hl.1 rfl (Nat.le_of_ble_eq_true rfl) dX5_endOf_2 ⟨Nat.zero_le _, Nat.zero_le _⟩) hS (fun H locs hP hS => ?_)
  refine lv_iconst (v := (nI 0)) hx hb dX5_endOf_5 (by decide) ?_
  refine lv_istore_n (lv' := [(3, .int (nI 0)), (0, .ref (ad 29)), (1, .int p1), (2, .int p2)]) hx hb dX5_endOf_6 rfl hl (by decide) rfl (fun ls hl => ?_)
  refine lv_iconst (v := (nI 0)) hx hb dX5_endOf_7 (by decide) ?_
  refine lv_istore (lv' := [(4, .int (nI 0)), (3, .int (nI 0)), (0, .ref (ad 29)), (1, .int p1), (2, .int p2)]) hx hb dX5_endOf_8 hl (by decide) rfl (fun ls hl => ?_)
  refine zl3_ind (F := (m_X5_endOf_B10 p1 p2)) (R := (r, SZ)) (P := fun S2 x3 x4 => ∀ (H : Heap) (locs : List Loc) (ls : Array Slot), va_P D vwCl (cw cyI ad S2) H → va_S (CA ad) s.heap H locs → lv_has ls 5 [(0, .ref (ad 29)), (1, .int p1), (2, .int p2), (3, .int x3), (4, .int x4)] → W p l e rl_X5_endOf s m args below meth c H locs 0 0 (MQ below (PoI D (cw cyI ad SZ) (CA ad) r) args s 0 0 (CA ad)) (F0 m 10 ls [])) (fun rec10 ih10 S2 x3 x4 hf H locs ls hP hS hl => ?_) FU S1 (nI 0) (nI 0) hf _ _ _ hP hS (lv_sub hl [2, 3, 4, 1, 0] rfl)
  unfold m_X5_endOf_B10 at hf
  refine lv_iload hx hb dX5_endOf_10 (lv_at hl 4 rfl) ?_
  refine lv_bipush (v := (nI 32)) hx hb dX5_endOf_12 (by decide) ?_
  refine lv_icmp_gt (tgt := 48) hx hb dX5_endOf_14 (by decide) (fun hc => ?_) (fun hc => ?_)
  · have hf := ifp hf hc
    refine lv_aload_n hx hb dX5_endOf_48 rfl (lv_at hl 0 rfl) ?_
    refine va_get (D := D) (ci := 5) (v := .ref (ad (2 * 7))) (C := RX5) (T := TX5) (N := 2) hx hb hts hin5 hown hK hP 29 (cw_o29 (S := S2)) rfl 1 (by decide) hfl14 (fun _ h9 => h9) rfl dX5_endOf_49 ?_
    refine lv_iload_n hx hb dX5_endOf_52 rfl (lv_at hl 1 rfl) ?_
    refine lv_iconst (v := (nI 1)) hx hb dX5_endOf_53 (by decide) ?_
    obtain ⟨x5, hc54, hf⟩ := zo_k hf
    refine cal_i (rnV (As := [.int p1, .int (nI 1)]) (rest := []) ⟨hx, hb, hml, hown, hts⟩ (c_X4_get hAd (by decide) hc54) (cwV 2 hts gX5_endOf_X4_get rfl rfl rfl cdV_X4_get ⟨Nat.le_of_ble_eq_true rfl, Nat.le_of_ble_eq_true rfl⟩) hP hK hN (cw_ro (S := S2) (k := 7) (by decide)) rfl rfl hl.1 rfl (Nat.le_of_ble_eq_true rfl) dX5_endOf_54 ⟨Nat.zero_le _, Nat.zero_le _⟩) hS (fun H locs hP hS => ?_)
    cases Option.some.inj hf
    exact fin_i hx hb hr hlk hS hP rfl dX5_endOf_57
  · have hf := ifn hf hc
    refine lv_aload_n hx hb dX5_endOf_17 rfl (lv_at hl 0 rfl) ?_
    refine va_get (D := D) (ci := 5) (v := .ref (ad (2 * 7))) (C := RX5) (T := TX5) (N := 2) hx hb hts hin5 hown hK hP 29 (cw_o29 (S := S2)) rfl 1 (by decide) hfl14 (fun _ h9 => h9) rfl dX5_endOf_18 ?_
    refine lv_iload_n hx hb dX5_endOf_21 rfl (lv_at hl 1 rfl) ?_
    refine lv_iconst (v := (nI 1)) hx hb dX5_endOf_22 (by decide) ?_
    obtain ⟨x6, hc23, hf⟩ := zo_k hf
    refine cal_i (rnV (As := [.int p1, .int (nI 1)]) (rest := []) ⟨hx, hb, hml, hown, hts⟩ (c_X4_get hAd (by decide) hc23) (cwV 2 hts gX5_endOf_X4_get rfl rfl rfl cdV_X4_get ⟨Nat.le_of_ble_eq_true rfl, Nat.le_of_ble_eq_true rfl⟩) hP hK hN (cw_ro (S := S2) (k := 7) (by decide)) rfl rfl hl.1 rfl (Nat.le_of_ble_eq_true rfl) dX5_endOf_23 ⟨Nat.zero_le _, Nat.zero_le _⟩) hS (fun H locs hP hS => ?_)
    refine lv_iconst (v := (-1)) hx hb dX5_endOf_26 (by decide) ?_
    refine lv_icmp_ne (tgt := 48) hx hb dX5_endOf_27 (by decide) (fun hc => ?_) (fun hc => ?_)
    · have hf := ifn hf hc
      refine lv_aload_n hx hb dX5_endOf_48 rfl (lv_at hl 0 rfl) ?_
      refine va_get (D := D) (ci := 5) (v := .ref (ad (2 * 7))) (C := RX5) (T := TX5) (N := 2) hx hb hts hin5 hown hK hP 29 (cw_o29 (S := S2)) rfl 1 (by decide) hfl14 (fun _ h9 => h9) rfl dX5_endOf_49 ?_
      refine lv_iload_n hx hb dX5_endOf_52 rfl (lv_at hl 1 rfl) ?_
      refine lv_iconst (v := (nI 1)) hx hb dX5_endOf_53 (by decide) ?_
      obtain ⟨x7, hc54, hf⟩ := zo_k hf
      refine cal_i (rnV (As := [.int p1, .int (nI 1)]) (rest := []) ⟨hx, hb, hml, hown, hts⟩ (c_X4_get hAd (by decide) hc54) (cwV 2 hts gX5_endOf_X4_get rfl rfl rfl cdV_X4_get ⟨Nat.le_of_ble_eq_true rfl, Nat.le_of_ble_eq_true rfl⟩) hP hK hN (cw_ro (S := S2) (k := 7) (by decide)) rfl rfl hl.1 rfl (Nat.le_of_ble_eq_true rfl) dX5_endOf_54 ⟨Nat.zero_le _, Nat.zero_le _⟩) hS (fun H locs hP hS => ?_)
      cases Option.some.inj hf
      exact fin_i hx hb hr hlk hS hP rfl dX5_endOf_57
    · have hf := ifp hf hc
      refine lv_aload_n hx hb dX5_endOf_30 rfl (lv_at hl 0 rfl) ?_
      refine lv_iload_n hx hb dX5_endOf_31 rfl (lv_at hl 3 rfl) ?_
      refine lv_iload_n hx hb dX5_endOf_32 rfl (lv_at hl 2 rfl) ?_
      obtain ⟨S8, hc33, hf⟩ := zo_k hf
      refine cal_v (rnV (As := [.int x3, .int p2]) (rest := []) ⟨hx, hb, hml, hown, hts⟩ (c_X5_beginAt hAd  hc33) (cwV 2 hts gX5_endOf_X5_beginAt rfl rfl rfl cdV_X5_beginAt ⟨Nat.le_of_ble_eq_true rfl, Nat.le_of_ble_eq_true rfl⟩) hP hK hN (cw_o29 (S := S2)) rfl rfl hl.1 rfl (Nat.le_of_ble_eq_true rfl) dX5_endOf_33 ⟨Nat.zero_le _, Nat.zero_le _⟩) hS (fun H locs hP hS => ?_)
      refine lv_aload_n hx hb dX5_endOf_36 rfl (lv_at hl 0 rfl) ?_
      refine lv_iload_n hx hb dX5_endOf_37 rfl (lv_at hl 3 rfl) ?_
      obtain ⟨x9, hc38, hf⟩ := zo_k hf
      refine cal_i (rnV (As := [.int x3]) (rest := []) ⟨hx, hb, hml, hown, hts⟩ (c_X5_nextEnd hAd  hc38) (cwV 1 hts gX5_endOf_X5_nextEnd rfl rfl rfl cdV_X5_nextEnd ⟨Nat.le_of_ble_eq_true rfl, Nat.le_of_ble_eq_true rfl⟩) hP hK hN (cw_o29 (S := S8)) rfl rfl hl.1 rfl (Nat.le_of_ble_eq_true rfl) dX5_endOf_38 ⟨Nat.zero_le _, Nat.zero_le _⟩) hS (fun H locs hP hS => ?_)
      refine lv_istore_n (lv' := [(3, .int x9), (0, .ref (ad 29)), (1, .int p1), (2, .int p2), (4, .int x4)]) hx hb dX5_endOf_41 rfl hl (by decide) rfl (fun ls hl => ?_)
      obtain ⟨x10, ex10, hf⟩ := zb_k hf
      refine lv_iinc (v := x10) (lv' := [(4, .int x10), (3, .int x9), (0, .ref (ad 29)), (1, .int p1), (2, .int p2)]) hx hb dX5_endOf_42 hl (k := 4) rfl (by rw [ex10]; rfl) (by decide) rfl (fun ls hl => ?_)
      refine lv_goto (tgt := 10) hx hb dX5_endOf_45 (by decide) ?_
      exact ih10 S8 x9 x10 hf _ _ _ hP hS (lv_sub hl [2, 3, 4, 1, 0] rfl)
