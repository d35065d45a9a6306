set_option maxHeartbeats 4000000 in
set_option maxRecDepth 100000 in
theorem c_X2_valueOfRead {l : Launch} {D : va_G} {cyI cyJ cyZ : ClassId} {ad : Nat → Nat} {b : Nat} (hAd : AdOK 31 ad) (hb2 : b < 2) {S : St} {p1 : Int32} {p2 : Int32} {r : Int32} (hf : m_X2_valueOfRead b S p1 p2 = some r) : Met l yX2_valueOfRead wsX2_valueOfRead rl_X2_valueOfRead (PreW D [(cyI, .int), (cyJ, .long), (cyZ, .boolean)] (cw cyI ad S) [.ref (ad (26 + b)), .int p1, .int p2]) (PoI D (cw cyI ad S) (CA ad) r) 0 0 (CA ad) := by
  refine met_go (cc := cX2_valueOfRead) (maxL := 6) (ret := (some .int)) (by decide) rfl (Nat.le_of_ble_eq_true rfl) ?_
  intro p e s m args below meth c ls hx hb hr hml hts hown hlk hP hK hN hl
  have hown : s.vm.findClass RX2 = some m.cls := hown
  have hS : va_S (CA ad) s.heap s.heap [] := va_S.rf
  have hl : lv_has ls 6 [(0, .ref (ad (26 + b))), (1, .int p1), (2, .int p2)] := hl
  have hin2 : ∀ w ∈ wsX20, w ∈ wsX2_valueOfRead := by decide +kernel
  have hfl20 := hts (.fieldLink RX2 20 "Makewheel$Looker" "fresh" "LMakewheel$Rows;") (by decide +kernel)
  unfold m_X2_valueOfRead at hf
  refine lv_iconst (v := (nI 0)) hx hb dX2_valueOfRead_0 (by decide) ?_
  refine lv_istore_n (lv' := [(3, .int (nI 0)), (0, .ref (ad (26 + b))), (1, .int p1), (2, .int p2)]) hx hb dX2_valueOfRead_1 rfl hl (by decide) rfl (fun ls hl => ?_)
  refine lv_iload_n hx hb dX2_valueOfRead_2 rfl (lv_at hl 3 rfl) ?_
  refine lv_iconst (v := (nI 2)) hx hb dX2_valueOfRead_3 (by decide) ?_
  refine lv_iadd hx hb dX2_valueOfRead_4 ?_
  refine lv_topi (fun x1 ex1 => ?_)
  have hf := zb_x hf ex1
  refine lv_istore (lv' := [(4, .int x1), (3, .int (nI 0)), (0, .ref (ad (26 + b))), (1, .int p1), (2, .int p2)]) hx hb dX2_valueOfRead_5 hl (by decide) rfl (fun ls hl => ?_)
  refine zl2_ind (F := (m_X2_valueOfRead_B7 p2 b S p1)) (R := r) (P := fun x2 x3 => ∀ (H : Heap) (locs : List Loc) (ls : Array Slot), va_P D vwCl (cw cyI ad S) H → va_S (CA ad) s.heap H locs → lv_has ls 6 [(0, .ref (ad (26 + b))), (1, .int p1), (2, .int p2), (3, .int x2), (4, .int x3)] → W p l e rl_X2_valueOfRead s m args below meth c H locs 0 0 (MQ below (PoI D (cw cyI ad S) (CA ad) r) args s 0 0 (CA ad)) (F0 m 7 ls [])) (fun rec7 ih7 x2 x3 hf H locs ls hP hS hl => ?_) FU (nI 0) x1 hf _ _ _ hP hS (lv_sub hl [2, 3, 4, 1, 0] rfl)
  unfold m_X2_valueOfRead_B7 at hf
  refine lv_iload hx hb dX2_valueOfRead_7 (lv_at hl 4 rfl) ?_
  refine lv_iload_n hx hb dX2_valueOfRead_9 rfl (lv_at hl 2 rfl) ?_
  refine lv_bipush (v := (nI 7)) hx hb dX2_valueOfRead_10 (by decide) ?_
  refine lv_iadd hx hb dX2_valueOfRead_12 ?_
  refine lv_icmp_ge (tgt := 49) hx hb dX2_valueOfRead_13 (by decide) (fun hc => ?_) (fun hc => ?_)
  · have hf := ifp hf hc
    refine lv_iload_n hx hb dX2_valueOfRead_49 rfl (lv_at hl 3 rfl) ?_
    refine lv_sipush (v := (nI 1000)) hx hb dX2_valueOfRead_50 (by decide) ?_
    refine lv_irem hx hb dX2_valueOfRead_53 (by decide) ?_
    exact fin_i hx hb hr hlk hS hP (Option.some.inj hf) dX2_valueOfRead_54
  · have hf := ifn hf hc
    refine lv_aload_n hx hb dX2_valueOfRead_16 rfl (lv_at hl 0 rfl) ?_
    refine va_get (D := D) (ci := 2) (v := .ref (ad (2 * (9 + 2 * b)))) (C := RX2) (T := TX2) (N := 10) hx hb hts hin2 hown hK hP (26 + b) (cw_lo (S := S) (b := b) hb2) rfl 7 (by decide) hfl20 (fun _ h9 => h9) rfl dX2_valueOfRead_17 ?_
    refine lv_iload_n hx hb dX2_valueOfRead_20 rfl (lv_at hl 1 rfl) ?_
    refine lv_iload hx hb dX2_valueOfRead_21 (lv_at hl 4 rfl) ?_
    obtain ⟨x4, hc23, hf⟩ := zo_k hf
    refine cal_i (rnV (As := [.int p1, .int x3]) (rest := []) ⟨hx, hb, hml, hown, hts⟩ (c_X4_get hAd (by omega) hc23) (cwV 2 hts gX2_valueOfRead_X4_get rfl rfl rfl cdV_X4_get ⟨Nat.le_of_ble_eq_true rfl, Nat.le_of_ble_eq_true rfl⟩) hP hK hN (cw_ro (S := S) (k := (9 + 2 * b)) (by omega)) rfl rfl hl.1 rfl (Nat.le_of_ble_eq_true rfl) dX2_valueOfRead_23 ⟨Nat.zero_le _, Nat.zero_le _⟩) hS (fun H locs hP hS => ?_)
    refine lv_istore (lv' := [(5, .int x4), (0, .ref (ad (26 + b))), (1, .int p1), (2, .int p2), (3, .int x2), (4, .int x3)]) hx hb dX2_valueOfRead_26 hl (by decide) rfl (fun ls hl => ?_)
    refine lv_iload_n hx hb dX2_valueOfRead_28 rfl (lv_at hl 4 rfl) ?_
    refine lv_iload hx hb dX2_valueOfRead_29 (lv_at hl 0 rfl) ?_
    refine lv_iconst (v := (-1)) hx hb dX2_valueOfRead_31 (by decide) ?_
    refine lv_icmp_ne (tgt := 39) hx hb dX2_valueOfRead_32 (by decide) (fun hc => ?_) (fun hc => ?_)
    · have hf := ifn hf hc
      refine lv_iload hx hb dX2_valueOfRead_39 (lv_at hl 0 rfl) ?_
      refine lv_iadd hx hb dX2_valueOfRead_41 ?_
      refine lv_topi (fun x5 ex5 => ?_)
      have hf := zb_x hf ex5
      refine lv_istore_n (lv' := [(3, .int x5), (5, .int x4), (0, .ref (ad (26 + b))), (1, .int p1), (2, .int p2), (4, .int x3)]) hx hb dX2_valueOfRead_42 rfl hl (by decide) rfl (fun ls hl => ?_)
      obtain ⟨x6, ex6, hf⟩ := zb_k hf
      refine lv_iinc (v := x6) (lv' := [(4, .int x6), (3, .int x5), (5, .int x4), (0, .ref (ad (26 + b))), (1, .int p1), (2, .int p2)]) hx hb dX2_valueOfRead_43 hl (k := 5) rfl (by rw [ex6]; rfl) (by decide) rfl (fun ls hl => ?_)
      refine lv_goto (tgt := 7) hx hb dX2_valueOfRead_46 (by decide) ?_
      exact ih7 x5 x6 hf _ _ _ hP hS (lv_sub hl [3, 4, 5, 1, 0] rfl)
    · have hf := ifp hf hc
      refine lv_iconst (v := (nI 0)) hx hb dX2_valueOfRead_35 (by decide) ?_
      refine lv_goto (tgt := 41) hx hb dX2_valueOfRead_36 (by decide) ?_
      refine lv_iadd hx hb dX2_valueOfRead_41 ?_
      refine lv_topi (fun x7 ex7 => ?_)
      have hf := zb_x hf ex7
      refine lv_istore_n (lv' := [(3, .int x7), (5, .int x4), (0, .ref (ad (26 + b))), (1, .int p1), (2, .int p2), (4, .int x3)]) hx hb dX2_valueOfRead_42 rfl hl (by decide) rfl (fun ls hl => ?_)
      obtain ⟨x8, ex8, hf⟩ := zb_k hf
      refine lv_iinc (v := x8) (lv' := [(4, .int x8), (3, .int x7), (5, .int x4), (0, .ref (ad (26 + b))), (1, .int p1), (2, .int p2)]) hx hb dX2_valueOfRead_43 hl (k := 5) rfl (by rw [ex8]; rfl) (by decide) rfl (fun ls hl => ?_)
      refine lv_goto (tgt := 7) hx hb dX2_valueOfRead_46 (by decide) ?_
      exact ih7 x7 x8 hf _ _ _ hP hS (lv_sub hl [3, 4, 5, 1, 0] rfl)
set_option maxHeartbeats 4000000 in
set_option maxRecDepth 100000 in
theorem c_X2_sumOfReads {l : Launch} {D : va_G} {cyI cyJ cyZ : ClassId} {ad : Nat → Nat} {b : Nat} (hAd : AdOK 31 ad) (hb2 : b < 2) {S : St} {p1 : Int32} {r : Int32} (hf : m_X2_sumOfReads b S p1 = some r) : Met l yX2_sumOfReads wsX2_sumOfReads rl_X2_sumOfReads (PreW D [(cyI, .int), (cyJ, .long), (cyZ, .boolean)] (cw cyI ad S) [.ref (ad (26 + b)), .int p1]) (PoI D (cw cyI ad S) (CA ad) r) 0 0 (CA ad) := by
  refine met_go (cc := cX2_sumOfReads) (maxL := 5) (ret := (some .int)) (by decide) rfl (Nat.le_of_ble_eq_true rfl) ?_
  intro p e s m args below meth c ls hx hb hr hml hts hown hlk hP hK hN hl
  have hown : s.vm.findClass RX2 = some m.cls := hown
  have hS : va_S (CA ad) s.heap s.heap [] := va_S.rf
  have hl : lv_has ls 5 [(0, .ref (ad (26 + b))), (1, .int p1)] := hl
  have hin2 : ∀ w ∈ wsX20, w ∈ wsX2_sumOfReads := by decide +kernel
  have hfl20 := hts (.fieldLink RX2 20 "Makewheel$Looker" "fresh" "LMakewheel$Rows;") (by decide +kernel)
  unfold m_X2_sumOfReads at hf
  refine lv_iconst (v := (nI 0)) hx hb dX2_sumOfReads_0 (by decide) ?_
  refine lv_istore_n (lv' := [(2, .int (nI 0)), (0, .ref (ad (26 + b))), (1, .int p1)]) hx hb dX2_sumOfReads_1 rfl hl (by decide) rfl (fun ls hl => ?_)
  refine lv_aload_n hx hb dX2_sumOfReads_2 rfl (lv_at hl 1 rfl) ?_
  refine va_get (D := D) (ci := 2) (v := .ref (ad (2 * (9 + 2 * b)))) (C := RX2) (T := TX2) (N := 10) hx hb hts hin2 hown hK hP (26 + b) (cw_lo (S := S) (b := b) hb2) rfl 7 (by decide) hfl20 (fun _ h9 => h9) rfl dX2_sumOfReads_3 ?_
  refine lv_iload_n hx hb dX2_sumOfReads_6 rfl (lv_at hl 2 rfl) ?_
  refine lv_bipush (v := (nI 14)) hx hb dX2_sumOfReads_7 (by decide) ?_
  obtain ⟨x1, hc9, hf⟩ := zo_k hf
  refine cal_i (rnV (As := [.int p1, .int (nI 14)]) (rest := []) ⟨hx, hb, hml, hown, hts⟩ (c_X4_get hAd (by omega) hc9) (cwV 2 hts gX2_sumOfReads_X4_get rfl rfl rfl cdV_X4_get ⟨Nat.le_of_ble_eq_true rfl, Nat.le_of_ble_eq_true rfl⟩) hP hK hN (cw_ro (S := S) (k := (9 + 2 * b)) (by omega)) rfl rfl hl.1 rfl (Nat.le_of_ble_eq_true rfl) dX2_sumOfReads_9 ⟨Nat.zero_le _, Nat.zero_le _⟩) hS (fun H locs hP hS => ?_)
  refine lv_istore_n (lv' := [(3, .int x1), (2, .int (nI 0)), (0, .ref (ad (26 + b))), (1, .int p1)]) hx hb dX2_sumOfReads_12 rfl hl (by decide) rfl (fun ls hl => ?_)
  refine lv_iconst (v := (nI 0)) hx hb dX2_sumOfReads_13 (by decide) ?_
  refine lv_istore (lv' := [(4, .int (nI 0)), (3, .int x1), (2, .int (nI 0)), (0, .ref (ad (26 + b))), (1, .int p1)]) hx hb dX2_sumOfReads_14 hl (by decide) rfl (fun ls hl => ?_)
  refine zl2_ind (F := (m_X2_sumOfReads_B16 x1 b S p1)) (R := r) (P := fun x2 x3 => ∀ (H : Heap) (locs : List Loc) (ls : Array Slot), va_P D vwCl (cw cyI ad S) H → va_S (CA ad) s.heap H locs → lv_has ls 5 [(3, .int x1), (0, .ref (ad (26 + b))), (1, .int p1), (2, .int x2), (4, .int x3)] → W p l e rl_X2_sumOfReads s m args below meth c H locs 0 0 (MQ below (PoI D (cw cyI ad S) (CA ad) r) args s 0 0 (CA ad)) (F0 m 16 ls [])) (fun rec16 ih16 x2 x3 hf H locs ls hP hS hl => ?_) FU (nI 0) (nI 0) hf _ _ _ hP hS (lv_sub hl [1, 3, 4, 2, 0] rfl)
  unfold m_X2_sumOfReads_B16 at hf
  refine lv_iload hx hb dX2_sumOfReads_16 (lv_at hl 4 rfl) ?_
  refine lv_iload_n hx hb dX2_sumOfReads_18 rfl (lv_at hl 0 rfl) ?_
  refine lv_icmp_ge (tgt := 50) hx hb dX2_sumOfReads_19 (by decide) (fun hc => ?_) (fun hc => ?_)
  · have hf := ifp hf hc
    refine lv_iload_n hx hb dX2_sumOfReads_50 rfl (lv_at hl 3 rfl) ?_
    exact fin_i hx hb hr hlk hS hP (Option.some.inj hf) dX2_sumOfReads_51
  · have hf := ifn hf hc
    refine lv_iload hx hb dX2_sumOfReads_22 (lv_at hl 4 rfl) ?_
    refine lv_iconst (v := (nI 5)) hx hb dX2_sumOfReads_24 (by decide) ?_
    refine lv_icmp_ge (tgt := 50) hx hb dX2_sumOfReads_25 (by decide) (fun hc => ?_) (fun hc => ?_)
    · have hf := ifp hf hc
      refine lv_iload_n hx hb dX2_sumOfReads_50 rfl (lv_at hl 3 rfl) ?_
      exact fin_i hx hb hr hlk hS hP (Option.some.inj hf) dX2_sumOfReads_51
    · have hf := ifn hf hc
      refine lv_iload_n hx hb dX2_sumOfReads_28 rfl (lv_at hl 3 rfl) ?_
      refine lv_aload_n hx hb dX2_sumOfReads_29 rfl (lv_at hl 1 rfl) ?_
      refine lv_iload_n hx hb dX2_sumOfReads_30 rfl (lv_at hl 2 rfl) ?_
      refine lv_bipush (v := (nI 15)) hx hb dX2_sumOfReads_31 (by decide) ?_
      refine lv_iload hx hb dX2_sumOfReads_33 (lv_at hl 4 rfl) ?_
      refine lv_bipush (v := (nI 7)) hx hb dX2_sumOfReads_35 (by decide) ?_
      refine lv_imul hx hb dX2_sumOfReads_37 ?_
      refine lv_iadd hx hb dX2_sumOfReads_38 ?_
      obtain ⟨x4, hc39, hf⟩ := zo_k hf
      refine cal_i (rnV (As := [.int p1, .int ((nI 15) + (x3 * (nI 7)))]) (rest := [.int x2]) ⟨hx, hb, hml, hown, hts⟩ (c_X2_valueOfRead hAd hb2 hc39) (cwV 2 hts gX2_sumOfReads_X2_valueOfRead rfl rfl rfl cdV_X2_valueOfRead ⟨Nat.le_of_ble_eq_true rfl, Nat.le_of_ble_eq_true rfl⟩) hP hK hN (cw_lo (S := S) (b := b) hb2) rfl rfl hl.1 rfl (Nat.le_of_ble_eq_true rfl) dX2_sumOfReads_39 ⟨Nat.zero_le _, Nat.zero_le _⟩) hS (fun H locs hP hS => ?_)
      refine lv_iadd hx hb dX2_sumOfReads_42 ?_
      refine lv_topi (fun x5 ex5 => ?_)
      have hf := zb_x hf ex5
      refine lv_istore_n (lv' := [(2, .int x5), (3, .int x1), (0, .ref (ad (26 + b))), (1, .int p1), (4, .int x3)]) hx hb dX2_sumOfReads_43 rfl hl (by decide) rfl (fun ls hl => ?_)
      obtain ⟨x6, ex6, hf⟩ := zb_k hf
      refine lv_iinc (v := x6) (lv' := [(4, .int x6), (2, .int x5), (3, .int x1), (0, .ref (ad (26 + b))), (1, .int p1)]) hx hb dX2_sumOfReads_44 hl (k := 4) rfl (by rw [ex6]; rfl) (by decide) rfl (fun ls hl => ?_)
      refine lv_goto (tgt := 16) hx hb dX2_sumOfReads_47 (by decide) ?_
      exact ih16 x5 x6 hf _ _ _ hP hS (lv_sub hl [2, 3, 4, 1, 0] rfl)
set_option maxHeartbeats 4000000 in
set_option maxRecDepth 100000 in
theorem c_X2_end {l : Launch} {D : va_G} {cyI cyJ cyZ : ClassId} {ad : Nat → Nat} {b : Nat} (hAd : AdOK 31 ad) (hb2 : b < 2) {S : St} {p1 : Int32} {p2 : Int32} {p3 : Int32} {r : Int32} {SZ : St} (hf : m_X2_end b S p1 p2 p3 = some (r, SZ)) : Met l yX2_end wsX2_end rl_X2_end (PreW D [(cyI, .int), (cyJ, .long), (cyZ, .boolean)] (cw cyI ad S) [.ref (ad (26 + b)), .int p1, .int p2, .int p3]) (PoI D (cw cyI ad SZ) (CA ad) r) 0 0 (CA ad) := by
  refine met_go (cc := cX2_end) (maxL := 4) (ret := (some .int)) (by decide) rfl (Nat.le_of_ble_eq_true rfl) ?_
  intro p e s m args below meth c ls hx hb hr hml hts hown hlk hP hK hN hl
  have hown : s.vm.findClass RX2 = some m.cls := hown
  have hS : va_S (CA ad) s.heap s.heap [] := va_S.rf
  have hl : lv_has ls 4 [(0, .ref (ad (26 + b))), (1, .int p1), (2, .int p2), (3, .int p3)] := hl
  have hin2 : ∀ w ∈ wsX20, w ∈ wsX2_end := by decide +kernel
  have hfl14 := hts (.fieldLink RX2 14 "Makewheel$Looker" "seen" "LMakewheel$Rows;") (by decide +kernel)
  unfold m_X2_end at hf
  refine lv_aload_n hx hb dX2_end_0 rfl (lv_at hl 0 rfl) ?_
  refine va_get (D := D) (ci := 2) (v := .ref (ad (2 * (8 + 2 * b)))) (C := RX2) (T := TX2) (N := 10) hx hb hts hin2 hown hK hP (26 + b) (cw_lo (S := S) (b := b) hb2) rfl 6 (by decide) hfl14 (fun _ h9 => h9) rfl dX2_end_1 ?_
  refine lv_iload_n hx hb dX2_end_4 rfl (lv_at hl 1 rfl) ?_
  refine lv_iconst (v := (nI 0)) hx hb dX2_end_5 (by decide) ?_
  refine lv_iload_n hx hb dX2_end_6 rfl (lv_at hl 2 rfl) ?_
  obtain ⟨S1, hc7, hf⟩ := zo_k hf
  refine cal_v (rnV (As := [.int p1, .int (nI 0), .int p2]) (rest := []) ⟨hx, hb, hml, hown, hts⟩ (c_X4_set hAd (by omega) hc7) (cwV 3 hts gX2_end_X4_set rfl rfl rfl cdV_X4_set ⟨Nat.le_of_ble_eq_true rfl, Nat.le_of_ble_eq_true rfl⟩) hP hK hN (cw_ro (S := S) (k := (8 + 2 * b)) (by omega)) rfl rfl hl.1 rfl (Nat.le_of_ble_eq_true rfl) dX2_end_7 ⟨Nat.zero_le _, Nat.zero_le _⟩) hS (fun H locs hP hS => ?_)
  refine lv_aload_n hx hb dX2_end_10 rfl (lv_at hl 0 rfl) ?_
  refine va_get (D := D) (ci := 2) (v := .ref (ad (2 * (8 + 2 * b)))) (C := RX2) (T := TX2) (N := 10) hx hb hts hin2 hown hK hP (26 + b) (cw_lo (S := S1) (b := b) hb2) rfl 6 (by decide) hfl14 (fun _ h9 => h9) rfl dX2_end_11 ?_
  refine lv_iload_n hx hb dX2_end_14 rfl (lv_at hl 1 rfl) ?_
  refine lv_iconst (v := (nI 1)) hx hb dX2_end_15 (by decide) ?_
  refine lv_iload_n hx hb dX2_end_16 rfl (lv_at hl 3 rfl) ?_
  obtain ⟨S2, hc17, hf⟩ := zo_k hf
  refine cal_v (rnV (As := [.int p1, .int (nI 1), .int p3]) (rest := []) ⟨hx, hb, hml, hown, hts⟩ (c_X4_set hAd (by omega) hc17) (cwV 3 hts gX2_end_X4_set rfl rfl rfl cdV_X4_set ⟨Nat.le_of_ble_eq_true rfl, Nat.le_of_ble_eq_true rfl⟩) hP hK hN (cw_ro (S := S1) (k := (8 + 2 * b)) (by omega)) rfl rfl hl.1 rfl (Nat.le_of_ble_eq_true rfl) dX2_end_17 ⟨Nat.zero_le _, Nat.zero_le _⟩) hS (fun H locs hP hS => ?_)
  refine lv_iload_n hx hb dX2_end_20 rfl (lv_at hl 3 rfl) ?_
  cases Option.some.inj hf
  exact fin_i hx hb hr hlk hS hP rfl dX2_end_21
set_option maxHeartbeats 4000000 in
set_option maxRecDepth 100000 in
theorem c_X2_seesItsFile {l : Launch} {D : va_G} {cyI cyJ cyZ : ClassId} {ad : Nat → Nat} {b : Nat} (hAd : AdOK 31 ad) (hb2 : b < 2) {S : St} {p1 : Int32} {r : Int32} (hf : m_X2_seesItsFile b S p1 = some r) : Met l yX2_seesItsFile wsX2_seesItsFile rl_X2_seesItsFile (PreW D [(cyI, .int), (cyJ, .long), (cyZ, .boolean)] (cw cyI ad S) [.ref (ad (26 + b)), .int p1]) (PoI D (cw cyI ad S) (CA ad) r) 0 0 (CA ad) := by
  refine met_go (cc := cX2_seesItsFile) (maxL := 7) (ret := (some .boolean)) (by decide) rfl (Nat.le_of_ble_eq_true rfl) ?_
  intro p e s m args below meth c ls hx hb hr hml hts hown hlk hP hK hN hl
  have hown : s.vm.findClass RX2 = some m.cls := hown
  have hS : va_S (CA ad) s.heap s.heap [] := va_S.rf
  have hl : lv_has ls 7 [(0, .ref (ad (26 + b))), (1, .int p1)] := hl
  have hin2 : ∀ w ∈ wsX20, w ∈ wsX2_seesItsFile := by decide +kernel
  have hfl20 := hts (.fieldLink RX2 20 "Makewheel$Looker" "fresh" "LMakewheel$Rows;") (by decide +kernel)
  unfold m_X2_seesItsFile at hf
  refine lv_aload_n hx hb dX2_seesItsFile_0 rfl (lv_at hl 0 rfl) ?_
  refine va_get (D := D) (ci := 2) (v := .ref (ad (2 * (9 + 2 * b)))) (C := RX2) (T := TX2) (N := 10) hx hb hts hin2 hown hK hP (26 + b) (cw_lo (S := S) (b := b) hb2) rfl 7 (by decide) hfl20 (fun _ h9 => h9) rfl dX2_seesItsFile_1 ?_
  refine lv_iload_n hx hb dX2_seesItsFile_4 rfl (lv_at hl 1 rfl) ?_
  refine lv_iconst (v := (nI 2)) hx hb dX2_seesItsFile_5 (by decide) ?_
  obtain ⟨x1, hc6, hf⟩ := zo_k hf
  refine cal_i (rnV (As := [.int p1, .int (nI 2)]) (rest := []) ⟨hx, hb, hml, hown, hts⟩ (c_X4_get hAd (by omega) hc6) (cwV 2 hts gX2_seesItsFile_X4_get rfl rfl rfl cdV_X4_get ⟨Nat.le_of_ble_eq_true rfl, Nat.le_of_ble_eq_true rfl⟩) hP hK hN (cw_ro (S := S) (k := (9 + 2 * b)) (by omega)) rfl rfl hl.1 rfl (Nat.le_of_ble_eq_true rfl) dX2_seesItsFile_6 ⟨Nat.zero_le _, Nat.zero_le _⟩) hS (fun H locs hP hS => ?_)
  refine lv_bipush (v := (nI 20)) hx hb dX2_seesItsFile_9 (by decide) ?_
  refine lv_irem hx hb dX2_seesItsFile_11 (by decide) ?_
  refine lv_topi (fun x2 ex2 => ?_)
  have hf := zb_x hf ex2
  refine lv_istore_n (lv' := [(2, .int x2), (0, .ref (ad (26 + b))), (1, .int p1)]) hx hb dX2_seesItsFile_12 rfl hl (by decide) rfl (fun ls hl => ?_)
  refine lv_aload_n hx hb dX2_seesItsFile_13 rfl (lv_at hl 1 rfl) ?_
  refine va_get (D := D) (ci := 2) (v := .ref (ad (2 * (9 + 2 * b)))) (C := RX2) (T := TX2) (N := 10) hx hb hts hin2 hown hK hP (26 + b) (cw_lo (S := S) (b := b) hb2) rfl 7 (by decide) hfl20 (fun _ h9 => h9) rfl dX2_seesItsFile_14 ?_
  refine lv_iload_n hx hb dX2_seesItsFile_17 rfl (lv_at hl 2 rfl) ?_
  refine lv_iconst (v := (nI 4)) hx hb dX2_seesItsFile_18 (by decide) ?_
  obtain ⟨x3, hc19, hf⟩ := zo_k hf
  refine cal_i (rnV (As := [.int p1, .int (nI 4)]) (rest := []) ⟨hx, hb, hml, hown, hts⟩ (c_X4_get hAd (by omega) hc19) (cwV 2 hts gX2_seesItsFile_X4_get rfl rfl rfl cdV_X4_get ⟨Nat.le_of_ble_eq_true rfl, Nat.le_of_ble_eq_true rfl⟩) hP hK hN (cw_ro (S := S) (k := (9 + 2 * b)) (by omega)) rfl rfl hl.1 rfl (Nat.le_of_ble_eq_true rfl) dX2_seesItsFile_19 ⟨Nat.zero_le _, Nat.zero_le _⟩) hS (fun H locs hP hS => ?_)
  refine lv_istore_n (lv' := [(3, .int x3), (2, .int x2), (0, .ref (ad (26 + b))), (1, .int p1)]) hx hb dX2_seesItsFile_22 rfl hl (by decide) rfl (fun ls hl => ?_)
  refine lv_iconst (v := (nI 0)) hx hb dX2_seesItsFile_23 (by decide) ?_
  refine lv_istore (lv' := [(4, .int (nI 0)), (3, .int x3), (2, .int x2), (0, .ref (ad (26 + b))), (1, .int p1)]) hx hb dX2_seesItsFile_24 hl (by decide) rfl (fun ls hl => ?_)
  refine zl1_ind (F := (m_X2_seesItsFile_B26 x3 b S p1 x2)) (R := r) (P := fun x4 => ∀ (H : Heap) (locs : List Loc) (ls : Array Slot), va_P D vwCl (cw cyI ad S) H → va_S (CA ad) s.heap H locs → lv_has ls 7 [(3, .int x3), (2, .int x2), (0, .ref (ad (26 + b))), (1, .int p1), (4, .int x4)] → W p l e rl_X2_seesItsFile s m args below meth c H locs 0 0 (MQ below (PoI D (cw cyI ad S) (CA ad) r) args s 0 0 (CA ad)) (F0 m 26 ls [])) (fun rec26 ih26 x4 hf H locs ls hP hS hl => ?_) FU (nI 0) hf _ _ _ hP hS (lv_sub hl [1, 2, 3, 4, 0] rfl)
  unfold m_X2_seesItsFile_B26 at hf
  refine lv_iload hx hb dX2_seesItsFile_26 (lv_at hl 4 rfl) ?_
  refine lv_iload_n hx hb dX2_seesItsFile_28 rfl (lv_at hl 0 rfl) ?_
  refine lv_icmp_ge (tgt := 107) hx hb dX2_seesItsFile_29 (by decide) (fun hc => ?_) (fun hc => ?_)
  · have hf := ifp hf hc
    refine lv_iconst (v := (nI 0)) hx hb dX2_seesItsFile_107 (by decide) ?_
    exact fin_z hx hb hr hlk hS hP rfl (Option.some.inj hf) dX2_seesItsFile_108
  · have hf := ifn hf hc
    refine lv_iload hx hb dX2_seesItsFile_32 (lv_at hl 4 rfl) ?_
    refine lv_iconst (v := (nI 4)) hx hb dX2_seesItsFile_34 (by decide) ?_
    refine lv_icmp_ge (tgt := 107) hx hb dX2_seesItsFile_35 (by decide) (fun hc => ?_) (fun hc => ?_)
    · have hf := ifp hf hc
      refine lv_iconst (v := (nI 0)) hx hb dX2_seesItsFile_107 (by decide) ?_
      exact fin_z hx hb hr hlk hS hP rfl (Option.some.inj hf) dX2_seesItsFile_108
    · have hf := ifn hf hc
      refine lv_aload_n hx hb dX2_seesItsFile_38 rfl (lv_at hl 2 rfl) ?_
      refine va_get (D := D) (ci := 2) (v := .ref (ad (2 * (9 + 2 * b)))) (C := RX2) (T := TX2) (N := 10) hx hb hts hin2 hown hK hP (26 + b) (cw_lo (S := S) (b := b) hb2) rfl 7 (by decide) hfl20 (fun _ h9 => h9) rfl dX2_seesItsFile_39 ?_
      refine lv_iload_n hx hb dX2_seesItsFile_42 rfl (lv_at hl 3 rfl) ?_
      refine lv_iconst (v := (nI 5)) hx hb dX2_seesItsFile_43 (by decide) ?_
      refine lv_iload hx hb dX2_seesItsFile_44 (lv_at hl 4 rfl) ?_
      refine lv_iconst (v := (nI 2)) hx hb dX2_seesItsFile_46 (by decide) ?_
      refine lv_imul hx hb dX2_seesItsFile_47 ?_
      refine lv_iadd hx hb dX2_seesItsFile_48 ?_
      refine lv_iconst (v := (nI 0)) hx hb dX2_seesItsFile_49 (by decide) ?_
      refine lv_iadd hx hb dX2_seesItsFile_50 ?_
      obtain ⟨x5, hc51, hf⟩ := zo_k hf
      refine cal_i (rnV (As := [.int p1, .int (((nI 5) + (x4 * (nI 2))) + (nI 0))]) (rest := []) ⟨hx, hb, hml, hown, hts⟩ (c_X4_get hAd (by omega) hc51) (cwV 2 hts gX2_seesItsFile_X4_get rfl rfl rfl cdV_X4_get ⟨Nat.le_of_ble_eq_true rfl, Nat.le_of_ble_eq_true rfl⟩) hP hK hN (cw_ro (S := S) (k := (9 + 2 * b)) (by omega)) rfl rfl hl.1 rfl (Nat.le_of_ble_eq_true rfl) dX2_seesItsFile_51 ⟨Nat.zero_le _, Nat.zero_le _⟩) hS (fun H locs hP hS => ?_)
      refine lv_istore (lv' := [(5, .int x5), (3, .int x3), (2, .int x2), (0, .ref (ad (26 + b))), (1, .int p1), (4, .int x4)]) hx hb dX2_seesItsFile_54 hl (by decide) rfl (fun ls hl => ?_)
      refine lv_aload_n hx hb dX2_seesItsFile_56 rfl (lv_at hl 3 rfl) ?_
      refine va_get (D := D) (ci := 2) (v := .ref (ad (2 * (9 + 2 * b)))) (C := RX2) (T := TX2) (N := 10) hx hb hts hin2 hown hK hP (26 + b) (cw_lo (S := S) (b := b) hb2) rfl 7 (by decide) hfl20 (fun _ h9 => h9) rfl dX2_seesItsFile_57 ?_
      refine lv_iload_n hx hb dX2_seesItsFile_60 rfl (lv_at hl 4 rfl) ?_
      refine lv_iconst (v := (nI 5)) hx hb dX2_seesItsFile_61 (by decide) ?_
      refine lv_iload hx hb dX2_seesItsFile_62 (lv_at hl 5 rfl) ?_
      refine lv_iconst (v := (nI 2)) hx hb dX2_seesItsFile_64 (by decide) ?_
      refine lv_imul hx hb dX2_seesItsFile_65 ?_
      refine lv_iadd hx hb dX2_seesItsFile_66 ?_
      refine lv_iconst (v := (nI 1)) hx hb dX2_seesItsFile_67 (by decide) ?_
      refine lv_iadd hx hb dX2_seesItsFile_68 ?_
      obtain ⟨x6, hc69, hf⟩ := zo_k hf
      refine cal_i (rnV (As := [.int p1, .int (((nI 5) + (x4 * (nI 2))) + (nI 1))]) (rest := []) ⟨hx, hb, hml, hown, hts⟩ (c_X4_get hAd (by omega) hc69) (cwV 2 hts gX2_seesItsFile_X4_get rfl rfl rfl cdV_X4_get ⟨Nat.le_of_ble_eq_true rfl, Nat.le_of_ble_eq_true rfl⟩) hP hK hN (cw_ro (S := S) (k := (9 + 2 * b)) (by omega)) rfl rfl hl.1 rfl (Nat.le_of_ble_eq_true rfl) dX2_seesItsFile_69 ⟨Nat.zero_le _, Nat.zero_le _⟩) hS (fun H locs hP hS => ?_)
      refine lv_istore (lv' := [(6, .int x6), (5, .int x5), (3, .int x3), (2, .int x2), (0, .ref (ad (26 + b))), (1, .int p1), (4, .int x4)]) hx hb dX2_seesItsFile_72 hl (by decide) rfl (fun ls hl => ?_)
      refine lv_iload hx hb dX2_seesItsFile_74 (lv_at hl 1 rfl) ?_
      have hJ85 : m_X2_seesItsFile_J85 x5 x6 x2 x4 rec26 = some r → ∀ (H : Heap) (locs : List Loc) (ls : Array Slot), va_P D vwCl (cw cyI ad S) H → va_S (CA ad) s.heap H locs → lv_has ls 7 [(6, .int x6), (5, .int x5), (3, .int x3), (2, .int x2), (0, .ref (ad (26 + b))), (1, .int p1), (4, .int x4)] → W p l e rl_X2_seesItsFile s m args below meth c H locs 0 0 (MQ below (PoI D (cw cyI ad S) (CA ad) r) args s 0 0 (CA ad)) (F0 m 85 ls []) := by
        intro  hf H locs ls hP hS hl
        unfold m_X2_seesItsFile_J85 at hf
        refine lv_iload hx hb dX2_seesItsFile_85 (lv_at hl 1 rfl) ?_
        refine lv_iconst (v := (nI 1)) hx hb dX2_seesItsFile_87 (by decide) ?_
        have hJ101 : m_X2_seesItsFile_J101 x4 rec26 = some r → ∀ (H : Heap) (locs : List Loc) (ls : Array Slot), va_P D vwCl (cw cyI ad S) H → va_S (CA ad) s.heap H locs → lv_has ls 7 [(3, .int x3), (2, .int x2), (0, .ref (ad (26 + b))), (1, .int p1), (4, .int x4)] → W p l e rl_X2_seesItsFile s m args below meth c H locs 0 0 (MQ below (PoI D (cw cyI ad S) (CA ad) r) args s 0 0 (CA ad)) (F0 m 101 ls []) := by
          intro  hf H locs ls hP hS hl
          unfold m_X2_seesItsFile_J101 at hf
          obtain ⟨x7, ex7, hf⟩ := zb_k hf
          refine lv_iinc (v := x7) (lv' := [(4, .int x7), (3, .int x3), (2, .int x2), (0, .ref (ad (26 + b))), (1, .int p1)]) hx hb dX2_seesItsFile_101 hl (k := 4) rfl (by rw [ex7]; rfl) (by decide) rfl (fun ls hl => ?_)
          refine lv_goto (tgt := 26) hx hb dX2_seesItsFile_104 (by decide) ?_
          exact ih26 x7 hf _ _ _ hP hS (lv_sub hl [1, 2, 3, 4, 0] rfl)
        refine lv_icmp_ne (tgt := 101) hx hb dX2_seesItsFile_88 (by decide) (fun hc => ?_) (fun hc => ?_)
        · have hf := ifn hf hc
          exact hJ101  hf _ _ _ hP hS (lv_sub hl [2, 3, 4, 5, 6] rfl)
        · have hf := ifp hf hc
          refine lv_iload hx hb dX2_seesItsFile_91 (lv_at hl 0 rfl) ?_
          refine lv_iload_n hx hb dX2_seesItsFile_93 rfl (lv_at hl 3 rfl) ?_
          refine lv_iconst (v := (nI 5)) hx hb dX2_seesItsFile_94 (by decide) ?_
          refine lv_idiv hx hb dX2_seesItsFile_95 (by decide) ?_
          refine lv_icmp_ne (tgt := 101) hx hb dX2_seesItsFile_96 (by decide) (fun hc => ?_) (fun hc => ?_)
          · have hf := ifn hf hc
            exact hJ101  hf _ _ _ hP hS (lv_sub hl [2, 3, 4, 5, 6] rfl)
          · have hf := ifp hf hc
            refine lv_iconst (v := (nI 1)) hx hb dX2_seesItsFile_99 (by decide) ?_
            exact fin_z hx hb hr hlk hS hP rfl (Option.some.inj hf) dX2_seesItsFile_100
      refine lv_if_ne (tgt := 85) hx hb dX2_seesItsFile_76 (by decide) (fun hc => ?_) (fun hc => ?_)
      · have hf := ifn hf hc
        exact hJ85  hf _ _ _ hP hS (lv_sub hl [0, 1, 2, 3, 4, 5, 6] rfl)
      · have hf := ifp hf hc
        refine lv_iload hx hb dX2_seesItsFile_79 (lv_at hl 0 rfl) ?_
        refine lv_iload_n hx hb dX2_seesItsFile_81 rfl (lv_at hl 3 rfl) ?_
        refine lv_icmp_eq (tgt := 99) hx hb dX2_seesItsFile_82 (by decide) (fun hc => ?_) (fun hc => ?_)
        · have hf := ifp hf hc
          refine lv_iconst (v := (nI 1)) hx hb dX2_seesItsFile_99 (by decide) ?_
          exact fin_z hx hb hr hlk hS hP rfl (Option.some.inj hf) dX2_seesItsFile_100
        · have hf := ifn hf hc
          exact hJ85  hf _ _ _ hP hS (lv_sub hl [0, 1, 2, 3, 4, 5, 6] rfl)
set_option maxHeartbeats 4000000 in
set_option maxRecDepth 100000 in
theorem c_X2_resultOf {l : Launch} {D : va_G} {cyI cyJ cyZ : ClassId} {ad : Nat → Nat} {b : Nat} (hAd : AdOK 31 ad) (hb2 : b < 2) {S : St} {p1 : Int32} {r : Int32} (hf : m_X2_resultOf b S p1 = some r) : Met l yX2_resultOf wsX2_resultOf rl_X2_resultOf (PreW D [(cyI, .int), (cyJ, .long), (cyZ, .boolean)] (cw cyI ad S) [.ref (ad (26 + b)), .int p1]) (PoI D (cw cyI ad S) (CA ad) r) 0 0 (CA ad) := by
  refine met_go (cc := cX2_resultOf) (maxL := 5) (ret := (some .int)) (by decide) rfl (Nat.le_of_ble_eq_true rfl) ?_
  intro p e s m args below meth c ls hx hb hr hml hts hown hlk hP hK hN hl
  have hown : s.vm.findClass RX2 = some m.cls := hown
  have hS : va_S (CA ad) s.heap s.heap [] := va_S.rf
  have hl : lv_has ls 5 [(0, .ref (ad (26 + b))), (1, .int p1)] := hl
  have hin2 : ∀ w ∈ wsX20, w ∈ wsX2_resultOf := by decide +kernel
  have hfl20 := hts (.fieldLink RX2 20 "Makewheel$Looker" "fresh" "LMakewheel$Rows;") (by decide +kernel)
  have hfl23 := hts (.fieldLink RX2 23 "Makewheel$Looker" "files" "LMakewheel$Rows;") (by decide +kernel)
  unfold m_X2_resultOf at hf
  refine lv_aload_n hx hb dX2_resultOf_0 rfl (lv_at hl 0 rfl) ?_
  refine lv_iload_n hx hb dX2_resultOf_1 rfl (lv_at hl 1 rfl) ?_
  obtain ⟨x1, hc2, hf⟩ := zo_k hf
  refine cal_i (rnV (As := [.int p1]) (rest := []) ⟨hx, hb, hml, hown, hts⟩ (c_X2_sumOfReads hAd hb2 hc2) (cwV 1 hts gX2_resultOf_X2_sumOfReads rfl rfl rfl cdV_X2_sumOfReads ⟨Nat.le_of_ble_eq_true rfl, Nat.le_of_ble_eq_true rfl⟩) hP hK hN (cw_lo (S := S) (b := b) hb2) rfl rfl hl.1 rfl (Nat.le_of_ble_eq_true rfl) dX2_resultOf_2 ⟨Nat.zero_le _, Nat.zero_le _⟩) hS (fun H locs hP hS => ?_)
  refine lv_istore_n (lv' := [(2, .int x1), (0, .ref (ad (26 + b))), (1, .int p1)]) hx hb dX2_resultOf_5 rfl hl (by decide) rfl (fun ls hl => ?_)
  refine lv_aload_n hx hb dX2_resultOf_6 rfl (lv_at hl 1 rfl) ?_
  refine va_get (D := D) (ci := 2) (v := .ref (ad (2 * (9 + 2 * b)))) (C := RX2) (T := TX2) (N := 10) hx hb hts hin2 hown hK hP (26 + b) (cw_lo (S := S) (b := b) hb2) rfl 7 (by decide) hfl20 (fun _ h9 => h9) rfl dX2_resultOf_7 ?_
  refine lv_iload_n hx hb dX2_resultOf_10 rfl (lv_at hl 2 rfl) ?_
  refine lv_iconst (v := (nI 1)) hx hb dX2_resultOf_11 (by decide) ?_
  obtain ⟨x2, hc12, hf⟩ := zo_k hf
  refine cal_i (rnV (As := [.int p1, .int (nI 1)]) (rest := []) ⟨hx, hb, hml, hown, hts⟩ (c_X4_get hAd (by omega) hc12) (cwV 2 hts gX2_resultOf_X4_get rfl rfl rfl cdV_X4_get ⟨Nat.le_of_ble_eq_true rfl, Nat.le_of_ble_eq_true rfl⟩) hP hK hN (cw_ro (S := S) (k := (9 + 2 * b)) (by omega)) rfl rfl hl.1 rfl (Nat.le_of_ble_eq_true rfl) dX2_resultOf_12 ⟨Nat.zero_le _, Nat.zero_le _⟩) hS (fun H locs hP hS => ?_)
  refine lv_istore_n (lv' := [(3, .int x2), (2, .int x1), (0, .ref (ad (26 + b))), (1, .int p1)]) hx hb dX2_resultOf_15 rfl hl (by decide) rfl (fun ls hl => ?_)
  refine lv_iload_n hx hb dX2_resultOf_16 rfl (lv_at hl 0 rfl) ?_
  refine lv_iconst (v := (nI 1)) hx hb dX2_resultOf_17 (by decide) ?_
  refine lv_icmp_ne (tgt := 26) hx hb dX2_resultOf_18 (by decide) (fun hc => ?_) (fun hc => ?_)
  · have hf := ifn hf hc
    refine lv_iload_n hx hb dX2_resultOf_26 rfl (lv_at hl 0 rfl) ?_
    refine lv_iconst (v := (nI 4)) hx hb dX2_resultOf_27 (by decide) ?_
    refine lv_icmp_ne (tgt := 75) hx hb dX2_resultOf_28 (by decide) (fun hc => ?_) (fun hc => ?_)
    · have hf := ifn hf hc
      refine lv_iload_n hx hb dX2_resultOf_75 rfl (lv_at hl 1 rfl) ?_
      refine lv_aload_n hx hb dX2_resultOf_76 rfl (lv_at hl 2 rfl) ?_
      refine va_get (D := D) (ci := 2) (v := .ref (ad (2 * (9 + 2 * b)))) (C := RX2) (T := TX2) (N := 10) hx hb hts hin2 hown hK hP (26 + b) (cw_lo (S := S) (b := b) hb2) rfl 7 (by decide) hfl20 (fun _ h9 => h9) rfl dX2_resultOf_77 ?_
      refine lv_iload_n hx hb dX2_resultOf_80 rfl (lv_at hl 3 rfl) ?_
      refine lv_iconst (v := (nI 3)) hx hb dX2_resultOf_81 (by decide) ?_
      obtain ⟨x3, hc82, hf⟩ := zo_k hf
      refine cal_i (rnV (As := [.int p1, .int (nI 3)]) (rest := [.int x1]) ⟨hx, hb, hml, hown, hts⟩ (c_X4_get hAd (by omega) hc82) (cwV 2 hts gX2_resultOf_X4_get rfl rfl rfl cdV_X4_get ⟨Nat.le_of_ble_eq_true rfl, Nat.le_of_ble_eq_true rfl⟩) hP hK hN (cw_ro (S := S) (k := (9 + 2 * b)) (by omega)) rfl rfl hl.1 rfl (Nat.le_of_ble_eq_true rfl) dX2_resultOf_82 ⟨Nat.zero_le _, Nat.zero_le _⟩) hS (fun H locs hP hS => ?_)
      refine lv_iadd hx hb dX2_resultOf_85 ?_
      refine lv_sipush (v := (nI 1000)) hx hb dX2_resultOf_86 (by decide) ?_
      refine lv_irem hx hb dX2_resultOf_89 (by decide) ?_
      exact fin_i hx hb hr hlk hS hP (Option.some.inj hf) dX2_resultOf_90
    · have hf := ifp hf hc
      refine lv_aload_n hx hb dX2_resultOf_31 rfl (lv_at hl 2 rfl) ?_
      refine lv_iload_n hx hb dX2_resultOf_32 rfl (lv_at hl 3 rfl) ?_
      obtain ⟨x4, hc33, hf⟩ := zo_k hf
      refine cal_i (rnV (As := [.int p1]) (rest := []) ⟨hx, hb, hml, hown, hts⟩ (c_X2_seesItsFile hAd hb2 hc33) (cwV 1 hts gX2_resultOf_X2_seesItsFile rfl rfl rfl cdV_X2_seesItsFile ⟨Nat.le_of_ble_eq_true rfl, Nat.le_of_ble_eq_true rfl⟩) hP hK hN (cw_lo (S := S) (b := b) hb2) rfl rfl hl.1 rfl (Nat.le_of_ble_eq_true rfl) dX2_resultOf_33 ⟨Nat.zero_le _, Nat.zero_le _⟩) hS (fun H locs hP hS => ?_)
      refine lv_if_eq (tgt := 75) hx hb dX2_resultOf_36 (by decide) (fun hc => ?_) (fun hc => ?_)
      · have hf := ifp hf hc
        refine lv_iload_n hx hb dX2_resultOf_75 rfl (lv_at hl 1 rfl) ?_
        refine lv_aload_n hx hb dX2_resultOf_76 rfl (lv_at hl 2 rfl) ?_
        refine va_get (D := D) (ci := 2) (v := .ref (ad (2 * (9 + 2 * b)))) (C := RX2) (T := TX2) (N := 10) hx hb hts hin2 hown hK hP (26 + b) (cw_lo (S := S) (b := b) hb2) rfl 7 (by decide) hfl20 (fun _ h9 => h9) rfl dX2_resultOf_77 ?_
        refine lv_iload_n hx hb dX2_resultOf_80 rfl (lv_at hl 3 rfl) ?_
        refine lv_iconst (v := (nI 3)) hx hb dX2_resultOf_81 (by decide) ?_
        obtain ⟨x5, hc82, hf⟩ := zo_k hf
        refine cal_i (rnV (As := [.int p1, .int (nI 3)]) (rest := [.int x1]) ⟨hx, hb, hml, hown, hts⟩ (c_X4_get hAd (by omega) hc82) (cwV 2 hts gX2_resultOf_X4_get rfl rfl rfl cdV_X4_get ⟨Nat.le_of_ble_eq_true rfl, Nat.le_of_ble_eq_true rfl⟩) hP hK hN (cw_ro (S := S) (k := (9 + 2 * b)) (by omega)) rfl rfl hl.1 rfl (Nat.le_of_ble_eq_true rfl) dX2_resultOf_82 ⟨Nat.zero_le _, Nat.zero_le _⟩) hS (fun H locs hP hS => ?_)
        refine lv_iadd hx hb dX2_resultOf_85 ?_
        refine lv_sipush (v := (nI 1000)) hx hb dX2_resultOf_86 (by decide) ?_
        refine lv_irem hx hb dX2_resultOf_89 (by decide) ?_
        exact fin_i hx hb hr hlk hS hP (Option.some.inj hf) dX2_resultOf_90
      · have hf := ifn hf hc
        refine lv_aload_n hx hb dX2_resultOf_39 rfl (lv_at hl 2 rfl) ?_
        refine va_get (D := D) (ci := 2) (v := .ref (ad (2 * 0))) (C := RX2) (T := TX2) (N := 10) hx hb hts hin2 hown hK hP (26 + b) (cw_lo (S := S) (b := b) hb2) rfl 0 (by decide) hfl23 (fun _ h9 => h9) rfl dX2_resultOf_40 ?_
        refine lv_aload_n hx hb dX2_resultOf_43 rfl (lv_at hl 2 rfl) ?_
        refine va_get (D := D) (ci := 2) (v := .ref (ad (2 * (9 + 2 * b)))) (C := RX2) (T := TX2) (N := 10) hx hb hts hin2 hown hK hP (26 + b) (cw_lo (S := S) (b := b) hb2) rfl 7 (by decide) hfl20 (fun _ h9 => h9) rfl dX2_resultOf_44 ?_
        refine lv_iload_n hx hb dX2_resultOf_47 rfl (lv_at hl 3 rfl) ?_
        refine lv_iconst (v := (nI 2)) hx hb dX2_resultOf_48 (by decide) ?_
        obtain ⟨x6, hc49, hf⟩ := zo_k hf
        refine cal_i (rnV (As := [.int p1, .int (nI 2)]) (rest := [.ref (ad (2 * 0))]) ⟨hx, hb, hml, hown, hts⟩ (c_X4_get hAd (by omega) hc49) (cwV 2 hts gX2_resultOf_X4_get rfl rfl rfl cdV_X4_get ⟨Nat.le_of_ble_eq_true rfl, Nat.le_of_ble_eq_true rfl⟩) hP hK hN (cw_ro (S := S) (k := (9 + 2 * b)) (by omega)) rfl rfl hl.1 rfl (Nat.le_of_ble_eq_true rfl) dX2_resultOf_49 ⟨Nat.zero_le _, Nat.zero_le _⟩) hS (fun H locs hP hS => ?_)
        refine lv_bipush (v := (nI 20)) hx hb dX2_resultOf_52 (by decide) ?_
        refine lv_irem hx hb dX2_resultOf_54 (by decide) ?_
        obtain ⟨x7, hc55, hf⟩ := zo_k hf
        refine cal_i (rnSN (As := [.ref (ad (2 * 0)), .int (irm x6 (nI 20))]) (rest := []) ⟨hx, hb, hml, hown, hts⟩ (c_X6_contentOf hAd (by decide) hc55) ⟨va_cnB 2 hts gX2_resultOf_X6_contentOf_n126 rfl rfl rfl hN.n2_126 (hts (.initialized RX6) (by decide +kernel)) cdS_X6_contentOf ⟨Nat.le_of_ble_eq_true rfl, Nat.le_of_ble_eq_true rfl⟩, hts (.static yX6_contentOf) (by decide +kernel), trivial⟩ hP hK hN rfl hl.1 rfl (Nat.le_of_ble_eq_true rfl) dX2_resultOf_55 ⟨Nat.zero_le _, Nat.zero_le _⟩) hS (fun H locs hP hS => ?_)
        refine lv_istore (lv' := [(4, .int x7), (3, .int x2), (2, .int x1), (0, .ref (ad (26 + b))), (1, .int p1)]) hx hb dX2_resultOf_58 hl (by decide) rfl (fun ls hl => ?_)
        refine lv_iload_n hx hb dX2_resultOf_60 rfl (lv_at hl 2 rfl) ?_
        refine lv_iload hx hb dX2_resultOf_61 (lv_at hl 0 rfl) ?_
        refine lv_iconst (v := (-1)) hx hb dX2_resultOf_63 (by decide) ?_
        refine lv_icmp_ne (tgt := 71) hx hb dX2_resultOf_64 (by decide) (fun hc => ?_) (fun hc => ?_)
        · have hf := ifn hf hc
          refine lv_iload hx hb dX2_resultOf_71 (lv_at hl 0 rfl) ?_
          refine lv_iadd hx hb dX2_resultOf_73 ?_
          refine lv_topi (fun x8 ex8 => ?_)
          have hf := zb_x hf ex8
          refine lv_istore_n (lv' := [(2, .int x8), (4, .int x7), (3, .int x2), (0, .ref (ad (26 + b))), (1, .int p1)]) hx hb dX2_resultOf_74 rfl hl (by decide) rfl (fun ls hl => ?_)
          refine lv_iload_n hx hb dX2_resultOf_75 rfl (lv_at hl 0 rfl) ?_
          refine lv_aload_n hx hb dX2_resultOf_76 rfl (lv_at hl 3 rfl) ?_
          refine va_get (D := D) (ci := 2) (v := .ref (ad (2 * (9 + 2 * b)))) (C := RX2) (T := TX2) (N := 10) hx hb hts hin2 hown hK hP (26 + b) (cw_lo (S := S) (b := b) hb2) rfl 7 (by decide) hfl20 (fun _ h9 => h9) rfl dX2_resultOf_77 ?_
          refine lv_iload_n hx hb dX2_resultOf_80 rfl (lv_at hl 4 rfl) ?_
          refine lv_iconst (v := (nI 3)) hx hb dX2_resultOf_81 (by decide) ?_
          obtain ⟨x9, hc82, hf⟩ := zo_k hf
          refine cal_i (rnV (As := [.int p1, .int (nI 3)]) (rest := [.int x8]) ⟨hx, hb, hml, hown, hts⟩ (c_X4_get hAd (by omega) hc82) (cwV 2 hts gX2_resultOf_X4_get rfl rfl rfl cdV_X4_get ⟨Nat.le_of_ble_eq_true rfl, Nat.le_of_ble_eq_true rfl⟩) hP hK hN (cw_ro (S := S) (k := (9 + 2 * b)) (by omega)) rfl rfl hl.1 rfl (Nat.le_of_ble_eq_true rfl) dX2_resultOf_82 ⟨Nat.zero_le _, Nat.zero_le _⟩) hS (fun H locs hP hS => ?_)
          refine lv_iadd hx hb dX2_resultOf_85 ?_
          refine lv_sipush (v := (nI 1000)) hx hb dX2_resultOf_86 (by decide) ?_
          refine lv_irem hx hb dX2_resultOf_89 (by decide) ?_
          exact fin_i hx hb hr hlk hS hP (Option.some.inj hf) dX2_resultOf_90
        · have hf := ifp hf hc
          refine lv_iconst (v := (nI 0)) hx hb dX2_resultOf_67 (by decide) ?_
          refine lv_goto (tgt := 73) hx hb dX2_resultOf_68 (by decide) ?_
          refine lv_iadd hx hb dX2_resultOf_73 ?_
          refine lv_topi (fun x10 ex10 => ?_)
          have hf := zb_x hf ex10
          refine lv_istore_n (lv' := [(2, .int x10), (4, .int x7), (3, .int x2), (0, .ref (ad (26 + b))), (1, .int p1)]) hx hb dX2_resultOf_74 rfl hl (by decide) rfl (fun ls hl => ?_)
          refine lv_iload_n hx hb dX2_resultOf_75 rfl (lv_at hl 0 rfl) ?_
          refine lv_aload_n hx hb dX2_resultOf_76 rfl (lv_at hl 3 rfl) ?_
          refine va_get (D := D) (ci := 2) (v := .ref (ad (2 * (9 + 2 * b)))) (C := RX2) (T := TX2) (N := 10) hx hb hts hin2 hown hK hP (26 + b) (cw_lo (S := S) (b := b) hb2) rfl 7 (by decide) hfl20 (fun _ h9 => h9) rfl dX2_resultOf_77 ?_
          refine lv_iload_n hx hb dX2_resultOf_80 rfl (lv_at hl 4 rfl) ?_
          refine lv_iconst (v := (nI 3)) hx hb dX2_resultOf_81 (by decide) ?_
          obtain ⟨x11, hc82, hf⟩ := zo_k hf
          refine cal_i (rnV (As := [.int p1, .int (nI 3)]) (rest := [.int x10]) ⟨hx, hb, hml, hown, hts⟩ (c_X4_get hAd (by omega) hc82) (cwV 2 hts gX2_resultOf_X4_get rfl rfl rfl cdV_X4_get ⟨Nat.le_of_ble_eq_true rfl, Nat.le_of_ble_eq_true rfl⟩) hP hK hN (cw_ro (S := S) (k := (9 + 2 * b)) (by omega)) rfl rfl hl.1 rfl (Nat.le_of_ble_eq_true rfl) dX2_resultOf_82 ⟨Nat.zero_le _, Nat.zero_le _⟩) hS (fun H locs hP hS => ?_)
          refine lv_iadd hx hb dX2_resultOf_85 ?_
          refine lv_sipush (v := (nI 1000)) hx hb dX2_resultOf_86 (by decide) ?_
          refine lv_irem hx hb dX2_resultOf_89 (by decide) ?_
          exact fin_i hx hb hr hlk hS hP (Option.some.inj hf) dX2_resultOf_90
  · have hf := ifp hf hc
    refine lv_iload_n hx hb dX2_resultOf_21 rfl (lv_at hl 1 rfl) ?_
    refine lv_bipush (v := (nI 10)) hx hb dX2_resultOf_22 (by decide) ?_
    refine lv_idiv hx hb dX2_resultOf_24 (by decide) ?_
    refine lv_topi (fun x12 ex12 => ?_)
    have hf := zb_x hf ex12
    refine lv_istore_n (lv' := [(2, .int x12), (3, .int x2), (0, .ref (ad (26 + b))), (1, .int p1)]) hx hb dX2_resultOf_25 rfl hl (by decide) rfl (fun ls hl => ?_)
    refine lv_iload_n hx hb dX2_resultOf_26 rfl (lv_at hl 1 rfl) ?_
    refine lv_iconst (v := (nI 4)) hx hb dX2_resultOf_27 (by decide) ?_
    refine lv_icmp_ne (tgt := 75) hx hb dX2_resultOf_28 (by decide) (fun hc => ?_) (fun hc => ?_)
    · have hf := ifn hf hc
      refine lv_iload_n hx hb dX2_resultOf_75 rfl (lv_at hl 0 rfl) ?_
      refine lv_aload_n hx hb dX2_resultOf_76 rfl (lv_at hl 2 rfl) ?_
      refine va_get (D := D) (ci := 2) (v := .ref (ad (2 * (9 + 2 * b)))) (C := RX2) (T := TX2) (N := 10) hx hb hts hin2 hown hK hP (26 + b) (cw_lo (S := S) (b := b) hb2) rfl 7 (by decide) hfl20 (fun _ h9 => h9) rfl dX2_resultOf_77 ?_
      refine lv_iload_n hx hb dX2_resultOf_80 rfl (lv_at hl 3 rfl) ?_
      refine lv_iconst (v := (nI 3)) hx hb dX2_resultOf_81 (by decide) ?_
      obtain ⟨x13, hc82, hf⟩ := zo_k hf
      refine cal_i (rnV (As := [.int p1, .int (nI 3)]) (rest := [.int x12]) ⟨hx, hb, hml, hown, hts⟩ (c_X4_get hAd (by omega) hc82) (cwV 2 hts gX2_resultOf_X4_get rfl rfl rfl cdV_X4_get ⟨Nat.le_of_ble_eq_true rfl, Nat.le_of_ble_eq_true rfl⟩) hP hK hN (cw_ro (S := S) (k := (9 + 2 * b)) (by omega)) rfl rfl hl.1 rfl (Nat.le_of_ble_eq_true rfl) dX2_resultOf_82 ⟨Nat.zero_le _, Nat.zero_le _⟩) hS (fun H locs hP hS => ?_)
      refine lv_iadd hx hb dX2_resultOf_85 ?_
      refine lv_sipush (v := (nI 1000)) hx hb dX2_resultOf_86 (by decide) ?_
      refine lv_irem hx hb dX2_resultOf_89 (by decide) ?_
      exact fin_i hx hb hr hlk hS hP (Option.some.inj hf) dX2_resultOf_90
    · have hf := ifp hf hc
      refine lv_aload_n hx hb dX2_resultOf_31 rfl (lv_at hl 2 rfl) ?_
      refine lv_iload_n hx hb dX2_resultOf_32 rfl (lv_at hl 3 rfl) ?_
      obtain ⟨x14, hc33, hf⟩ := zo_k hf
      refine cal_i (rnV (As := [.int p1]) (rest := []) ⟨hx, hb, hml, hown, hts⟩ (c_X2_seesItsFile hAd hb2 hc33) (cwV 1 hts gX2_resultOf_X2_seesItsFile rfl rfl rfl cdV_X2_seesItsFile ⟨Nat.le_of_ble_eq_true rfl, Nat.le_of_ble_eq_true rfl⟩) hP hK hN (cw_lo (S := S) (b := b) hb2) rfl rfl hl.1 rfl (Nat.le_of_ble_eq_true rfl) dX2_resultOf_33 ⟨Nat.zero_le _, Nat.zero_le _⟩) hS (fun H locs hP hS => ?_)
      refine lv_if_eq (tgt := 75) hx hb dX2_resultOf_36 (by decide) (fun hc => ?_) (fun hc => ?_)
      · have hf := ifp hf hc
        refine lv_iload_n hx hb dX2_resultOf_75 rfl (lv_at hl 0 rfl) ?_
        refine lv_aload_n hx hb dX2_resultOf_76 rfl (lv_at hl 2 rfl) ?_
        refine va_get (D := D) (ci := 2) (v := .ref (ad (2 * (9 + 2 * b)))) (C := RX2) (T := TX2) (N := 10) hx hb hts hin2 hown hK hP (26 + b) (cw_lo (S := S) (b := b) hb2) rfl 7 (by decide) hfl20 (fun _ h9 => h9) rfl dX2_resultOf_77 ?_
        refine lv_iload_n hx hb dX2_resultOf_80 rfl (lv_at hl 3 rfl) ?_
        refine lv_iconst (v := (nI 3)) hx hb dX2_resultOf_81 (by decide) ?_
        obtain ⟨x15, hc82, hf⟩ := zo_k hf
        refine cal_i (rnV (As := [.int p1, .int (nI 3)]) (rest := [.int x12]) ⟨hx, hb, hml, hown, hts⟩ (c_X4_get hAd (by omega) hc82) (cwV 2 hts gX2_resultOf_X4_get rfl rfl rfl cdV_X4_get ⟨Nat.le_of_ble_eq_true rfl, Nat.le_of_ble_eq_true rfl⟩) hP hK hN (cw_ro (S := S) (k := (9 + 2 * b)) (by omega)) rfl rfl hl.1 rfl (Nat.le_of_ble_eq_true rfl) dX2_resultOf_82 ⟨Nat.zero_le _, Nat.zero_le _⟩) hS (fun H locs hP hS => ?_)
        refine lv_iadd hx hb dX2_resultOf_85 ?_
        refine lv_sipush (v := (nI 1000)) hx hb dX2_resultOf_86 (by decide) ?_
        refine lv_irem hx hb dX2_resultOf_89 (by decide) ?_
        exact fin_i hx hb hr hlk hS hP (Option.some.inj hf) dX2_resultOf_90
      · have hf := ifn hf hc
        refine lv_aload_n hx hb dX2_resultOf_39 rfl (lv_at hl 2 rfl) ?_
        refine va_get (D := D) (ci := 2) (v := .ref (ad (2 * 0))) (C := RX2) (T := TX2) (N := 10) hx hb hts hin2 hown hK hP (26 + b) (cw_lo (S := S) (b := b) hb2) rfl 0 (by decide) hfl23 (fun _ h9 => h9) rfl dX2_resultOf_40 ?_
        refine lv_aload_n hx hb dX2_resultOf_43 rfl (lv_at hl 2 rfl) ?_
        refine va_get (D := D) (ci := 2) (v := .ref (ad (2 * (9 + 2 * b)))) (C := RX2) (T := TX2) (N := 10) hx hb hts hin2 hown hK hP (26 + b) (cw_lo (S := S) (b := b) hb2) rfl 7 (by decide) hfl20 (fun _ h9 => h9) rfl dX2_resultOf_44 ?_
        refine lv_iload_n hx hb dX2_resultOf_47 rfl (lv_at hl 3 rfl) ?_
        refine lv_iconst (v := (nI 2)) hx hb dX2_resultOf_48 (by decide) ?_
        obtain ⟨x16, hc49, hf⟩ := zo_k hf
        refine cal_i (rnV (As := [.int p1, .int (nI 2)]) (rest := [.ref (ad (2 * 0))]) ⟨hx, hb, hml, hown, hts⟩ (c_X4_get hAd (by omega) hc49) (cwV 2 hts gX2_resultOf_X4_get rfl rfl rfl cdV_X4_get ⟨Nat.le_of_ble_eq_true rfl, Nat.le_of_ble_eq_true rfl⟩) hP hK hN (cw_ro (S := S) (k := (9 + 2 * b)) (by omega)) rfl rfl hl.1 rfl (Nat.le_of_ble_eq_true rfl) dX2_resultOf_49 ⟨Nat.zero_le _, Nat.zero_le _⟩) hS (fun H locs hP hS => ?_)
        refine lv_bipush (v := (nI 20)) hx hb dX2_resultOf_52 (by decide) ?_
        refine lv_irem hx hb dX2_resultOf_54 (by decide) ?_
        obtain ⟨x17, hc55, hf⟩ := zo_k hf
        refine cal_i (rnSN (As := [.ref (ad (2 * 0)), .int (irm x16 (nI 20))]) (rest := []) ⟨hx, hb, hml, hown, hts⟩ (c_X6_contentOf hAd (by decide) hc55) ⟨va_cnB 2 hts gX2_resultOf_X6_contentOf_n126 rfl rfl rfl hN.n2_126 (hts (.initialized RX6) (by decide +kernel)) cdS_X6_contentOf ⟨Nat.le_of_ble_eq_true rfl, Nat.le_of_ble_eq_true rfl⟩, hts (.static yX6_contentOf) (by decide +kernel), trivial⟩ hP hK hN rfl hl.1 rfl (Nat.le_of_ble_eq_true rfl) dX2_resultOf_55 ⟨Nat.zero_le _, Nat.zero_le _⟩) hS (fun H locs hP hS => ?_)
        refine lv_istore (lv' := [(4, .int x17), (2, .int x12), (3, .int x2), (0, .ref (ad (26 + b))), (1, .int p1)]) hx hb dX2_resultOf_58 hl (by decide) rfl (fun ls hl => ?_)
        refine lv_iload_n hx hb dX2_resultOf_60 rfl (lv_at hl 1 rfl) ?_
        refine lv_iload hx hb dX2_resultOf_61 (lv_at hl 0 rfl) ?_
        refine lv_iconst (v := (-1)) hx hb dX2_resultOf_63 (by decide) ?_
        refine lv_icmp_ne (tgt := 71) hx hb dX2_resultOf_64 (by decide) (fun hc => ?_) (fun hc => ?_)
        · have hf := ifn hf hc
          refine lv_iload hx hb dX2_resultOf_71 (lv_at hl 0 rfl) ?_
          refine lv_iadd hx hb dX2_resultOf_73 ?_
          refine lv_topi (fun x18 ex18 => ?_)
          have hf := zb_x hf ex18
          refine lv_istore_n (lv' := [(2, .int x18), (4, .int x17), (3, .int x2), (0, .ref (ad (26 + b))), (1, .int p1)]) hx hb dX2_resultOf_74 rfl hl (by decide) rfl (fun ls hl => ?_)
          refine lv_iload_n hx hb dX2_resultOf_75 rfl (lv_at hl 0 rfl) ?_
          refine lv_aload_n hx hb dX2_resultOf_76 rfl (lv_at hl 3 rfl) ?_
          refine va_get (D := D) (ci := 2) (v := .ref (ad (2 * (9 + 2 * b)))) (C := RX2) (T := TX2) (N := 10) hx hb hts hin2 hown hK hP (26 + b) (cw_lo (S := S) (b := b) hb2) rfl 7 (by decide) hfl20 (fun _ h9 => h9) rfl dX2_resultOf_77 ?_
          refine lv_iload_n hx hb dX2_resultOf_80 rfl (lv_at hl 4 rfl) ?_
          refine lv_iconst (v := (nI 3)) hx hb dX2_resultOf_81 (by decide) ?_
          obtain ⟨x19, hc82, hf⟩ := zo_k hf
          refine cal_i (rnV (As := [.int p1, .int (nI 3)]) (rest := [.int x18]) ⟨hx, hb, hml, hown, hts⟩ (c_X4_get hAd (by omega) hc82) (cwV 2 hts gX2_resultOf_X4_get rfl rfl rfl cdV_X4_get ⟨Nat.le_of_ble_eq_true rfl, Nat.le_of_ble_eq_true rfl⟩) hP hK hN (cw_ro (S := S) (k := (9 + 2 * b)) (by omega)) rfl rfl hl.1 rfl (Nat.le_of_ble_eq_true rfl) dX2_resultOf_82 ⟨Nat.zero_le _, Nat.zero_le _⟩) hS (fun H locs hP hS => ?_)
          refine lv_iadd hx hb dX2_resultOf_85 ?_
          refine lv_sipush (v := (nI 1000)) hx hb dX2_resultOf_86 (by decide) ?_
          refine lv_irem hx hb dX2_resultOf_89 (by decide) ?_
          exact fin_i hx hb hr hlk hS hP (Option.some.inj hf) dX2_resultOf_90
        · have hf := ifp hf hc
          refine lv_iconst (v := (nI 0)) hx hb dX2_resultOf_67 (by decide) ?_
          refine lv_goto (tgt := 73) hx hb dX2_resultOf_68 (by decide) ?_
          refine lv_iadd hx hb dX2_resultOf_73 ?_
          refine lv_topi (fun x20 ex20 => ?_)
          have hf := zb_x hf ex20
          refine lv_istore_n (lv' := [(2, .int x20), (4, .int x17), (3, .int x2), (0, .ref (ad (26 + b))), (1, .int p1)]) hx hb dX2_resultOf_74 rfl hl (by decide) rfl (fun ls hl => ?_)
          refine lv_iload_n hx hb dX2_resultOf_75 rfl (lv_at hl 0 rfl) ?_
          refine lv_aload_n hx hb dX2_resultOf_76 rfl (lv_at hl 3 rfl) ?_
          refine va_get (D := D) (ci := 2) (v := .ref (ad (2 * (9 + 2 * b)))) (C := RX2) (T := TX2) (N := 10) hx hb hts hin2 hown hK hP (26 + b) (cw_lo (S := S) (b := b) hb2) rfl 7 (by decide) hfl20 (fun _ h9 => h9) rfl dX2_resultOf_77 ?_
          refine lv_iload_n hx hb dX2_resultOf_80 rfl (lv_at hl 4 rfl) ?_
          refine lv_iconst (v := (nI 3)) hx hb dX2_resultOf_81 (by decide) ?_
          obtain ⟨x21, hc82, hf⟩ := zo_k hf
          refine cal_i (rnV (As := [.int p1, .int (nI 3)]) (rest := [.int x20]) ⟨hx, hb, hml, hown, hts⟩ (c_X4_get hAd (by omega) hc82) (cwV 2 hts gX2_resultOf_X4_get rfl rfl rfl cdV_X4_get ⟨Nat.le_of_ble_eq_true rfl, Nat.le_of_ble_eq_true rfl⟩) hP hK hN (cw_ro (S := S) (k := (9 + 2 * b)) (by omega)) rfl rfl hl.1 rfl (Nat.le_of_ble_eq_true rfl) dX2_resultOf_82 ⟨Nat.zero_le _, Nat.zero_le _⟩) hS (fun H locs hP hS => ?_)
          refine lv_iadd hx hb dX2_resultOf_85 ?_
          refine lv_sipush (v := (nI 1000)) hx hb dX2_resultOf_86 (by decide) ?_
          refine lv_irem hx hb dX2_resultOf_89 (by decide) ?_
          exact fin_i hx hb hr hlk hS hP (Option.some.inj hf) dX2_resultOf_90
set_option maxHeartbeats 4000000 in
set_option maxRecDepth 100000 in
theorem c_X2_fail {l : Launch} {D : va_G} {cyI cyJ cyZ : ClassId} {ad : Nat → Nat} {b : Nat} (hAd : AdOK 31 ad) (hb2 : b < 2) {S : St} {p1 : Int32} {p2 : Int32} {r : Int32} {SZ : St} (hf : m_X2_fail b S p1 p2 = some (r, SZ)) : Met l yX2_fail wsX2_fail rl_X2_fail (PreW D [(cyI, .int), (cyJ, .long), (cyZ, .boolean)] (cw cyI ad S) [.ref (ad (26 + b)), .int p1, .int p2]) (PoI D (cw cyI ad SZ) (CA ad) r) 0 0 (CA ad) := by
  refine met_go (cc := cX2_fail) (maxL := 3) (ret := (some .int)) (by decide) rfl (Nat.le_of_ble_eq_true rfl) ?_
  intro p e s m args below meth c ls hx hb hr hml hts hown hlk hP hK hN hl
  have hown : s.vm.findClass RX2 = some m.cls := hown
  have hS : va_S (CA ad) s.heap s.heap [] := va_S.rf
  have hl : lv_has ls 3 [(0, .ref (ad (26 + b))), (1, .int p1), (2, .int p2)] := hl
  have hin2 : ∀ w ∈ wsX20, w ∈ wsX2_fail := by decide +kernel
  have hfl29 := hts (.fieldLink RX2 29 "Makewheel$Looker" "kept" "LMakewheel$Rows;") (by decide +kernel)
  unfold m_X2_fail at hf
  refine lv_aload_n hx hb dX2_fail_0 rfl (lv_at hl 0 rfl) ?_
  refine va_get (D := D) (ci := 2) (v := .ref (ad (2 * 2))) (C := RX2) (T := TX2) (N := 10) hx hb hts hin2 hown hK hP (26 + b) (cw_lo (S := S) (b := b) hb2) rfl 2 (by decide) hfl29 (fun _ h9 => h9) rfl dX2_fail_1 ?_
  refine lv_iload_n hx hb dX2_fail_4 rfl (lv_at hl 1 rfl) ?_
  obtain ⟨S1, hc5, hf⟩ := zo_k hf
  refine cal_v (rnV (As := [.int p1]) (rest := []) ⟨hx, hb, hml, hown, hts⟩ (c_X4_clear hAd (by decide) hc5) (cwV 1 hts gX2_fail_X4_clear rfl rfl rfl cdV_X4_clear ⟨Nat.le_of_ble_eq_true rfl, Nat.le_of_ble_eq_true rfl⟩) hP hK hN (cw_ro (S := S) (k := 2) (by decide)) rfl rfl hl.1 rfl (Nat.le_of_ble_eq_true rfl) dX2_fail_5 ⟨Nat.zero_le _, Nat.zero_le _⟩) hS (fun H locs hP hS => ?_)
  refine lv_aload_n hx hb dX2_fail_8 rfl (lv_at hl 0 rfl) ?_
  refine lv_iload_n hx hb dX2_fail_9 rfl (lv_at hl 1 rfl) ?_
  refine lv_iconst (v := (nI 4)) hx hb dX2_fail_10 (by decide) ?_
  refine lv_iload_n hx hb dX2_fail_11 rfl (lv_at hl 2 rfl) ?_
  obtain ⟨x2, S3, hc12, hf⟩ := zo2_k hf
  refine cal_i (rnV (As := [.int p1, .int (nI 4), .int p2]) (rest := []) ⟨hx, hb, hml, hown, hts⟩ (c_X2_end hAd hb2 hc12) (cwV 3 hts gX2_fail_X2_end rfl rfl rfl cdV_X2_end ⟨Nat.le_of_ble_eq_true rfl, Nat.le_of_ble_eq_true rfl⟩) hP hK hN (cw_lo (S := S1) (b := b) hb2) rfl rfl hl.1 rfl (Nat.le_of_ble_eq_true rfl) dX2_fail_12 ⟨Nat.zero_le _, Nat.zero_le _⟩) hS (fun H locs hP hS => ?_)
  cases Option.some.inj hf
  exact fin_i hx hb hr hlk hS hP rfl dX2_fail_15
set_option maxHeartbeats 4000000 in
set_option maxRecDepth 100000 in
theorem c_X2_noteLeak {l : Launch} {D : va_G} {cyI cyJ cyZ : ClassId} {ad : Nat → Nat} {b : Nat} (hAd : AdOK 31 ad) (hb2 : b < 2) {S : St} {p1 : Int32} {SZ : St} (hf : m_X2_noteLeak b S p1 = some SZ) : Met l yX2_noteLeak wsX2_noteLeak rl_X2_noteLeak (PreW D [(cyI, .int), (cyJ, .long), (cyZ, .boolean)] (cw cyI ad S) [.ref (ad (26 + b)), .int p1]) (PoV D (cw cyI ad SZ) (CA ad)) 0 0 (CA ad) := by
  refine met_go (cc := cX2_noteLeak) (maxL := 2) (ret := none) (by decide) rfl (Nat.le_of_ble_eq_true rfl) ?_
  intro p e s m args below meth c ls hx hb hr hml hts hown hlk hP hK hN hl
  have hown : s.vm.findClass RX2 = some m.cls := hown
  have hS : va_S (CA ad) s.heap s.heap [] := va_S.rf
  have hl : lv_has ls 2 [(0, .ref (ad (26 + b))), (1, .int p1)] := hl
  have hin2 : ∀ w ∈ wsX20, w ∈ wsX2_noteLeak := by decide +kernel
  have hfl20 := hts (.fieldLink RX2 20 "Makewheel$Looker" "fresh" "LMakewheel$Rows;") (by decide +kernel)
  have hfl145 := hts (.fieldLink RX2 145 "Makewheel$Looker" "leaking" "I") (by decide +kernel)
  unfold m_X2_noteLeak at hf
  refine lv_aload_n hx hb dX2_noteLeak_0 rfl (lv_at hl 0 rfl) ?_
  refine va_get (D := D) (ci := 2) (v := .ref (ad (2 * (9 + 2 * b)))) (C := RX2) (T := TX2) (N := 10) hx hb hts hin2 hown hK hP (26 + b) (cw_lo (S := S) (b := b) hb2) rfl 7 (by decide) hfl20 (fun _ h9 => h9) rfl dX2_noteLeak_1 ?_
  refine lv_iload_n hx hb dX2_noteLeak_4 rfl (lv_at hl 1 rfl) ?_
  refine lv_iconst (v := (nI 1)) hx hb dX2_noteLeak_5 (by decide) ?_
  obtain ⟨x1, hc6, hf⟩ := zo_k hf
  refine cal_i (rnV (As := [.int p1, .int (nI 1)]) (rest := []) ⟨hx, hb, hml, hown, hts⟩ (c_X4_get hAd (by omega) hc6) (cwV 2 hts gX2_noteLeak_X4_get rfl rfl rfl cdV_X4_get ⟨Nat.le_of_ble_eq_true rfl, Nat.le_of_ble_eq_true rfl⟩) hP hK hN (cw_ro (S := S) (k := (9 + 2 * b)) (by omega)) rfl rfl hl.1 rfl (Nat.le_of_ble_eq_true rfl) dX2_noteLeak_6 ⟨Nat.zero_le _, Nat.zero_le _⟩) hS (fun H locs hP hS => ?_)
  refine lv_iconst (v := (nI 4)) hx hb dX2_noteLeak_9 (by decide) ?_
  refine lv_icmp_ne (tgt := 35) hx hb dX2_noteLeak_10 (by decide) (fun hc => ?_) (fun hc => ?_)
  · have hf := ifn hf hc
    cases Option.some.inj hf
    exact fin_v hx hb hr hlk hS hP dX2_noteLeak_35
  · have hf := ifp hf hc
    refine lv_aload_n hx hb dX2_noteLeak_13 rfl (lv_at hl 0 rfl) ?_
    refine lv_iload_n hx hb dX2_noteLeak_14 rfl (lv_at hl 1 rfl) ?_
    obtain ⟨x2, hc15, hf⟩ := zo_k hf
    refine cal_i (rnV (As := [.int p1]) (rest := []) ⟨hx, hb, hml, hown, hts⟩ (c_X2_seesItsFile hAd hb2 hc15) (cwV 1 hts gX2_noteLeak_X2_seesItsFile rfl rfl rfl cdV_X2_seesItsFile ⟨Nat.le_of_ble_eq_true rfl, Nat.le_of_ble_eq_true rfl⟩) hP hK hN (cw_lo (S := S) (b := b) hb2) rfl rfl hl.1 rfl (Nat.le_of_ble_eq_true rfl) dX2_noteLeak_15 ⟨Nat.zero_le _, Nat.zero_le _⟩) hS (fun H locs hP hS => ?_)
    refine lv_if_ne (tgt := 35) hx hb dX2_noteLeak_18 (by decide) (fun hc => ?_) (fun hc => ?_)
    · have hf := ifn hf hc
      cases Option.some.inj hf
      exact fin_v hx hb hr hlk hS hP dX2_noteLeak_35
    · have hf := ifp hf hc
      refine lv_aload_n hx hb dX2_noteLeak_21 rfl (lv_at hl 0 rfl) ?_
      refine lv_dup hx hb dX2_noteLeak_22 rfl ?_
      refine va_get (D := D) (ci := 2) (v := .int (S.1 (17 + 2 * b) 0)) (C := RX2) (T := TX2) (N := 10) hx hb hts hin2 hown hK hP (26 + b) (cw_lo (S := S) (b := b) hb2) rfl 9 (by decide) hfl145 (fun _ h9 => h9) rfl dX2_noteLeak_23 ?_
      refine lv_iconst (v := (nI 1)) hx hb dX2_noteLeak_26 (by decide) ?_
      refine lv_iload_n hx hb dX2_noteLeak_27 rfl (lv_at hl 1 rfl) ?_
      refine lv_iconst (v := (nI 2)) hx hb dX2_noteLeak_28 (by decide) ?_
      refine lv_idiv hx hb dX2_noteLeak_29 (by decide) ?_
      refine lv_ishl hx hb dX2_noteLeak_30 ?_
      refine lv_ior hx hb dX2_noteLeak_31 ?_
      refine va_put (D := D) (ci := 2) (v := .int (rs S (17 + 2 * b) ||| ((nI 1) <<< ((p1 / (nI 2)) &&& 31)))) (ty := .int) (C := RX2) (T := TX2) (N := 10) hx hb hts hin2 tyX2 tyX2_ok nmX2 hown hK hP (cw_D hAd) hS (26 + b) (cw_lo (S := S) (b := b) hb2) rfl 9 (by decide) hfl145 (fun _ h9 => h9) rfl (by decide +kernel) rfl rfl (Nat.le_of_ble_eq_true rfl) dX2_noteLeak_32 (fun H locs hP _ hS => ?_)
      have hP : va_P D vwCl (cw cyI ad (wi S (17 + 2 * b) 0 (rs S (17 + 2 * b) ||| ((nI 1) <<< ((p1 / (nI 2)) &&& 31))))) H := by rw [← cw_s17 hb2]; exact hP
      obtain ⟨S3, eS3, hf⟩ := zb_k hf
      rw [← eS3] at hP
      cases Option.some.inj hf
      exact fin_v hx hb hr hlk hS hP dX2_noteLeak_35
set_option maxHeartbeats 4000000 in
set_option maxRecDepth 100000 in
theorem c_X2_isFetched {l : Launch} {D : va_G} {cyI cyJ cyZ : ClassId} {ad : Nat → Nat} {b : Nat} (hAd : AdOK 31 ad) (hb2 : b < 2) {S : St} {p1 : Int32} {r : Int32} {SZ : St} (hf : m_X2_isFetched b S p1 = some (r, SZ)) : Met l yX2_isFetched wsX2_isFetched rl_X2_isFetched (PreW D [(cyI, .int), (cyJ, .long), (cyZ, .boolean)] (cw cyI ad S) [.ref (ad (26 + b)), .int p1]) (PoI D (cw cyI ad SZ) (CA ad) r) 0 0 (CA ad) := by
  refine met_go (cc := cX2_isFetched) (maxL := 3) (ret := (some .boolean)) (by decide) rfl (Nat.le_of_ble_eq_true rfl) ?_
  intro p e s m args below meth c ls hx hb hr hml hts hown hlk hP hK hN hl
  have hown : s.vm.findClass RX2 = some m.cls := hown
  have hS : va_S (CA ad) s.heap s.heap [] := va_S.rf
  have hl : lv_has ls 3 [(0, .ref (ad (26 + b))), (1, .int p1)] := hl
  have hin0 : ∀ w ∈ wsX00, w ∈ wsX2_isFetched := by decide +kernel
  have hin2 : ∀ w ∈ wsX20, w ∈ wsX2_isFetched := by decide +kernel
  have hfl32 := hts (.fieldLink RX2 32 "Makewheel$Looker" "cache" "LMakewheel$Cache;") (by decide +kernel)
  have hfl20 := hts (.fieldLink RX2 20 "Makewheel$Looker" "fresh" "LMakewheel$Rows;") (by decide +kernel)
  unfold m_X2_isFetched at hf
  refine lv_aload_n hx hb dX2_isFetched_0 rfl (lv_at hl 0 rfl) ?_
  refine va_get (D := D) (ci := 2) (v := .ref (ad 24)) (C := RX2) (T := TX2) (N := 10) hx hb hts hin2 hown hK hP (26 + b) (cw_lo (S := S) (b := b) hb2) rfl 3 (by decide) hfl32 (fun _ h9 => h9) rfl dX2_isFetched_1 ?_
  refine lv_aload_n hx hb dX2_isFetched_4 rfl (lv_at hl 0 rfl) ?_
  refine va_get (D := D) (ci := 2) (v := .ref (ad (2 * (9 + 2 * b)))) (C := RX2) (T := TX2) (N := 10) hx hb hts hin2 hown hK hP (26 + b) (cw_lo (S := S) (b := b) hb2) rfl 7 (by decide) hfl20 (fun _ h9 => h9) rfl dX2_isFetched_5 ?_
  refine lv_iload_n hx hb dX2_isFetched_8 rfl (lv_at hl 1 rfl) ?_
  obtain ⟨x1, hc9, hf⟩ := zo_k hf
  refine cal_i (rnV (As := [.ref (ad (2 * (9 + 2 * b))), .int p1]) (rest := []) ⟨hx, hb, hml, hown, hts⟩ (c_X0_find hAd (by omega) hc9) (cwV 2 hts gX2_isFetched_X0_find rfl rfl rfl cdV_X0_find ⟨Nat.le_of_ble_eq_true rfl, Nat.le_of_ble_eq_true rfl⟩) hP hK hN (cw_o24 (S := S)) rfl rfl hl.1 rfl (Nat.le_of_ble_eq_true rfl) dX2_isFetched_9 ⟨Nat.zero_le _, Nat.zero_le _⟩) hS (fun H locs hP hS => ?_)
  refine lv_istore_n (lv' := [(2, .int x1), (0, .ref (ad (26 + b))), (1, .int p1)]) hx hb dX2_isFetched_12 rfl hl (by decide) rfl (fun ls hl => ?_)
  refine lv_iload_n hx hb dX2_isFetched_13 rfl (lv_at hl 0 rfl) ?_
  refine lv_iconst (v := (-1)) hx hb dX2_isFetched_14 (by decide) ?_
  refine lv_icmp_ne (tgt := 20) hx hb dX2_isFetched_15 (by decide) (fun hc => ?_) (fun hc => ?_)
  · have hf := ifn hf hc
    refine lv_aload_n hx hb dX2_isFetched_20 rfl (lv_at hl 1 rfl) ?_
    refine va_get (D := D) (ci := 2) (v := .ref (ad 24)) (C := RX2) (T := TX2) (N := 10) hx hb hts hin2 hown hK hP (26 + b) (cw_lo (S := S) (b := b) hb2) rfl 3 (by decide) hfl32 (fun _ h9 => h9) rfl dX2_isFetched_21 ?_
    refine va_getN (D := D) (ci := 0) (v := .int (S.1 12 0)) (C := RX0) (T := TX0) (N := 3) hx hb hts hin0 hown hK hP 24 (cw_o24 (S := S)) rfl 1 (by decide) (va_Nw.use rfl hN.n2_151) (fun _ h9 => h9) rfl dX2_isFetched_24 ?_
    refine lv_if_le (tgt := 56) hx hb dX2_isFetched_27 (by decide) (fun hc => ?_) (fun hc => ?_)
    · have hf := ifp hf hc
      refine lv_aload_n hx hb dX2_isFetched_56 rfl (lv_at hl 1 rfl) ?_
      refine va_get (D := D) (ci := 2) (v := .ref (ad (2 * (9 + 2 * b)))) (C := RX2) (T := TX2) (N := 10) hx hb hts hin2 hown hK hP (26 + b) (cw_lo (S := S) (b := b) hb2) rfl 7 (by decide) hfl20 (fun _ h9 => h9) rfl dX2_isFetched_57 ?_
      refine lv_iload_n hx hb dX2_isFetched_60 rfl (lv_at hl 2 rfl) ?_
      refine lv_bipush (v := (nI 50)) hx hb dX2_isFetched_61 (by decide) ?_
      refine lv_aload_n hx hb dX2_isFetched_63 rfl (lv_at hl 1 rfl) ?_
      refine va_get (D := D) (ci := 2) (v := .ref (ad 24)) (C := RX2) (T := TX2) (N := 10) hx hb hts hin2 hown hK hP (26 + b) (cw_lo (S := S) (b := b) hb2) rfl 3 (by decide) hfl32 (fun _ h9 => h9) rfl dX2_isFetched_64 ?_
      refine va_getN (D := D) (ci := 0) (v := .ref (ad (2 * 3))) (C := RX0) (T := TX0) (N := 3) hx hb hts hin0 hown hK hP 24 (cw_o24 (S := S)) rfl 0 (by decide) (va_Nw.use rfl hN.n2_154) (fun _ h9 => h9) rfl dX2_isFetched_67 ?_
      refine lv_iload_n hx hb dX2_isFetched_70 rfl (lv_at hl 0 rfl) ?_
      refine lv_bipush (v := (nI 50)) hx hb dX2_isFetched_71 (by decide) ?_
      obtain ⟨x2, hc73, hf⟩ := zo_k hf
      refine cal_i (rnV (As := [.int x1, .int (nI 50)]) (rest := [.int (nI 50), .int p1, .ref (ad (2 * (9 + 2 * b)))]) ⟨hx, hb, hml, hown, hts⟩ (c_X4_get hAd (by decide) hc73) (cwV 2 hts gX2_isFetched_X4_get rfl rfl rfl cdV_X4_get ⟨Nat.le_of_ble_eq_true rfl, Nat.le_of_ble_eq_true rfl⟩) hP hK hN (cw_ro (S := S) (k := 3) (by decide)) rfl rfl hl.1 rfl (Nat.le_of_ble_eq_true rfl) dX2_isFetched_73 ⟨Nat.zero_le _, Nat.zero_le _⟩) hS (fun H locs hP hS => ?_)
      obtain ⟨S3, hc76, hf⟩ := zo_k hf
      refine cal_v (rnV (As := [.int p1, .int (nI 50), .int x2]) (rest := []) ⟨hx, hb, hml, hown, hts⟩ (c_X4_set hAd (by omega) hc76) (cwV 3 hts gX2_isFetched_X4_set rfl rfl rfl cdV_X4_set ⟨Nat.le_of_ble_eq_true rfl, Nat.le_of_ble_eq_true rfl⟩) hP hK hN (cw_ro (S := S) (k := (9 + 2 * b)) (by omega)) rfl rfl hl.1 rfl (Nat.le_of_ble_eq_true rfl) dX2_isFetched_76 ⟨Nat.zero_le _, Nat.zero_le _⟩) hS (fun H locs hP hS => ?_)
      refine lv_aload_n hx hb dX2_isFetched_79 rfl (lv_at hl 1 rfl) ?_
      refine va_get (D := D) (ci := 2) (v := .ref (ad (2 * (9 + 2 * b)))) (C := RX2) (T := TX2) (N := 10) hx hb hts hin2 hown hK hP (26 + b) (cw_lo (S := S3) (b := b) hb2) rfl 7 (by decide) hfl20 (fun _ h9 => h9) rfl dX2_isFetched_80 ?_
      refine lv_iload_n hx hb dX2_isFetched_83 rfl (lv_at hl 2 rfl) ?_
      refine lv_bipush (v := (nI 51)) hx hb dX2_isFetched_84 (by decide) ?_
      refine lv_aload_n hx hb dX2_isFetched_86 rfl (lv_at hl 1 rfl) ?_
      refine va_get (D := D) (ci := 2) (v := .ref (ad 24)) (C := RX2) (T := TX2) (N := 10) hx hb hts hin2 hown hK hP (26 + b) (cw_lo (S := S3) (b := b) hb2) rfl 3 (by decide) hfl32 (fun _ h9 => h9) rfl dX2_isFetched_87 ?_
      refine va_getN (D := D) (ci := 0) (v := .ref (ad (2 * 3))) (C := RX0) (T := TX0) (N := 3) hx hb hts hin0 hown hK hP 24 (cw_o24 (S := S3)) rfl 0 (by decide) (va_Nw.use rfl hN.n2_154) (fun _ h9 => h9) rfl dX2_isFetched_90 ?_
      refine lv_iload_n hx hb dX2_isFetched_93 rfl (lv_at hl 0 rfl) ?_
      refine lv_bipush (v := (nI 51)) hx hb dX2_isFetched_94 (by decide) ?_
      obtain ⟨x4, hc96, hf⟩ := zo_k hf
      refine cal_i (rnV (As := [.int x1, .int (nI 51)]) (rest := [.int (nI 51), .int p1, .ref (ad (2 * (9 + 2 * b)))]) ⟨hx, hb, hml, hown, hts⟩ (c_X4_get hAd (by decide) hc96) (cwV 2 hts gX2_isFetched_X4_get rfl rfl rfl cdV_X4_get ⟨Nat.le_of_ble_eq_true rfl, Nat.le_of_ble_eq_true rfl⟩) hP hK hN (cw_ro (S := S3) (k := 3) (by decide)) rfl rfl hl.1 rfl (Nat.le_of_ble_eq_true rfl) dX2_isFetched_96 ⟨Nat.zero_le _, Nat.zero_le _⟩) hS (fun H locs hP hS => ?_)
      obtain ⟨S5, hc99, hf⟩ := zo_k hf
      refine cal_v (rnV (As := [.int p1, .int (nI 51), .int x4]) (rest := []) ⟨hx, hb, hml, hown, hts⟩ (c_X4_set hAd (by omega) hc99) (cwV 3 hts gX2_isFetched_X4_set rfl rfl rfl cdV_X4_set ⟨Nat.le_of_ble_eq_true rfl, Nat.le_of_ble_eq_true rfl⟩) hP hK hN (cw_ro (S := S3) (k := (9 + 2 * b)) (by omega)) rfl rfl hl.1 rfl (Nat.le_of_ble_eq_true rfl) dX2_isFetched_99 ⟨Nat.zero_le _, Nat.zero_le _⟩) hS (fun H locs hP hS => ?_)
      refine lv_iconst (v := (nI 1)) hx hb dX2_isFetched_102 (by decide) ?_
      cases Option.some.inj hf
      exact fin_z hx hb hr hlk hS hP rfl rfl dX2_isFetched_103
    · have hf := ifn hf hc
      refine lv_aload_n hx hb dX2_isFetched_30 rfl (lv_at hl 1 rfl) ?_
      refine va_get (D := D) (ci := 2) (v := .ref (ad 24)) (C := RX2) (T := TX2) (N := 10) hx hb hts hin2 hown hK hP (26 + b) (cw_lo (S := S) (b := b) hb2) rfl 3 (by decide) hfl32 (fun _ h9 => h9) rfl dX2_isFetched_31 ?_
      refine lv_dup hx hb dX2_isFetched_34 rfl ?_
      refine va_getN (D := D) (ci := 0) (v := .int (S.1 12 0)) (C := RX0) (T := TX0) (N := 3) hx hb hts hin0 hown hK hP 24 (cw_o24 (S := S)) rfl 1 (by decide) (va_Nw.use rfl hN.n2_151) (fun _ h9 => h9) rfl dX2_isFetched_35 ?_
      refine lv_iconst (v := (nI 1)) hx hb dX2_isFetched_38 (by decide) ?_
      refine lv_isub hx hb dX2_isFetched_39 ?_
      refine va_putN (D := D) (ci := 0) (v := .int (rs S 12 - (nI 1))) (ty := .int) (C := RX0) (T := TX0) (N := 3) hx hb hts hin0 tyX0 tyX0_ok nmX0 hown hK hP (cw_D hAd) hS 24 (cw_o24 (S := S)) rfl 1 (by decide) (va_Nw.use rfl hN.n2_151) (fun _ h9 => h9) rfl (by decide +kernel) rfl rfl (Nat.le_of_ble_eq_true rfl) dX2_isFetched_40 (fun H locs hP _ hS => ?_)
      have hP : va_P D vwCl (cw cyI ad (wi S 12 0 (rs S 12 - (nI 1)))) H := by rw [← cw_s12]; exact hP
      obtain ⟨S6, eS6, hf⟩ := zb_k hf
      rw [← eS6] at hP
      refine lv_aload_n hx hb dX2_isFetched_43 rfl (lv_at hl 1 rfl) ?_
      refine va_get (D := D) (ci := 2) (v := .ref (ad 24)) (C := RX2) (T := TX2) (N := 10) hx hb hts hin2 hown hK hP (26 + b) (cw_lo (S := S6) (b := b) hb2) rfl 3 (by decide) hfl32 (fun _ h9 => h9) rfl dX2_isFetched_44 ?_
      refine va_getN (D := D) (ci := 0) (v := .ref (ad (2 * 3))) (C := RX0) (T := TX0) (N := 3) hx hb hts hin0 hown hK hP 24 (cw_o24 (S := S6)) rfl 0 (by decide) (va_Nw.use rfl hN.n2_154) (fun _ h9 => h9) rfl dX2_isFetched_47 ?_
      refine lv_iload_n hx hb dX2_isFetched_50 rfl (lv_at hl 0 rfl) ?_
      obtain ⟨S7, hc51, hf⟩ := zo_k hf
      refine cal_v (rnV (As := [.int x1]) (rest := []) ⟨hx, hb, hml, hown, hts⟩ (c_X4_clear hAd (by decide) hc51) (cwV 1 hts gX2_isFetched_X4_clear rfl rfl rfl cdV_X4_clear ⟨Nat.le_of_ble_eq_true rfl, Nat.le_of_ble_eq_true rfl⟩) hP hK hN (cw_ro (S := S6) (k := 3) (by decide)) rfl rfl hl.1 rfl (Nat.le_of_ble_eq_true rfl) dX2_isFetched_51 ⟨Nat.zero_le _, Nat.zero_le _⟩) hS (fun H locs hP hS => ?_)
      refine lv_iconst (v := (nI 0)) hx hb dX2_isFetched_54 (by decide) ?_
      cases Option.some.inj hf
      exact fin_z hx hb hr hlk hS hP rfl rfl dX2_isFetched_55
  · have hf := ifp hf hc
    refine lv_iconst (v := (nI 0)) hx hb dX2_isFetched_18 (by decide) ?_
    cases Option.some.inj hf
    exact fin_z hx hb hr hlk hS hP rfl rfl dX2_isFetched_19
set_option maxHeartbeats 4000000 in
set_option maxRecDepth 100000 in
theorem c_X2_keep {l : Launch} {D : va_G} {cyI cyJ cyZ : ClassId} {ad : Nat → Nat} {b : Nat} (hAd : AdOK 31 ad) (hb2 : b < 2) {S : St} {p1 : Int32} {p2 : Int32} {r : Int32} {SZ : St} (hf : m_X2_keep b S p1 p2 = some (r, SZ)) : Met l yX2_keep wsX2_keep rl_X2_keep (PreW D [(cyI, .int), (cyJ, .long), (cyZ, .boolean)] (cw cyI ad S) [.ref (ad (26 + b)), .int p1, .int p2]) (PoI D (cw cyI ad SZ) (CA ad) r) 0 0 (CA ad) := by
  refine met_go (cc := cX2_keep) (maxL := 3) (ret := (some .int)) (by decide) rfl (Nat.le_of_ble_eq_true rfl) ?_
  intro p e s m args below meth c ls hx hb hr hml hts hown hlk hP hK hN hl
  have hown : s.vm.findClass RX2 = some m.cls := hown
  have hS : va_S (CA ad) s.heap s.heap [] := va_S.rf
  have hl : lv_has ls 3 [(0, .ref (ad (26 + b))), (1, .int p1), (2, .int p2)] := hl
  have hin2 : ∀ w ∈ wsX20, w ∈ wsX2_keep := by decide +kernel
  have hfl29 := hts (.fieldLink RX2 29 "Makewheel$Looker" "kept" "LMakewheel$Rows;") (by decide +kernel)
  have hfl20 := hts (.fieldLink RX2 20 "Makewheel$Looker" "fresh" "LMakewheel$Rows;") (by decide +kernel)
  unfold m_X2_keep at hf
  refine lv_aload_n hx hb dX2_keep_0 rfl (lv_at hl 0 rfl) ?_
  refine va_get (D := D) (ci := 2) (v := .ref (ad (2 * 2))) (C := RX2) (T := TX2) (N := 10) hx hb hts hin2 hown hK hP (26 + b) (cw_lo (S := S) (b := b) hb2) rfl 2 (by decide) hfl29 (fun _ h9 => h9) rfl dX2_keep_1 ?_
  refine lv_iload_n hx hb dX2_keep_4 rfl (lv_at hl 1 rfl) ?_
  refine lv_aload_n hx hb dX2_keep_5 rfl (lv_at hl 0 rfl) ?_
  refine va_get (D := D) (ci := 2) (v := .ref (ad (2 * (9 + 2 * b)))) (C := RX2) (T := TX2) (N := 10) hx hb hts hin2 hown hK hP (26 + b) (cw_lo (S := S) (b := b) hb2) rfl 7 (by decide) hfl20 (fun _ h9 => h9) rfl dX2_keep_6 ?_
  refine lv_iload_n hx hb dX2_keep_9 rfl (lv_at hl 1 rfl) ?_
  obtain ⟨S1, hc10, hf⟩ := zo_k hf
  refine cal_v (rnV (As := [.int p1, .ref (ad (2 * (9 + 2 * b))), .int p1]) (rest := []) ⟨hx, hb, hml, hown, hts⟩ (c_X4_copy hAd (by decide) (by omega) hc10) (cwV 3 hts gX2_keep_X4_copy rfl rfl rfl cdV_X4_copy ⟨Nat.le_of_ble_eq_true rfl, Nat.le_of_ble_eq_true rfl⟩) hP hK hN (cw_ro (S := S) (k := 2) (by decide)) rfl rfl hl.1 rfl (Nat.le_of_ble_eq_true rfl) dX2_keep_10 ⟨Nat.zero_le _, Nat.zero_le _⟩) hS (fun H locs hP hS => ?_)
  refine lv_aload_n hx hb dX2_keep_13 rfl (lv_at hl 0 rfl) ?_
  refine lv_iload_n hx hb dX2_keep_14 rfl (lv_at hl 1 rfl) ?_
  refine lv_iload_n hx hb dX2_keep_15 rfl (lv_at hl 2 rfl) ?_
  refine lv_aload_n hx hb dX2_keep_16 rfl (lv_at hl 0 rfl) ?_
  refine va_get (D := D) (ci := 2) (v := .ref (ad (2 * 2))) (C := RX2) (T := TX2) (N := 10) hx hb hts hin2 hown hK hP (26 + b) (cw_lo (S := S1) (b := b) hb2) rfl 2 (by decide) hfl29 (fun _ h9 => h9) rfl dX2_keep_17 ?_
  refine lv_iload_n hx hb dX2_keep_20 rfl (lv_at hl 1 rfl) ?_
  refine lv_bipush (v := (nI 50)) hx hb dX2_keep_21 (by decide) ?_
  obtain ⟨x2, hc23, hf⟩ := zo_k hf
  refine cal_i (rnV (As := [.int p1, .int (nI 50)]) (rest := [.int p2, .int p1, .ref (ad (26 + b))]) ⟨hx, hb, hml, hown, hts⟩ (c_X4_get hAd (by decide) hc23) (cwV 2 hts gX2_keep_X4_get rfl rfl rfl cdV_X4_get ⟨Nat.le_of_ble_eq_true rfl, Nat.le_of_ble_eq_true rfl⟩) hP hK hN (cw_ro (S := S1) (k := 2) (by decide)) rfl rfl hl.1 rfl (Nat.le_of_ble_eq_true rfl) dX2_keep_23 ⟨Nat.zero_le _, Nat.zero_le _⟩) hS (fun H locs hP hS => ?_)
  obtain ⟨x3, S4, hc26, hf⟩ := zo2_k hf
  refine cal_i (rnV (As := [.int p1, .int p2, .int x2]) (rest := []) ⟨hx, hb, hml, hown, hts⟩ (c_X2_end hAd hb2 hc26) (cwV 3 hts gX2_keep_X2_end rfl rfl rfl cdV_X2_end ⟨Nat.le_of_ble_eq_true rfl, Nat.le_of_ble_eq_true rfl⟩) hP hK hN (cw_lo (S := S1) (b := b) hb2) rfl rfl hl.1 rfl (Nat.le_of_ble_eq_true rfl) dX2_keep_26 ⟨Nat.zero_le _, Nat.zero_le _⟩) hS (fun H locs hP hS => ?_)
  cases Option.some.inj hf
  exact fin_i hx hb hr hlk hS hP rfl dX2_keep_29
set_option maxHeartbeats 4000000 in
set_option maxRecDepth 100000 in
theorem c_X2_runUntilGood {l : Launch} {D : va_G} {cyI cyJ cyZ : ClassId} {ad : Nat → Nat} {b : Nat} (hAd : AdOK 31 ad) (hb2 : b < 2) {S : St} {p1 : Int32} {r : Int32} {SZ : St} (hf : m_X2_runUntilGood b S p1 = some (r, SZ)) : Met l yX2_runUntilGood wsX2_runUntilGood rl_X2_runUntilGood (PreW D [(cyI, .int), (cyJ, .long), (cyZ, .boolean)] (cw cyI ad S) [.ref (ad (26 + b)), .int p1]) (PoI D (cw cyI ad SZ) (CA ad) r) 0 0 (CA ad) := by
  refine met_go (cc := cX2_runUntilGood) (maxL := 4) (ret := (some .int)) (by decide) rfl (Nat.le_of_ble_eq_true rfl) ?_
  intro p e s m args below meth c ls hx hb hr hml hts hown hlk hP hK hN hl
  have hown : s.vm.findClass RX2 = some m.cls := hown
  have hS : va_S (CA ad) s.heap s.heap [] := va_S.rf
  have hl : lv_has ls 4 [(0, .ref (ad (26 + b))), (1, .int p1)] := hl
  have hin2 : ∀ w ∈ wsX20, w ∈ wsX2_runUntilGood := by decide +kernel
  have hfl36 := hts (.fieldLink RX2 36 "Makewheel$Looker" "machines" "LMakewheel$Machines;") (by decide +kernel)
  have hfl44 := hts (.fieldLink RX2 44 "Makewheel$Looker" "runs" "I") (by decide +kernel)
  unfold m_X2_runUntilGood at hf
  refine lv_iconst (v := (nI 0)) hx hb dX2_runUntilGood_0 (by decide) ?_
  refine lv_istore_n (lv' := [(2, .int (nI 0)), (0, .ref (ad (26 + b))), (1, .int p1)]) hx hb dX2_runUntilGood_1 rfl hl (by decide) rfl (fun ls hl => ?_)
  refine zl2_ind (F := (m_X2_runUntilGood_B2 b p1)) (R := (r, SZ)) (P := fun S1 x2 => ∀ (H : Heap) (locs : List Loc) (ls : Array Slot), va_P D vwCl (cw cyI ad S1) H → va_S (CA ad) s.heap H locs → lv_has ls 4 [(0, .ref (ad (26 + b))), (1, .int p1), (2, .int x2)] → W p l e rl_X2_runUntilGood s m args below meth c H locs 0 0 (MQ below (PoI D (cw cyI ad SZ) (CA ad) r) args s 0 0 (CA ad)) (F0 m 2 ls [])) (fun rec2 ih2 S1 x2 hf H locs ls hP hS hl => ?_) FU S (nI 0) hf _ _ _ hP hS (lv_sub hl [1, 2, 0] rfl)
  unfold m_X2_runUntilGood_B2 at hf
  refine lv_iload_n hx hb dX2_runUntilGood_2 rfl (lv_at hl 2 rfl) ?_
  refine lv_iconst (v := (nI 3)) hx hb dX2_runUntilGood_3 (by decide) ?_
  refine lv_icmp_ge (tgt := 46) hx hb dX2_runUntilGood_4 (by decide) (fun hc => ?_) (fun hc => ?_)
  · have hf := ifp hf hc
    refine lv_iconst (v := (-1)) hx hb dX2_runUntilGood_46 (by decide) ?_
    cases Option.some.inj hf
    exact fin_i hx hb hr hlk hS hP rfl dX2_runUntilGood_47
  · have hf := ifn hf hc
    refine lv_aload_n hx hb dX2_runUntilGood_7 rfl (lv_at hl 0 rfl) ?_
    refine va_get (D := D) (ci := 2) (v := .ref (ad 25)) (C := RX2) (T := TX2) (N := 10) hx hb hts hin2 hown hK hP (26 + b) (cw_lo (S := S1) (b := b) hb2) rfl 4 (by decide) hfl36 (fun _ h9 => h9) rfl dX2_runUntilGood_8 ?_
    obtain ⟨x3, S4, hc11, hf⟩ := zo2_k hf
    refine cal_i (rnV (As := []) (rest := []) ⟨hx, hb, hml, hown, hts⟩ (c_X3_takeNext hAd  hc11) (cwV 0 hts gX2_runUntilGood_X3_takeNext rfl rfl rfl cdV_X3_takeNext ⟨Nat.le_of_ble_eq_true rfl, Nat.le_of_ble_eq_true rfl⟩) hP hK hN (cw_o25 (S := S1)) rfl rfl hl.1 rfl (Nat.le_of_ble_eq_true rfl) dX2_runUntilGood_11 ⟨Nat.zero_le _, Nat.zero_le _⟩) hS (fun H locs hP hS => ?_)
    refine lv_istore_n (lv' := [(3, .int x3), (0, .ref (ad (26 + b))), (1, .int p1), (2, .int x2)]) hx hb dX2_runUntilGood_14 rfl hl (by decide) rfl (fun ls hl => ?_)
    refine lv_aload_n hx hb dX2_runUntilGood_15 rfl (lv_at hl 1 rfl) ?_
    refine lv_dup hx hb dX2_runUntilGood_16 rfl ?_
    refine va_get (D := D) (ci := 2) (v := .int (S4.1 (16 + 2 * b) 0)) (C := RX2) (T := TX2) (N := 10) hx hb hts hin2 hown hK hP (26 + b) (cw_lo (S := S4) (b := b) hb2) rfl 8 (by decide) hfl44 (fun _ h9 => h9) rfl dX2_runUntilGood_17 ?_
    refine lv_iconst (v := (nI 1)) hx hb dX2_runUntilGood_20 (by decide) ?_
    refine lv_iadd hx hb dX2_runUntilGood_21 ?_
    refine va_put (D := D) (ci := 2) (v := .int (rs S4 (16 + 2 * b) + (nI 1))) (ty := .int) (C := RX2) (T := TX2) (N := 10) hx hb hts hin2 tyX2 tyX2_ok nmX2 hown hK hP (cw_D hAd) hS (26 + b) (cw_lo (S := S4) (b := b) hb2) rfl 8 (by decide) hfl44 (fun _ h9 => h9) rfl (by decide +kernel) rfl rfl (Nat.le_of_ble_eq_true rfl) dX2_runUntilGood_22 (fun H locs hP _ hS => ?_)
    have hP : va_P D vwCl (cw cyI ad (wi S4 (16 + 2 * b) 0 (rs S4 (16 + 2 * b) + (nI 1)))) H := by rw [← cw_s16 hb2]; exact hP
    obtain ⟨S5, eS5, hf⟩ := zb_k hf
    rw [← eS5] at hP
    refine lv_aload_n hx hb dX2_runUntilGood_25 rfl (lv_at hl 1 rfl) ?_
    refine va_get (D := D) (ci := 2) (v := .ref (ad 25)) (C := RX2) (T := TX2) (N := 10) hx hb hts hin2 hown hK hP (26 + b) (cw_lo (S := S5) (b := b) hb2) rfl 4 (by decide) hfl36 (fun _ h9 => h9) rfl dX2_runUntilGood_26 ?_
    refine lv_iload_n hx hb dX2_runUntilGood_29 rfl (lv_at hl 2 rfl) ?_
    refine lv_iconst (v := (nI 2)) hx hb dX2_runUntilGood_30 (by decide) ?_
    refine lv_idiv hx hb dX2_runUntilGood_31 (by decide) ?_
    obtain ⟨x6, S7, hc32, hf⟩ := zo2_k hf
    refine cal_i (rnV (As := [.int (p1 / (nI 2))]) (rest := []) ⟨hx, hb, hml, hown, hts⟩ (c_X3_usesUpFailure hAd  hc32) (cwV 1 hts gX2_runUntilGood_X3_usesUpFailure rfl rfl rfl cdV_X3_usesUpFailure ⟨Nat.le_of_ble_eq_true rfl, Nat.le_of_ble_eq_true rfl⟩) hP hK hN (cw_o25 (S := S5)) rfl rfl hl.1 rfl (Nat.le_of_ble_eq_true rfl) dX2_runUntilGood_32 ⟨Nat.zero_le _, Nat.zero_le _⟩) hS (fun H locs hP hS => ?_)
    refine lv_if_ne (tgt := 40) hx hb dX2_runUntilGood_35 (by decide) (fun hc => ?_) (fun hc => ?_)
    · have hf := ifn hf hc
      obtain ⟨x8, ex8, hf⟩ := zb_k hf
      refine lv_iinc (v := x8) (lv' := [(2, .int x8), (3, .int x3), (0, .ref (ad (26 + b))), (1, .int p1)]) hx hb dX2_runUntilGood_40 hl (k := 3) rfl (by rw [ex8]; rfl) (by decide) rfl (fun ls hl => ?_)
      refine lv_goto (tgt := 2) hx hb dX2_runUntilGood_43 (by decide) ?_
      exact ih2 S7 x8 hf _ _ _ hP hS (lv_sub hl [2, 3, 0] rfl)
    · have hf := ifp hf hc
      refine lv_iload_n hx hb dX2_runUntilGood_38 rfl (lv_at hl 0 rfl) ?_
      cases Option.some.inj hf
      exact fin_i hx hb hr hlk hS hP rfl dX2_runUntilGood_39
set_option maxHeartbeats 4000000 in
set_option maxRecDepth 100000 in
theorem c_X2_putAway {l : Launch} {D : va_G} {cyI cyJ cyZ : ClassId} {ad : Nat → Nat} {b : Nat} (hAd : AdOK 31 ad) (hb2 : b < 2) {S : St} {p1 : Int32} {SZ : St} (hf : m_X2_putAway b S p1 = some SZ) : Met l yX2_putAway wsX2_putAway rl_X2_putAway (PreW D [(cyI, .int), (cyJ, .long), (cyZ, .boolean)] (cw cyI ad S) [.ref (ad (26 + b)), .int p1]) (PoV D (cw cyI ad SZ) (CA ad)) 0 0 (CA ad) := by
  refine met_go (cc := cX2_putAway) (maxL := 3) (ret := none) (by decide) rfl (Nat.le_of_ble_eq_true rfl) ?_
  intro p e s m args below meth c ls hx hb hr hml hts hown hlk hP hK hN hl
  have hown : s.vm.findClass RX2 = some m.cls := hown
  have hS : va_S (CA ad) s.heap s.heap [] := va_S.rf
  have hl : lv_has ls 3 [(0, .ref (ad (26 + b))), (1, .int p1)] := hl
  have hin2 : ∀ w ∈ wsX20, w ∈ wsX2_putAway := by decide +kernel
  have hin3 : ∀ w ∈ wsX30, w ∈ wsX2_putAway := by decide +kernel
  have hfl36 := hts (.fieldLink RX2 36 "Makewheel$Looker" "machines" "LMakewheel$Machines;") (by decide +kernel)
  have hfl32 := hts (.fieldLink RX2 32 "Makewheel$Looker" "cache" "LMakewheel$Cache;") (by decide +kernel)
  have hfl14 := hts (.fieldLink RX2 14 "Makewheel$Looker" "seen" "LMakewheel$Rows;") (by decide +kernel)
  have hfl29 := hts (.fieldLink RX2 29 "Makewheel$Looker" "kept" "LMakewheel$Rows;") (by decide +kernel)
  unfold m_X2_putAway at hf
  refine lv_aload_n hx hb dX2_putAway_0 rfl (lv_at hl 0 rfl) ?_
  refine va_get (D := D) (ci := 2) (v := .ref (ad 25)) (C := RX2) (T := TX2) (N := 10) hx hb hts hin2 hown hK hP (26 + b) (cw_lo (S := S) (b := b) hb2) rfl 4 (by decide) hfl36 (fun _ h9 => h9) rfl dX2_putAway_1 ?_
  refine va_getN (D := D) (ci := 3) (v := .ref (ad (2 * 4))) (C := RX3) (T := TX3) (N := 4) hx hb hts hin3 hown hK hP 25 (cw_o25 (S := S)) rfl 0 (by decide) (va_Nw.use rfl hN.n2_175) (fun _ h9 => h9) rfl dX2_putAway_4 ?_
  refine lv_iload_n hx hb dX2_putAway_7 rfl (lv_at hl 1 rfl) ?_
  refine lv_iconst (v := (nI 1)) hx hb dX2_putAway_8 (by decide) ?_
  refine lv_iconst (v := (nI 1)) hx hb dX2_putAway_9 (by decide) ?_
  obtain ⟨S1, hc10, hf⟩ := zo_k hf
  refine cal_v (rnV (As := [.int p1, .int (nI 1), .int (nI 1)]) (rest := []) ⟨hx, hb, hml, hown, hts⟩ (c_X4_set hAd (by decide) hc10) (cwV 3 hts gX2_putAway_X4_set rfl rfl rfl cdV_X4_set ⟨Nat.le_of_ble_eq_true rfl, Nat.le_of_ble_eq_true rfl⟩) hP hK hN (cw_ro (S := S) (k := 4) (by decide)) rfl rfl hl.1 rfl (Nat.le_of_ble_eq_true rfl) dX2_putAway_10 ⟨Nat.zero_le _, Nat.zero_le _⟩) hS (fun H locs hP hS => ?_)
  refine lv_aload_n hx hb dX2_putAway_13 rfl (lv_at hl 0 rfl) ?_
  refine va_get (D := D) (ci := 2) (v := .ref (ad 24)) (C := RX2) (T := TX2) (N := 10) hx hb hts hin2 hown hK hP (26 + b) (cw_lo (S := S1) (b := b) hb2) rfl 3 (by decide) hfl32 (fun _ h9 => h9) rfl dX2_putAway_14 ?_
  refine lv_iload_n hx hb dX2_putAway_17 rfl (lv_at hl 1 rfl) ?_
  obtain ⟨S2, hc18, hf⟩ := zo_k hf
  refine cal_v (rnV (As := [.int p1]) (rest := []) ⟨hx, hb, hml, hown, hts⟩ (c_X0_loseAllFrom hAd  hc18) (cwV 1 hts gX2_putAway_X0_loseAllFrom rfl rfl rfl cdV_X0_loseAllFrom ⟨Nat.le_of_ble_eq_true rfl, Nat.le_of_ble_eq_true rfl⟩) hP hK hN (cw_o24 (S := S1)) rfl rfl hl.1 rfl (Nat.le_of_ble_eq_true rfl) dX2_putAway_18 ⟨Nat.zero_le _, Nat.zero_le _⟩) hS (fun H locs hP hS => ?_)
  refine lv_iconst (v := (nI 0)) hx hb dX2_putAway_21 (by decide) ?_
  refine lv_istore_n (lv' := [(2, .int (nI 0)), (0, .ref (ad (26 + b))), (1, .int p1)]) hx hb dX2_putAway_22 rfl hl (by decide) rfl (fun ls hl => ?_)
  refine zl2_ind (F := (m_X2_putAway_B23 b p1)) (R := SZ) (P := fun S3 x4 => ∀ (H : Heap) (locs : List Loc) (ls : Array Slot), va_P D vwCl (cw cyI ad S3) H → va_S (CA ad) s.heap H locs → lv_has ls 3 [(0, .ref (ad (26 + b))), (1, .int p1), (2, .int x4)] → W p l e rl_X2_putAway s m args below meth c H locs 0 0 (MQ below (PoV D (cw cyI ad SZ) (CA ad)) args s 0 0 (CA ad)) (F0 m 23 ls [])) (fun rec23 ih23 S3 x4 hf H locs ls hP hS hl => ?_) FU S2 (nI 0) hf _ _ _ hP hS (lv_sub hl [1, 2, 0] rfl)
  unfold m_X2_putAway_B23 at hf
  refine lv_iload_n hx hb dX2_putAway_23 rfl (lv_at hl 2 rfl) ?_
  refine lv_bipush (v := (nI 32)) hx hb dX2_putAway_24 (by decide) ?_
  refine lv_icmp_ge (tgt := 69) hx hb dX2_putAway_26 (by decide) (fun hc => ?_) (fun hc => ?_)
  · have hf := ifp hf hc
    cases Option.some.inj hf
    exact fin_v hx hb hr hlk hS hP dX2_putAway_69
  · have hf := ifn hf hc
    refine lv_aload_n hx hb dX2_putAway_29 rfl (lv_at hl 0 rfl) ?_
    refine va_get (D := D) (ci := 2) (v := .ref (ad (2 * (8 + 2 * b)))) (C := RX2) (T := TX2) (N := 10) hx hb hts hin2 hown hK hP (26 + b) (cw_lo (S := S3) (b := b) hb2) rfl 6 (by decide) hfl14 (fun _ h9 => h9) rfl dX2_putAway_30 ?_
    refine lv_iload_n hx hb dX2_putAway_33 rfl (lv_at hl 2 rfl) ?_
    refine lv_iconst (v := (nI 0)) hx hb dX2_putAway_34 (by decide) ?_
    obtain ⟨x5, hc35, hf⟩ := zo_k hf
    refine cal_i (rnV (As := [.int x4, .int (nI 0)]) (rest := []) ⟨hx, hb, hml, hown, hts⟩ (c_X4_get hAd (by omega) hc35) (cwV 2 hts gX2_putAway_X4_get rfl rfl rfl cdV_X4_get ⟨Nat.le_of_ble_eq_true rfl, Nat.le_of_ble_eq_true rfl⟩) hP hK hN (cw_ro (S := S3) (k := (8 + 2 * b)) (by omega)) rfl rfl hl.1 rfl (Nat.le_of_ble_eq_true rfl) dX2_putAway_35 ⟨Nat.zero_le _, Nat.zero_le _⟩) hS (fun H locs hP hS => ?_)
    have hJ63 : ∀ (S6 : St), m_X2_putAway_J63 x4 rec23 S6 = some SZ → ∀ (H : Heap) (locs : List Loc) (ls : Array Slot), va_P D vwCl (cw cyI ad S6) H → va_S (CA ad) s.heap H locs → lv_has ls 3 [(0, .ref (ad (26 + b))), (1, .int p1), (2, .int x4)] → W p l e rl_X2_putAway s m args below meth c H locs 0 0 (MQ below (PoV D (cw cyI ad SZ) (CA ad)) args s 0 0 (CA ad)) (F0 m 63 ls []) := by
      intro S6 hf H locs ls hP hS hl
      unfold m_X2_putAway_J63 at hf
      obtain ⟨x7, ex7, hf⟩ := zb_k hf
      refine lv_iinc (v := x7) (lv' := [(2, .int x7), (0, .ref (ad (26 + b))), (1, .int p1)]) hx hb dX2_putAway_63 hl (k := 2) rfl (by rw [ex7]; rfl) (by decide) rfl (fun ls hl => ?_)
      refine lv_goto (tgt := 23) hx hb dX2_putAway_66 (by decide) ?_
      exact ih23 S6 x7 hf _ _ _ hP hS (lv_sub hl [1, 2, 0] rfl)
    refine lv_if_ne (tgt := 63) hx hb dX2_putAway_38 (by decide) (fun hc => ?_) (fun hc => ?_)
    · have hf := ifn hf hc
      exact hJ63 S3 hf _ _ _ hP hS (lv_sub hl [0, 1, 2] rfl)
    · have hf := ifp hf hc
      refine lv_aload_n hx hb dX2_putAway_41 rfl (lv_at hl 0 rfl) ?_
      refine va_get (D := D) (ci := 2) (v := .ref (ad (2 * 2))) (C := RX2) (T := TX2) (N := 10) hx hb hts hin2 hown hK hP (26 + b) (cw_lo (S := S3) (b := b) hb2) rfl 2 (by decide) hfl29 (fun _ h9 => h9) rfl dX2_putAway_42 ?_
      refine lv_iload_n hx hb dX2_putAway_45 rfl (lv_at hl 2 rfl) ?_
      refine lv_bipush (v := (nI 51)) hx hb dX2_putAway_46 (by decide) ?_
      obtain ⟨x8, hc48, hf⟩ := zo_k hf
      refine cal_i (rnV (As := [.int x4, .int (nI 51)]) (rest := []) ⟨hx, hb, hml, hown, hts⟩ (c_X4_get hAd (by decide) hc48) (cwV 2 hts gX2_putAway_X4_get rfl rfl rfl cdV_X4_get ⟨Nat.le_of_ble_eq_true rfl, Nat.le_of_ble_eq_true rfl⟩) hP hK hN (cw_ro (S := S3) (k := 2) (by decide)) rfl rfl hl.1 rfl (Nat.le_of_ble_eq_true rfl) dX2_putAway_48 ⟨Nat.zero_le _, Nat.zero_le _⟩) hS (fun H locs hP hS => ?_)
      refine lv_iload_n hx hb dX2_putAway_51 rfl (lv_at hl 1 rfl) ?_
      refine lv_icmp_ne (tgt := 63) hx hb dX2_putAway_52 (by decide) (fun hc => ?_) (fun hc => ?_)
      · have hf := ifn hf hc
        exact hJ63 S3 hf _ _ _ hP hS (lv_sub hl [0, 1, 2] rfl)
      · have hf := ifp hf hc
        refine lv_aload_n hx hb dX2_putAway_55 rfl (lv_at hl 0 rfl) ?_
        refine va_get (D := D) (ci := 2) (v := .ref (ad (2 * 2))) (C := RX2) (T := TX2) (N := 10) hx hb hts hin2 hown hK hP (26 + b) (cw_lo (S := S3) (b := b) hb2) rfl 2 (by decide) hfl29 (fun _ h9 => h9) rfl dX2_putAway_56 ?_
        refine lv_iload_n hx hb dX2_putAway_59 rfl (lv_at hl 2 rfl) ?_
        obtain ⟨S9, hc60, hf⟩ := zo_k hf
        refine cal_v (rnV (As := [.int x4]) (rest := []) ⟨hx, hb, hml, hown, hts⟩ (c_X4_clear hAd (by decide) hc60) (cwV 1 hts gX2_putAway_X4_clear rfl rfl rfl cdV_X4_clear ⟨Nat.le_of_ble_eq_true rfl, Nat.le_of_ble_eq_true rfl⟩) hP hK hN (cw_ro (S := S3) (k := 2) (by decide)) rfl rfl hl.1 rfl (Nat.le_of_ble_eq_true rfl) dX2_putAway_60 ⟨Nat.zero_le _, Nat.zero_le _⟩) hS (fun H locs hP hS => ?_)
        exact hJ63 S9 hf _ _ _ hP hS (lv_sub hl [0, 1, 2] rfl)
set_option maxHeartbeats 4000000 in
set_option maxRecDepth 100000 in
theorem c_X2_tell {l : Launch} {D : va_G} {cyI cyJ cyZ : ClassId} {ad : Nat → Nat} {b : Nat} (hAd : AdOK 31 ad) (hb2 : b < 2) {S : St} {p1 : Int32} {p2 : Int32} {p3 : Int32} {SZ : St} (hf : m_X2_tell b S p1 p2 p3 = some SZ) : Met l yX2_tell wsX2_tell rl_X2_tell (PreW D [(cyI, .int), (cyJ, .long), (cyZ, .boolean)] (cw cyI ad S) [.ref (ad (26 + b)), .int p1, .int p2, .int p3]) (PoV D (cw cyI ad SZ) (CA ad)) 0 0 (CA ad) := by
  refine met_go (cc := cX2_tell) (maxL := 7) (ret := none) (by decide) rfl (Nat.le_of_ble_eq_true rfl) ?_
  intro p e s m args below meth c ls hx hb hr hml hts hown hlk hP hK hN hl
  have hown : s.vm.findClass RX2 = some m.cls := hown
  have hS : va_S (CA ad) s.heap s.heap [] := va_S.rf
  have hl : lv_has ls 7 [(0, .ref (ad (26 + b))), (1, .int p1), (2, .int p2), (3, .int p3)] := hl
  have hin2 : ∀ w ∈ wsX20, w ∈ wsX2_tell := by decide +kernel
  have hin3 : ∀ w ∈ wsX30, w ∈ wsX2_tell := by decide +kernel
  have hfl36 := hts (.fieldLink RX2 36 "Makewheel$Looker" "machines" "LMakewheel$Machines;") (by decide +kernel)
  have hfl20 := hts (.fieldLink RX2 20 "Makewheel$Looker" "fresh" "LMakewheel$Rows;") (by decide +kernel)
  have hfl44 := hts (.fieldLink RX2 44 "Makewheel$Looker" "runs" "I") (by decide +kernel)
  unfold m_X2_tell at hf
  refine lv_aload_n hx hb dX2_tell_0 rfl (lv_at hl 0 rfl) ?_
  refine va_get (D := D) (ci := 2) (v := .ref (ad 25)) (C := RX2) (T := TX2) (N := 10) hx hb hts hin2 hown hK hP (26 + b) (cw_lo (S := S) (b := b) hb2) rfl 4 (by decide) hfl36 (fun _ h9 => h9) rfl dX2_tell_1 ?_
  refine lv_iload_n hx hb dX2_tell_4 rfl (lv_at hl 2 rfl) ?_
  refine lv_iload_n hx hb dX2_tell_5 rfl (lv_at hl 3 rfl) ?_
  obtain ⟨x1, hc6, hf⟩ := zo_k hf
  refine cal_i (rnV (As := [.int p2, .int p3]) (rest := []) ⟨hx, hb, hml, hown, hts⟩ (c_X3_tells hAd  hc6) (cwV 2 hts gX2_tell_X3_tells rfl rfl rfl cdV_X3_tells ⟨Nat.le_of_ble_eq_true rfl, Nat.le_of_ble_eq_true rfl⟩) hP hK hN (cw_o25 (S := S)) rfl rfl hl.1 rfl (Nat.le_of_ble_eq_true rfl) dX2_tell_6 ⟨Nat.zero_le _, Nat.zero_le _⟩) hS (fun H locs hP hS => ?_)
  refine lv_istore (lv' := [(4, .int x1), (0, .ref (ad (26 + b))), (1, .int p1), (2, .int p2), (3, .int p3)]) hx hb dX2_tell_9 hl (by decide) rfl (fun ls hl => ?_)
  refine lv_aload_n hx hb dX2_tell_11 rfl (lv_at hl 1 rfl) ?_
  refine va_get (D := D) (ci := 2) (v := .ref (ad 25)) (C := RX2) (T := TX2) (N := 10) hx hb hts hin2 hown hK hP (26 + b) (cw_lo (S := S) (b := b) hb2) rfl 4 (by decide) hfl36 (fun _ h9 => h9) rfl dX2_tell_12 ?_
  refine va_getN (D := D) (ci := 3) (v := .int (S.1 14 0)) (C := RX3) (T := TX3) (N := 4) hx hb hts hin3 hown hK hP 25 (cw_o25 (S := S)) rfl 2 (by decide) (va_Nw.use rfl hN.n2_169) (fun _ h9 => h9) rfl dX2_tell_15 ?_
  have hJ30 : m_X2_tell_J30 b S p1 x1 p2 = some SZ → ∀ (H : Heap) (locs : List Loc) (ls : Array Slot), va_P D vwCl (cw cyI ad S) H → va_S (CA ad) s.heap H locs → lv_has ls 7 [(4, .int x1), (0, .ref (ad (26 + b))), (1, .int p1), (2, .int p2), (3, .int p3)] → W p l e rl_X2_tell s m args below meth c H locs 0 0 (MQ below (PoV D (cw cyI ad SZ) (CA ad)) args s 0 0 (CA ad)) (F0 m 30 ls []) := by
    intro  hf H locs ls hP hS hl
    unfold m_X2_tell_J30 at hf
    refine lv_iconst (v := (nI 0)) hx hb dX2_tell_30 (by decide) ?_
    refine lv_istore (lv' := [(5, .int (nI 0)), (4, .int x1), (0, .ref (ad (26 + b))), (1, .int p1), (2, .int p2), (3, .int p3)]) hx hb dX2_tell_31 hl (by decide) rfl (fun ls hl => ?_)
    refine lv_iload hx hb dX2_tell_33 (lv_at hl 0 rfl) ?_
    refine lv_if_eq (tgt := 48) hx hb dX2_tell_35 (by decide) (fun _ => ?_) (fun hc => absurd (by decide) hc)
    refine lv_iload hx hb dX2_tell_48 (lv_at hl 0 rfl) ?_
    refine lv_if_eq (tgt := 63) hx hb dX2_tell_50 (by decide) (fun _ => ?_) (fun hc => absurd (by decide) hc)
    refine lv_iconst (v := (nI 0)) hx hb dX2_tell_63 (by decide) ?_
    refine lv_istore (lv' := [(6, .int (nI 0)), (5, .int (nI 0)), (4, .int x1), (0, .ref (ad (26 + b))), (1, .int p1), (2, .int p2), (3, .int p3)]) hx hb dX2_tell_64 hl (by decide) rfl (fun ls hl => ?_)
    refine lv_iload hx hb dX2_tell_66 (lv_at hl 0 rfl) ?_
    refine lv_if_eq (tgt := 76) hx hb dX2_tell_68 (by decide) (fun _ => ?_) (fun hc => absurd (by decide) hc)
    refine lv_aload_n hx hb dX2_tell_76 rfl (lv_at hl 3 rfl) ?_
    refine va_get (D := D) (ci := 2) (v := .ref (ad (2 * (9 + 2 * b)))) (C := RX2) (T := TX2) (N := 10) hx hb hts hin2 hown hK hP (26 + b) (cw_lo (S := S) (b := b) hb2) rfl 7 (by decide) hfl20 (fun _ h9 => h9) rfl dX2_tell_77 ?_
    refine lv_iload_n hx hb dX2_tell_80 rfl (lv_at hl 4 rfl) ?_
    refine lv_bipush (v := (nI 50)) hx hb dX2_tell_81 (by decide) ?_
    refine lv_iload hx hb dX2_tell_83 (lv_at hl 0 rfl) ?_
    refine lv_if_eq (tgt := 92) hx hb dX2_tell_85 (by decide) (fun _ => ?_) (fun hc => absurd (by decide) hc)
    refine lv_iload hx hb dX2_tell_92 (lv_at hl 2 rfl) ?_
    obtain ⟨S2, hc94, hf⟩ := zo_k hf
    refine cal_v (rnV (As := [.int p1, .int (nI 50), .int x1]) (rest := []) ⟨hx, hb, hml, hown, hts⟩ (c_X4_set hAd (by omega) hc94) (cwV 3 hts gX2_tell_X4_set rfl rfl rfl cdV_X4_set ⟨Nat.le_of_ble_eq_true rfl, Nat.le_of_ble_eq_true rfl⟩) hP hK hN (cw_ro (S := S) (k := (9 + 2 * b)) (by omega)) rfl rfl hl.1 rfl (Nat.le_of_ble_eq_true rfl) dX2_tell_94 ⟨Nat.zero_le _, Nat.zero_le _⟩) hS (fun H locs hP hS => ?_)
    refine lv_aload_n hx hb dX2_tell_97 rfl (lv_at hl 3 rfl) ?_
    refine va_get (D := D) (ci := 2) (v := .ref (ad (2 * (9 + 2 * b)))) (C := RX2) (T := TX2) (N := 10) hx hb hts hin2 hown hK hP (26 + b) (cw_lo (S := S2) (b := b) hb2) rfl 7 (by decide) hfl20 (fun _ h9 => h9) rfl dX2_tell_98 ?_
    refine lv_iload_n hx hb dX2_tell_101 rfl (lv_at hl 4 rfl) ?_
    refine lv_bipush (v := (nI 51)) hx hb dX2_tell_102 (by decide) ?_
    refine lv_iload hx hb dX2_tell_104 (lv_at hl 0 rfl) ?_
    refine lv_if_eq (tgt := 113) hx hb dX2_tell_106 (by decide) (fun _ => ?_) (fun hc => absurd (by decide) hc)
    refine lv_iload_n hx hb dX2_tell_113 rfl (lv_at hl 5 rfl) ?_
    obtain ⟨S3, hc114, hf⟩ := zo_k hf
    refine cal_v (rnV (As := [.int p1, .int (nI 51), .int p2]) (rest := []) ⟨hx, hb, hml, hown, hts⟩ (c_X4_set hAd (by omega) hc114) (cwV 3 hts gX2_tell_X4_set rfl rfl rfl cdV_X4_set ⟨Nat.le_of_ble_eq_true rfl, Nat.le_of_ble_eq_true rfl⟩) hP hK hN (cw_ro (S := S2) (k := (9 + 2 * b)) (by omega)) rfl rfl hl.1 rfl (Nat.le_of_ble_eq_true rfl) dX2_tell_114 ⟨Nat.zero_le _, Nat.zero_le _⟩) hS (fun H locs hP hS => ?_)
    cases Option.some.inj hf
    exact fin_v hx hb hr hlk hS hP dX2_tell_117
  refine lv_if_eq (tgt := 30) hx hb dX2_tell_18 (by decide) (fun hc => ?_) (fun hc => ?_)
  · have hf := ifp hf hc
    exact hJ30  hf _ _ _ hP hS (lv_sub hl [0, 1, 2, 3, 4] rfl)
  · have hf := ifn hf hc
    refine lv_iload_n hx hb dX2_tell_21 rfl (lv_at hl 3 rfl) ?_
    refine lv_iconst (v := (nI 3)) hx hb dX2_tell_22 (by decide) ?_
    refine lv_icmp_eq (tgt := 30) hx hb dX2_tell_23 (by decide) (fun hc => ?_) (fun hc => ?_)
    · have hf := ifp hf hc
      exact hJ30  hf _ _ _ hP hS (lv_sub hl [0, 1, 2, 3, 4] rfl)
    · have hf := ifn hf hc
      refine lv_iconst (v := (nI 1)) hx hb dX2_tell_26 (by decide) ?_
      refine lv_goto (tgt := 31) hx hb dX2_tell_27 (by decide) ?_
      refine lv_istore (lv' := [(5, .int (nI 1)), (4, .int x1), (0, .ref (ad (26 + b))), (1, .int p1), (2, .int p2), (3, .int p3)]) hx hb dX2_tell_31 hl (by decide) rfl (fun ls hl => ?_)
      refine lv_iload hx hb dX2_tell_33 (lv_at hl 0 rfl) ?_
      refine lv_if_eq (tgt := 48) hx hb dX2_tell_35 (by decide) (fun hc => absurd hc (by decide)) (fun _ => ?_)
      refine lv_aload_n hx hb dX2_tell_38 rfl (lv_at hl 2 rfl) ?_
      refine lv_dup hx hb dX2_tell_39 rfl ?_
      refine va_get (D := D) (ci := 2) (v := .int (S.1 (16 + 2 * b) 0)) (C := RX2) (T := TX2) (N := 10) hx hb hts hin2 hown hK hP (26 + b) (cw_lo (S := S) (b := b) hb2) rfl 8 (by decide) hfl44 (fun _ h9 => h9) rfl dX2_tell_40 ?_
      refine lv_iconst (v := (nI 1)) hx hb dX2_tell_43 (by decide) ?_
      refine lv_iadd hx hb dX2_tell_44 ?_
      refine va_put (D := D) (ci := 2) (v := .int (rs S (16 + 2 * b) + (nI 1))) (ty := .int) (C := RX2) (T := TX2) (N := 10) hx hb hts hin2 tyX2 tyX2_ok nmX2 hown hK hP (cw_D hAd) hS (26 + b) (cw_lo (S := S) (b := b) hb2) rfl 8 (by decide) hfl44 (fun _ h9 => h9) rfl (by decide +kernel) rfl rfl (Nat.le_of_ble_eq_true rfl) dX2_tell_45 (fun H locs hP _ hS => ?_)
      have hP : va_P D vwCl (cw cyI ad (wi S (16 + 2 * b) 0 (rs S (16 + 2 * b) + (nI 1)))) H := by rw [← cw_s16 hb2]; exact hP
      obtain ⟨S4, eS4, hf⟩ := zb_k hf
      rw [← eS4] at hP
      refine lv_iload hx hb dX2_tell_48 (lv_at hl 0 rfl) ?_
      refine lv_if_eq (tgt := 63) hx hb dX2_tell_50 (by decide) (fun hc => absurd hc (by decide)) (fun _ => ?_)
      refine lv_iload hx hb dX2_tell_53 (lv_at hl 1 rfl) ?_
      refine lv_iload_n hx hb dX2_tell_55 rfl (lv_at hl 5 rfl) ?_
      refine lv_icmp_eq (tgt := 63) hx hb dX2_tell_56 (by decide) (fun hc => ?_) (fun hc => ?_)
      · have hf := ifp hf hc
        refine lv_iconst (v := (nI 0)) hx hb dX2_tell_63 (by decide) ?_
        refine lv_istore (lv' := [(6, .int (nI 0)), (5, .int (nI 1)), (4, .int x1), (0, .ref (ad (26 + b))), (1, .int p1), (2, .int p2), (3, .int p3)]) hx hb dX2_tell_64 hl (by decide) rfl (fun ls hl => ?_)
        refine lv_iload hx hb dX2_tell_66 (lv_at hl 0 rfl) ?_
        refine lv_if_eq (tgt := 76) hx hb dX2_tell_68 (by decide) (fun _ => ?_) (fun hc => absurd (by decide) hc)
        refine lv_aload_n hx hb dX2_tell_76 rfl (lv_at hl 3 rfl) ?_
        refine va_get (D := D) (ci := 2) (v := .ref (ad (2 * (9 + 2 * b)))) (C := RX2) (T := TX2) (N := 10) hx hb hts hin2 hown hK hP (26 + b) (cw_lo (S := S4) (b := b) hb2) rfl 7 (by decide) hfl20 (fun _ h9 => h9) rfl dX2_tell_77 ?_
        refine lv_iload_n hx hb dX2_tell_80 rfl (lv_at hl 4 rfl) ?_
        refine lv_bipush (v := (nI 50)) hx hb dX2_tell_81 (by decide) ?_
        refine lv_iload hx hb dX2_tell_83 (lv_at hl 0 rfl) ?_
        refine lv_if_eq (tgt := 92) hx hb dX2_tell_85 (by decide) (fun _ => ?_) (fun hc => absurd (by decide) hc)
        refine lv_iload hx hb dX2_tell_92 (lv_at hl 2 rfl) ?_
        obtain ⟨S5, hc94, hf⟩ := zo_k hf
        refine cal_v (rnV (As := [.int p1, .int (nI 50), .int x1]) (rest := []) ⟨hx, hb, hml, hown, hts⟩ (c_X4_set hAd (by omega) hc94) (cwV 3 hts gX2_tell_X4_set rfl rfl rfl cdV_X4_set ⟨Nat.le_of_ble_eq_true rfl, Nat.le_of_ble_eq_true rfl⟩) hP hK hN (cw_ro (S := S4) (k := (9 + 2 * b)) (by omega)) rfl rfl hl.1 rfl (Nat.le_of_ble_eq_true rfl) dX2_tell_94 ⟨Nat.zero_le _, Nat.zero_le _⟩) hS (fun H locs hP hS => ?_)
        refine lv_aload_n hx hb dX2_tell_97 rfl (lv_at hl 3 rfl) ?_
        refine va_get (D := D) (ci := 2) (v := .ref (ad (2 * (9 + 2 * b)))) (C := RX2) (T := TX2) (N := 10) hx hb hts hin2 hown hK hP (26 + b) (cw_lo (S := S5) (b := b) hb2) rfl 7 (by decide) hfl20 (fun _ h9 => h9) rfl dX2_tell_98 ?_
        refine lv_iload_n hx hb dX2_tell_101 rfl (lv_at hl 4 rfl) ?_
        refine lv_bipush (v := (nI 51)) hx hb dX2_tell_102 (by decide) ?_
        refine lv_iload hx hb dX2_tell_104 (lv_at hl 0 rfl) ?_
        refine lv_if_eq (tgt := 113) hx hb dX2_tell_106 (by decide) (fun _ => ?_) (fun hc => absurd (by decide) hc)
        refine lv_iload_n hx hb dX2_tell_113 rfl (lv_at hl 5 rfl) ?_
        obtain ⟨S6, hc114, hf⟩ := zo_k hf
        refine cal_v (rnV (As := [.int p1, .int (nI 51), .int p2]) (rest := []) ⟨hx, hb, hml, hown, hts⟩ (c_X4_set hAd (by omega) hc114) (cwV 3 hts gX2_tell_X4_set rfl rfl rfl cdV_X4_set ⟨Nat.le_of_ble_eq_true rfl, Nat.le_of_ble_eq_true rfl⟩) hP hK hN (cw_ro (S := S5) (k := (9 + 2 * b)) (by omega)) rfl rfl hl.1 rfl (Nat.le_of_ble_eq_true rfl) dX2_tell_114 ⟨Nat.zero_le _, Nat.zero_le _⟩) hS (fun H locs hP hS => ?_)
        cases Option.some.inj hf
        exact fin_v hx hb hr hlk hS hP dX2_tell_117
      · have hf := ifn hf hc
        refine lv_iconst (v := (nI 1)) hx hb dX2_tell_59 (by decide) ?_
        refine lv_goto (tgt := 64) hx hb dX2_tell_60 (by decide) ?_
        refine lv_istore (lv' := [(6, .int (nI 1)), (5, .int (nI 1)), (4, .int x1), (0, .ref (ad (26 + b))), (1, .int p1), (2, .int p2), (3, .int p3)]) hx hb dX2_tell_64 hl (by decide) rfl (fun ls hl => ?_)
        refine lv_iload hx hb dX2_tell_66 (lv_at hl 0 rfl) ?_
        refine lv_if_eq (tgt := 76) hx hb dX2_tell_68 (by decide) (fun hc => absurd hc (by decide)) (fun _ => ?_)
        refine lv_aload_n hx hb dX2_tell_71 rfl (lv_at hl 3 rfl) ?_
        refine lv_iload_n hx hb dX2_tell_72 rfl (lv_at hl 5 rfl) ?_
        obtain ⟨S7, hc73, hf⟩ := zo_k hf
        refine cal_v (rnV (As := [.int p2]) (rest := []) ⟨hx, hb, hml, hown, hts⟩ (c_X2_putAway hAd hb2 hc73) (cwV 1 hts gX2_tell_X2_putAway rfl rfl rfl cdV_X2_putAway ⟨Nat.le_of_ble_eq_true rfl, Nat.le_of_ble_eq_true rfl⟩) hP hK hN (cw_lo (S := S4) (b := b) hb2) rfl rfl hl.1 rfl (Nat.le_of_ble_eq_true rfl) dX2_tell_73 ⟨Nat.zero_le _, Nat.zero_le _⟩) hS (fun H locs hP hS => ?_)
        refine lv_aload_n hx hb dX2_tell_76 rfl (lv_at hl 3 rfl) ?_
        refine va_get (D := D) (ci := 2) (v := .ref (ad (2 * (9 + 2 * b)))) (C := RX2) (T := TX2) (N := 10) hx hb hts hin2 hown hK hP (26 + b) (cw_lo (S := S7) (b := b) hb2) rfl 7 (by decide) hfl20 (fun _ h9 => h9) rfl dX2_tell_77 ?_
        refine lv_iload_n hx hb dX2_tell_80 rfl (lv_at hl 4 rfl) ?_
        refine lv_bipush (v := (nI 50)) hx hb dX2_tell_81 (by decide) ?_
        refine lv_iload hx hb dX2_tell_83 (lv_at hl 0 rfl) ?_
        refine lv_if_eq (tgt := 92) hx hb dX2_tell_85 (by decide) (fun hc => absurd hc (by decide)) (fun _ => ?_)
        refine lv_iload_n hx hb dX2_tell_88 rfl (lv_at hl 6 rfl) ?_
        refine lv_goto (tgt := 94) hx hb dX2_tell_89 (by decide) ?_
        obtain ⟨S8, hc94, hf⟩ := zo_k hf
        refine cal_v (rnV (As := [.int p1, .int (nI 50), .int p3]) (rest := []) ⟨hx, hb, hml, hown, hts⟩ (c_X4_set hAd (by omega) hc94) (cwV 3 hts gX2_tell_X4_set rfl rfl rfl cdV_X4_set ⟨Nat.le_of_ble_eq_true rfl, Nat.le_of_ble_eq_true rfl⟩) hP hK hN (cw_ro (S := S7) (k := (9 + 2 * b)) (by omega)) rfl rfl hl.1 rfl (Nat.le_of_ble_eq_true rfl) dX2_tell_94 ⟨Nat.zero_le _, Nat.zero_le _⟩) hS (fun H locs hP hS => ?_)
        refine lv_aload_n hx hb dX2_tell_97 rfl (lv_at hl 3 rfl) ?_
        refine va_get (D := D) (ci := 2) (v := .ref (ad (2 * (9 + 2 * b)))) (C := RX2) (T := TX2) (N := 10) hx hb hts hin2 hown hK hP (26 + b) (cw_lo (S := S8) (b := b) hb2) rfl 7 (by decide) hfl20 (fun _ h9 => h9) rfl dX2_tell_98 ?_
        refine lv_iload_n hx hb dX2_tell_101 rfl (lv_at hl 4 rfl) ?_
        refine lv_bipush (v := (nI 51)) hx hb dX2_tell_102 (by decide) ?_
        refine lv_iload hx hb dX2_tell_104 (lv_at hl 0 rfl) ?_
        refine lv_if_eq (tgt := 113) hx hb dX2_tell_106 (by decide) (fun hc => absurd hc (by decide)) (fun _ => ?_)
        refine lv_iconst (v := (nI 3)) hx hb dX2_tell_109 (by decide) ?_
        refine lv_goto (tgt := 114) hx hb dX2_tell_110 (by decide) ?_
        obtain ⟨S9, hc114, hf⟩ := zo_k hf
        refine cal_v (rnV (As := [.int p1, .int (nI 51), .int (nI 3)]) (rest := []) ⟨hx, hb, hml, hown, hts⟩ (c_X4_set hAd (by omega) hc114) (cwV 3 hts gX2_tell_X4_set rfl rfl rfl cdV_X4_set ⟨Nat.le_of_ble_eq_true rfl, Nat.le_of_ble_eq_true rfl⟩) hP hK hN (cw_ro (S := S8) (k := (9 + 2 * b)) (by omega)) rfl rfl hl.1 rfl (Nat.le_of_ble_eq_true rfl) dX2_tell_114 ⟨Nat.zero_le _, Nat.zero_le _⟩) hS (fun H locs hP hS => ?_)
        cases Option.some.inj hf
        exact fin_v hx hb hr hlk hS hP dX2_tell_117
set_option maxHeartbeats 4000000 in
set_option maxRecDepth 100000 in
theorem c_X2_howMany {l : Launch} {D : va_G} {cyI cyJ cyZ : ClassId} {ad : Nat → Nat} {b : Nat} (hAd : AdOK 31 ad) (hb2 : b < 2) {S : St} {p1 : Int32} {r : Int32} (hf : m_X2_howMany b S p1 = some r) : Met l yX2_howMany wsX2_howMany rl_X2_howMany (PreW D [(cyI, .int), (cyJ, .long), (cyZ, .boolean)] (cw cyI ad S) [.ref (ad (26 + b)), .int p1]) (PoI D (cw cyI ad S) (CA ad) r) 0 0 (CA ad) := by
  refine met_go (cc := cX2_howMany) (maxL := 4) (ret := (some .int)) (by decide) rfl (Nat.le_of_ble_eq_true rfl) ?_
  intro p e s m args below meth c ls hx hb hr hml hts hown hlk hP hK hN hl
  have hown : s.vm.findClass RX2 = some m.cls := hown
  have hS : va_S (CA ad) s.heap s.heap [] := va_S.rf
  have hl : lv_has ls 4 [(0, .ref (ad (26 + b))), (1, .int p1)] := hl
  have hin2 : ∀ w ∈ wsX20, w ∈ wsX2_howMany := by decide +kernel
  have hfl14 := hts (.fieldLink RX2 14 "Makewheel$Looker" "seen" "LMakewheel$Rows;") (by decide +kernel)
  unfold m_X2_howMany at hf
  refine lv_iconst (v := (nI 0)) hx hb dX2_howMany_0 (by decide) ?_
  refine lv_istore_n (lv' := [(2, .int (nI 0)), (0, .ref (ad (26 + b))), (1, .int p1)]) hx hb dX2_howMany_1 rfl hl (by decide) rfl (fun ls hl => ?_)
  refine lv_iconst (v := (nI 0)) hx hb dX2_howMany_2 (by decide) ?_
  refine lv_istore_n (lv' := [(3, .int (nI 0)), (2, .int (nI 0)), (0, .ref (ad (26 + b))), (1, .int p1)]) hx hb dX2_howMany_3 rfl hl (by decide) rfl (fun ls hl => ?_)
  refine zl2_ind (F := (m_X2_howMany_B4 b S p1)) (R := r) (P := fun x1 x2 => ∀ (H : Heap) (locs : List Loc) (ls : Array Slot), va_P D vwCl (cw cyI ad S) H → va_S (CA ad) s.heap H locs → lv_has ls 4 [(0, .ref (ad (26 + b))), (1, .int p1), (2, .int x1), (3, .int x2)] → W p l e rl_X2_howMany s m args below meth c H locs 0 0 (MQ below (PoI D (cw cyI ad S) (CA ad) r) args s 0 0 (CA ad)) (F0 m 4 ls [])) (fun rec4 ih4 x1 x2 hf H locs ls hP hS hl => ?_) FU (nI 0) (nI 0) hf _ _ _ hP hS (lv_sub hl [2, 3, 1, 0] rfl)
  unfold m_X2_howMany_B4 at hf
  refine lv_iload_n hx hb dX2_howMany_4 rfl (lv_at hl 3 rfl) ?_
  refine lv_bipush (v := (nI 32)) hx hb dX2_howMany_5 (by decide) ?_
  refine lv_icmp_ge (tgt := 32) hx hb dX2_howMany_7 (by decide) (fun hc => ?_) (fun hc => ?_)
  · have hf := ifp hf hc
    refine lv_iload_n hx hb dX2_howMany_32 rfl (lv_at hl 2 rfl) ?_
    exact fin_i hx hb hr hlk hS hP (Option.some.inj hf) dX2_howMany_33
  · have hf := ifn hf hc
    refine lv_aload_n hx hb dX2_howMany_10 rfl (lv_at hl 0 rfl) ?_
    refine va_get (D := D) (ci := 2) (v := .ref (ad (2 * (8 + 2 * b)))) (C := RX2) (T := TX2) (N := 10) hx hb hts hin2 hown hK hP (26 + b) (cw_lo (S := S) (b := b) hb2) rfl 6 (by decide) hfl14 (fun _ h9 => h9) rfl dX2_howMany_11 ?_
    refine lv_iload_n hx hb dX2_howMany_14 rfl (lv_at hl 3 rfl) ?_
    refine lv_iconst (v := (nI 0)) hx hb dX2_howMany_15 (by decide) ?_
    obtain ⟨x3, hc16, hf⟩ := zo_k hf
    refine cal_i (rnV (As := [.int x2, .int (nI 0)]) (rest := []) ⟨hx, hb, hml, hown, hts⟩ (c_X4_get hAd (by omega) hc16) (cwV 2 hts gX2_howMany_X4_get rfl rfl rfl cdV_X4_get ⟨Nat.le_of_ble_eq_true rfl, Nat.le_of_ble_eq_true rfl⟩) hP hK hN (cw_ro (S := S) (k := (8 + 2 * b)) (by omega)) rfl rfl hl.1 rfl (Nat.le_of_ble_eq_true rfl) dX2_howMany_16 ⟨Nat.zero_le _, Nat.zero_le _⟩) hS (fun H locs hP hS => ?_)
    refine lv_iload_n hx hb dX2_howMany_19 rfl (lv_at hl 1 rfl) ?_
    refine lv_icmp_ne (tgt := 26) hx hb dX2_howMany_20 (by decide) (fun hc => ?_) (fun hc => ?_)
    · have hf := ifn hf hc
      obtain ⟨x4, ex4, hf⟩ := zb_k hf
      refine lv_iinc (v := x4) (lv' := [(3, .int x4), (0, .ref (ad (26 + b))), (1, .int p1), (2, .int x1)]) hx hb dX2_howMany_26 hl (k := 3) rfl (by rw [ex4]; rfl) (by decide) rfl (fun ls hl => ?_)
      refine lv_goto (tgt := 4) hx hb dX2_howMany_29 (by decide) ?_
      exact ih4 x1 x4 hf _ _ _ hP hS (lv_sub hl [1, 2, 3, 0] rfl)
    · have hf := ifp hf hc
      obtain ⟨x5, ex5, hf⟩ := zb_k hf
      refine lv_iinc (v := x5) (lv' := [(2, .int x5), (0, .ref (ad (26 + b))), (1, .int p1), (3, .int x2)]) hx hb dX2_howMany_23 hl (k := 2) rfl (by rw [ex5]; rfl) (by decide) rfl (fun ls hl => ?_)
      obtain ⟨x6, ex6, hf⟩ := zb_k hf
      refine lv_iinc (v := x6) (lv' := [(3, .int x6), (2, .int x5), (0, .ref (ad (26 + b))), (1, .int p1)]) hx hb dX2_howMany_26 hl (k := 3) rfl (by rw [ex6]; rfl) (by decide) rfl (fun ls hl => ?_)
      refine lv_goto (tgt := 4) hx hb dX2_howMany_29 (by decide) ?_
      exact ih4 x5 x6 hf _ _ _ hP hS (lv_sub hl [2, 3, 1, 0] rfl)
set_option maxHeartbeats 4000000 in
set_option maxRecDepth 100000 in
theorem c_X2_loseKeptFromAway {l : Launch} {D : va_G} {cyI cyJ cyZ : ClassId} {ad : Nat → Nat} {b : Nat} (hAd : AdOK 31 ad) (hb2 : b < 2) {S : St}  {SZ : St} (hf : m_X2_loseKeptFromAway b S = some SZ) : Met l yX2_loseKeptFromAway wsX2_loseKeptFromAway rl_X2_loseKeptFromAway (PreW D [(cyI, .int), (cyJ, .long), (cyZ, .boolean)] (cw cyI ad S) [.ref (ad (26 + b))]) (PoV D (cw cyI ad SZ) (CA ad)) 0 0 (CA ad) := by
  refine met_go (cc := cX2_loseKeptFromAway) (maxL := 2) (ret := none) (by decide) rfl (Nat.le_of_ble_eq_true rfl) ?_
  intro p e s m args below meth c ls hx hb hr hml hts hown hlk hP hK hN hl
  have hown : s.vm.findClass RX2 = some m.cls := hown
  have hS : va_S (CA ad) s.heap s.heap [] := va_S.rf
  have hl : lv_has ls 2 [(0, .ref (ad (26 + b)))] := hl
  have hin2 : ∀ w ∈ wsX20, w ∈ wsX2_loseKeptFromAway := by decide +kernel
  have hfl36 := hts (.fieldLink RX2 36 "Makewheel$Looker" "machines" "LMakewheel$Machines;") (by decide +kernel)
  have hfl29 := hts (.fieldLink RX2 29 "Makewheel$Looker" "kept" "LMakewheel$Rows;") (by decide +kernel)
  unfold m_X2_loseKeptFromAway at hf
  refine lv_iconst (v := (nI 0)) hx hb dX2_loseKeptFromAway_0 (by decide) ?_
  refine lv_istore_n (lv' := [(1, .int (nI 0)), (0, .ref (ad (26 + b)))]) hx hb dX2_loseKeptFromAway_1 rfl hl (by decide) rfl (fun ls hl => ?_)
  refine zl2_ind (F := m_X2_loseKeptFromAway_B2) (R := SZ) (P := fun S1 x2 => ∀ (H : Heap) (locs : List Loc) (ls : Array Slot), va_P D vwCl (cw cyI ad S1) H → va_S (CA ad) s.heap H locs → lv_has ls 2 [(0, .ref (ad (26 + b))), (1, .int x2)] → W p l e rl_X2_loseKeptFromAway s m args below meth c H locs 0 0 (MQ below (PoV D (cw cyI ad SZ) (CA ad)) args s 0 0 (CA ad)) (F0 m 2 ls [])) (fun rec2 ih2 S1 x2 hf H locs ls hP hS hl => ?_) FU S (nI 0) hf _ _ _ hP hS (lv_sub hl [1, 0] rfl)
  unfold m_X2_loseKeptFromAway_B2 at hf
  refine lv_iload_n hx hb dX2_loseKeptFromAway_2 rfl (lv_at hl 1 rfl) ?_
  refine lv_bipush (v := (nI 32)) hx hb dX2_loseKeptFromAway_3 (by decide) ?_
  refine lv_icmp_ge (tgt := 42) hx hb dX2_loseKeptFromAway_5 (by decide) (fun hc => ?_) (fun hc => ?_)
  · have hf := ifp hf hc
    cases Option.some.inj hf
    exact fin_v hx hb hr hlk hS hP dX2_loseKeptFromAway_42
  · have hf := ifn hf hc
    refine lv_aload_n hx hb dX2_loseKeptFromAway_8 rfl (lv_at hl 0 rfl) ?_
    refine va_get (D := D) (ci := 2) (v := .ref (ad 25)) (C := RX2) (T := TX2) (N := 10) hx hb hts hin2 hown hK hP (26 + b) (cw_lo (S := S1) (b := b) hb2) rfl 4 (by decide) hfl36 (fun _ h9 => h9) rfl dX2_loseKeptFromAway_9 ?_
    refine lv_aload_n hx hb dX2_loseKeptFromAway_12 rfl (lv_at hl 0 rfl) ?_
    refine va_get (D := D) (ci := 2) (v := .ref (ad (2 * 2))) (C := RX2) (T := TX2) (N := 10) hx hb hts hin2 hown hK hP (26 + b) (cw_lo (S := S1) (b := b) hb2) rfl 2 (by decide) hfl29 (fun _ h9 => h9) rfl dX2_loseKeptFromAway_13 ?_
    refine lv_iload_n hx hb dX2_loseKeptFromAway_16 rfl (lv_at hl 1 rfl) ?_
    refine lv_bipush (v := (nI 51)) hx hb dX2_loseKeptFromAway_17 (by decide) ?_
    obtain ⟨x3, hc19, hf⟩ := zo_k hf
    refine cal_i (rnV (As := [.int x2, .int (nI 51)]) (rest := [.ref (ad 25)]) ⟨hx, hb, hml, hown, hts⟩ (c_X4_get hAd (by decide) hc19) (cwV 2 hts gX2_loseKeptFromAway_X4_get rfl rfl rfl cdV_X4_get ⟨Nat.le_of_ble_eq_true rfl, Nat.le_of_ble_eq_true rfl⟩) hP hK hN (cw_ro (S := S1) (k := 2) (by decide)) rfl rfl hl.1 rfl (Nat.le_of_ble_eq_true rfl) dX2_loseKeptFromAway_19 ⟨Nat.zero_le _, Nat.zero_le _⟩) hS (fun H locs hP hS => ?_)
    obtain ⟨x4, hc22, hf⟩ := zo_k hf
    refine cal_i (rnV (As := [.int x3]) (rest := []) ⟨hx, hb, hml, hown, hts⟩ (c_X3_isAway hAd  hc22) (cwV 1 hts gX2_loseKeptFromAway_X3_isAway rfl rfl rfl cdV_X3_isAway ⟨Nat.le_of_ble_eq_true rfl, Nat.le_of_ble_eq_true rfl⟩) hP hK hN (cw_o25 (S := S1)) rfl rfl hl.1 rfl (Nat.le_of_ble_eq_true rfl) dX2_loseKeptFromAway_22 ⟨Nat.zero_le _, Nat.zero_le _⟩) hS (fun H locs hP hS => ?_)
    refine lv_if_eq (tgt := 36) hx hb dX2_loseKeptFromAway_25 (by decide) (fun hc => ?_) (fun hc => ?_)
    · have hf := ifp hf hc
      obtain ⟨x5, ex5, hf⟩ := zb_k hf
      refine lv_iinc (v := x5) (lv' := [(1, .int x5), (0, .ref (ad (26 + b)))]) hx hb dX2_loseKeptFromAway_36 hl (k := 1) rfl (by rw [ex5]; rfl) (by decide) rfl (fun ls hl => ?_)
      refine lv_goto (tgt := 2) hx hb dX2_loseKeptFromAway_39 (by decide) ?_
      exact ih2 S1 x5 hf _ _ _ hP hS (lv_sub hl [1, 0] rfl)
    · have hf := ifn hf hc
      refine lv_aload_n hx hb dX2_loseKeptFromAway_28 rfl (lv_at hl 0 rfl) ?_
      refine va_get (D := D) (ci := 2) (v := .ref (ad (2 * 2))) (C := RX2) (T := TX2) (N := 10) hx hb hts hin2 hown hK hP (26 + b) (cw_lo (S := S1) (b := b) hb2) rfl 2 (by decide) hfl29 (fun _ h9 => h9) rfl dX2_loseKeptFromAway_29 ?_
      refine lv_iload_n hx hb dX2_loseKeptFromAway_32 rfl (lv_at hl 1 rfl) ?_
      obtain ⟨S6, hc33, hf⟩ := zo_k hf
      refine cal_v (rnV (As := [.int x2]) (rest := []) ⟨hx, hb, hml, hown, hts⟩ (c_X4_clear hAd (by decide) hc33) (cwV 1 hts gX2_loseKeptFromAway_X4_clear rfl rfl rfl cdV_X4_clear ⟨Nat.le_of_ble_eq_true rfl, Nat.le_of_ble_eq_true rfl⟩) hP hK hN (cw_ro (S := S1) (k := 2) (by decide)) rfl rfl hl.1 rfl (Nat.le_of_ble_eq_true rfl) dX2_loseKeptFromAway_33 ⟨Nat.zero_le _, Nat.zero_le _⟩) hS (fun H locs hP hS => ?_)
      obtain ⟨x7, ex7, hf⟩ := zb_k hf
      refine lv_iinc (v := x7) (lv' := [(1, .int x7), (0, .ref (ad (26 + b)))]) hx hb dX2_loseKeptFromAway_36 hl (k := 1) rfl (by rw [ex7]; rfl) (by decide) rfl (fun ls hl => ?_)
      refine lv_goto (tgt := 2) hx hb dX2_loseKeptFromAway_39 (by decide) ?_
      exact ih2 S6 x7 hf _ _ _ hP hS (lv_sub hl [1, 0] rfl)
