set_option maxHeartbeats 4000000 in
set_option maxRecDepth 100000 in
theorem c_X0_firstToGo {l : Launch} {D : va_G} {cyI cyJ cyZ : ClassId} {ad : Nat → Nat}  (hAd : AdOK 31 ad)  {S : St}  {r : Int32} (hf : m_X0_firstToGo S = some r) : Met l yX0_firstToGo wsX0_firstToGo rl_X0_firstToGo (PreW D [(cyI, .int), (cyJ, .long), (cyZ, .boolean)] (cw cyI ad S) [.ref (ad 24)]) (PoI D (cw cyI ad S) (CA ad) r) 0 0 (CA ad) := by
  refine met_go (cc := cX0_firstToGo) (maxL := 3) (ret := (some .int)) (by decide) rfl (Nat.le_of_ble_eq_true rfl) ?_
  intro p e s m args below meth c ls hx hb hr hml hts hown hlk hP hK hN hl
  have hown : s.vm.findClass RX0 = some m.cls := hown
  have hS : va_S (CA ad) s.heap s.heap [] := va_S.rf
  have hl : lv_has ls 3 [(0, .ref (ad 24))] := hl
  have hin0 : ∀ w ∈ wsX00, w ∈ wsX0_firstToGo := by decide +kernel
  have hfl14 := hts (.fieldLink RX0 14 "Makewheel$Cache" "rows" "LMakewheel$Rows;") (by decide +kernel)
  unfold m_X0_firstToGo at hf
  refine lv_iconst (v := (nI 0)) hx hb dX0_firstToGo_0 (by decide) ?_
  refine lv_istore_n (lv' := [(1, .int (nI 0)), (0, .ref (ad 24))]) hx hb dX0_firstToGo_1 rfl hl (by decide) rfl (fun ls hl => ?_)
  refine lv_iconst (v := (nI 1)) hx hb dX0_firstToGo_2 (by decide) ?_
  refine lv_istore_n (lv' := [(2, .int (nI 1)), (1, .int (nI 0)), (0, .ref (ad 24))]) hx hb dX0_firstToGo_3 rfl hl (by decide) rfl (fun ls hl => ?_)
  refine zl2_ind (F := (m_X0_firstToGo_B4 S)) (R := r) (P := fun x1 x2 => ∀ (H : Heap) (locs : List Loc) (ls : Array Slot), va_P D vwCl (cw cyI ad S) H → va_S (CA ad) s.heap H locs → lv_has ls 3 [(0, .ref (ad 24)), (1, .int x1), (2, .int x2)] → W p l e rl_X0_firstToGo s m args below meth c H locs 0 0 (MQ below (PoI D (cw cyI ad S) (CA ad) r) args s 0 0 (CA ad)) (F0 m 4 ls [])) (fun rec4 ih4 x1 x2 hf H locs ls hP hS hl => ?_) FU (nI 0) (nI 1) hf _ _ _ hP hS (lv_sub hl [2, 1, 0] rfl)
  unfold m_X0_firstToGo_B4 at hf
  refine lv_iload_n hx hb dX0_firstToGo_4 rfl (lv_at hl 2 rfl) ?_
  refine lv_bipush (v := (nI 100)) hx hb dX0_firstToGo_5 (by decide) ?_
  refine lv_icmp_ge (tgt := 41) hx hb dX0_firstToGo_7 (by decide) (fun hc => ?_) (fun hc => ?_)
  · have hf := ifp hf hc
    refine lv_iload_n hx hb dX0_firstToGo_41 rfl (lv_at hl 1 rfl) ?_
    exact fin_i hx hb hr hlk hS hP (Option.some.inj hf) dX0_firstToGo_42
  · have hf := ifn hf hc
    refine lv_aload_n hx hb dX0_firstToGo_10 rfl (lv_at hl 0 rfl) ?_
    refine va_get (D := D) (ci := 0) (v := .ref (ad (2 * 3))) (C := RX0) (T := TX0) (N := 3) hx hb hts hin0 hown hK hP 24 (cw_o24 (S := S)) rfl 0 (by decide) hfl14 (fun _ h9 => h9) rfl dX0_firstToGo_11 ?_
    refine lv_iload_n hx hb dX0_firstToGo_14 rfl (lv_at hl 2 rfl) ?_
    refine lv_bipush (v := (nI 52)) hx hb dX0_firstToGo_15 (by decide) ?_
    obtain ⟨x3, hc17, hf⟩ := zo_k hf
    refine cal_i (rnV (As := [.int x2, .int (nI 52)]) (rest := []) ⟨hx, hb, hml, hown, hts⟩ (c_X4_get hAd (by decide) hc17) (cwV 2 hts gX0_firstToGo_X4_get rfl rfl rfl cdV_X4_get ⟨Nat.le_of_ble_eq_true rfl, Nat.le_of_ble_eq_true rfl⟩) hP hK hN (cw_ro (S := S) (k := 3) (by decide)) rfl rfl hl.1 rfl (Nat.le_of_ble_eq_true rfl) dX0_firstToGo_17 ⟨Nat.zero_le _, Nat.zero_le _⟩) hS (fun H locs hP hS => ?_)
    refine lv_aload_n hx hb dX0_firstToGo_20 rfl (lv_at hl 0 rfl) ?_
    refine va_get (D := D) (ci := 0) (v := .ref (ad (2 * 3))) (C := RX0) (T := TX0) (N := 3) hx hb hts hin0 hown hK hP 24 (cw_o24 (S := S)) rfl 0 (by decide) hfl14 (fun _ h9 => h9) rfl dX0_firstToGo_21 ?_
    refine lv_iload_n hx hb dX0_firstToGo_24 rfl (lv_at hl 1 rfl) ?_
    refine lv_bipush (v := (nI 52)) hx hb dX0_firstToGo_25 (by decide) ?_
    obtain ⟨x4, hc27, hf⟩ := zo_k hf
    refine cal_i (rnV (As := [.int x1, .int (nI 52)]) (rest := [.int x3]) ⟨hx, hb, hml, hown, hts⟩ (c_X4_get hAd (by decide) hc27) (cwV 2 hts gX0_firstToGo_X4_get rfl rfl rfl cdV_X4_get ⟨Nat.le_of_ble_eq_true rfl, Nat.le_of_ble_eq_true rfl⟩) hP hK hN (cw_ro (S := S) (k := 3) (by decide)) rfl rfl hl.1 rfl (Nat.le_of_ble_eq_true rfl) dX0_firstToGo_27 ⟨Nat.zero_le _, Nat.zero_le _⟩) hS (fun H locs hP hS => ?_)
    refine lv_icmp_ge (tgt := 35) hx hb dX0_firstToGo_30 (by decide) (fun hc => ?_) (fun hc => ?_)
    · have hf := ifp hf hc
      obtain ⟨x5, ex5, hf⟩ := zb_k hf
      refine lv_iinc (v := x5) (lv' := [(2, .int x5), (0, .ref (ad 24)), (1, .int x1)]) hx hb dX0_firstToGo_35 hl (k := 2) rfl (by rw [ex5]; rfl) (by decide) rfl (fun ls hl => ?_)
      refine lv_goto (tgt := 4) hx hb dX0_firstToGo_38 (by decide) ?_
      exact ih4 x1 x5 hf _ _ _ hP hS (lv_sub hl [1, 2, 0] rfl)
    · have hf := ifn hf hc
      refine lv_iload_n hx hb dX0_firstToGo_33 rfl (lv_at hl 2 rfl) ?_
      refine lv_istore_n (lv' := [(1, .int x2), (0, .ref (ad 24)), (2, .int x2)]) hx hb dX0_firstToGo_34 rfl hl (by decide) rfl (fun ls hl => ?_)
      obtain ⟨x6, ex6, hf⟩ := zb_k hf
      refine lv_iinc (v := x6) (lv' := [(2, .int x6), (1, .int x2), (0, .ref (ad 24))]) hx hb dX0_firstToGo_35 hl (k := 2) rfl (by rw [ex6]; rfl) (by decide) rfl (fun ls hl => ?_)
      refine lv_goto (tgt := 4) hx hb dX0_firstToGo_38 (by decide) ?_
      exact ih4 x2 x6 hf _ _ _ hP hS (lv_sub hl [2, 1, 0] rfl)
set_option maxHeartbeats 4000000 in
set_option maxRecDepth 100000 in
theorem c_X0_add {l : Launch} {D : va_G} {cyI cyJ cyZ : ClassId} {ad : Nat → Nat} {k2 : Nat} (hAd : AdOK 31 ad) (hk2 : k2 < 12) {S : St} {p2 : Int32} {SZ : St} (hf : m_X0_add k2 S p2 = some SZ) : Met l yX0_add wsX0_add rl_X0_add (PreW D [(cyI, .int), (cyJ, .long), (cyZ, .boolean)] (cw cyI ad S) [.ref (ad 24), .ref (ad (2 * k2)), .int p2]) (PoV D (cw cyI ad SZ) (CA ad)) 0 0 (CA ad) := by
  refine met_go (cc := cX0_add) (maxL := 4) (ret := none) (by decide) rfl (Nat.le_of_ble_eq_true rfl) ?_
  intro p e s m args below meth c ls hx hb hr hml hts hown hlk hP hK hN hl
  have hown : s.vm.findClass RX0 = some m.cls := hown
  have hS : va_S (CA ad) s.heap s.heap [] := va_S.rf
  have hl : lv_has ls 4 [(0, .ref (ad 24)), (1, .ref (ad (2 * k2))), (2, .int p2)] := hl
  have hin0 : ∀ w ∈ wsX00, w ∈ wsX0_add := by decide +kernel
  have hfl14 := hts (.fieldLink RX0 14 "Makewheel$Cache" "rows" "LMakewheel$Rows;") (by decide +kernel)
  have hfl32 := hts (.fieldLink RX0 32 "Makewheel$Cache" "came" "I") (by decide +kernel)
  unfold m_X0_add at hf
  refine lv_aload_n hx hb dX0_add_0 rfl (lv_at hl 0 rfl) ?_
  obtain ⟨x1, hc1, hf⟩ := zo_k hf
  refine cal_i (rnV (As := []) (rest := []) ⟨hx, hb, hml, hown, hts⟩ (c_X0_firstToGo hAd  hc1) (cwV 0 hts gX0_add_X0_firstToGo rfl rfl rfl cdV_X0_firstToGo ⟨Nat.le_of_ble_eq_true rfl, Nat.le_of_ble_eq_true rfl⟩) hP hK hN (cw_o24 (S := S)) rfl rfl hl.1 rfl (Nat.le_of_ble_eq_true rfl) dX0_add_1 ⟨Nat.zero_le _, Nat.zero_le _⟩) hS (fun H locs hP hS => ?_)
  refine lv_istore_n (lv' := [(3, .int x1), (0, .ref (ad 24)), (1, .ref (ad (2 * k2))), (2, .int p2)]) hx hb dX0_add_4 rfl hl (by decide) rfl (fun ls hl => ?_)
  refine lv_aload_n hx hb dX0_add_5 rfl (lv_at hl 1 rfl) ?_
  refine va_get (D := D) (ci := 0) (v := .ref (ad (2 * 3))) (C := RX0) (T := TX0) (N := 3) hx hb hts hin0 hown hK hP 24 (cw_o24 (S := S)) rfl 0 (by decide) hfl14 (fun _ h9 => h9) rfl dX0_add_6 ?_
  refine lv_iload_n hx hb dX0_add_9 rfl (lv_at hl 0 rfl) ?_
  refine lv_aload_n hx hb dX0_add_10 rfl (lv_at hl 2 rfl) ?_
  refine lv_iload_n hx hb dX0_add_11 rfl (lv_at hl 3 rfl) ?_
  obtain ⟨S2, hc12, hf⟩ := zo_k hf
  refine cal_v (rnV (As := [.int x1, .ref (ad (2 * k2)), .int p2]) (rest := []) ⟨hx, hb, hml, hown, hts⟩ (c_X4_copy hAd (by decide) hk2 hc12) (cwV 3 hts gX0_add_X4_copy rfl rfl rfl cdV_X4_copy ⟨Nat.le_of_ble_eq_true rfl, Nat.le_of_ble_eq_true rfl⟩) hP hK hN (cw_ro (S := S) (k := 3) (by decide)) rfl rfl hl.1 rfl (Nat.le_of_ble_eq_true rfl) dX0_add_12 ⟨Nat.zero_le _, Nat.zero_le _⟩) hS (fun H locs hP hS => ?_)
  refine lv_aload_n hx hb dX0_add_15 rfl (lv_at hl 1 rfl) ?_
  refine va_get (D := D) (ci := 0) (v := .ref (ad (2 * 3))) (C := RX0) (T := TX0) (N := 3) hx hb hts hin0 hown hK hP 24 (cw_o24 (S := S2)) rfl 0 (by decide) hfl14 (fun _ h9 => h9) rfl dX0_add_16 ?_
  refine lv_iload_n hx hb dX0_add_19 rfl (lv_at hl 0 rfl) ?_
  refine lv_bipush (v := (nI 52)) hx hb dX0_add_20 (by decide) ?_
  refine lv_aload_n hx hb dX0_add_22 rfl (lv_at hl 1 rfl) ?_
  refine va_get (D := D) (ci := 0) (v := .int (S2.1 13 0)) (C := RX0) (T := TX0) (N := 3) hx hb hts hin0 hown hK hP 24 (cw_o24 (S := S2)) rfl 2 (by decide) hfl32 (fun _ h9 => h9) rfl dX0_add_23 ?_
  obtain ⟨S3, hc26, hf⟩ := zo_k hf
  refine cal_v (rnV (As := [.int x1, .int (nI 52), .int (rs S2 13)]) (rest := []) ⟨hx, hb, hml, hown, hts⟩ (c_X4_set hAd (by decide) hc26) (cwV 3 hts gX0_add_X4_set rfl rfl rfl cdV_X4_set ⟨Nat.le_of_ble_eq_true rfl, Nat.le_of_ble_eq_true rfl⟩) hP hK hN (cw_ro (S := S2) (k := 3) (by decide)) rfl rfl hl.1 rfl (Nat.le_of_ble_eq_true rfl) dX0_add_26 ⟨Nat.zero_le _, Nat.zero_le _⟩) hS (fun H locs hP hS => ?_)
  refine lv_aload_n hx hb dX0_add_29 rfl (lv_at hl 1 rfl) ?_
  refine lv_dup hx hb dX0_add_30 rfl ?_
  refine va_get (D := D) (ci := 0) (v := .int (S3.1 13 0)) (C := RX0) (T := TX0) (N := 3) hx hb hts hin0 hown hK hP 24 (cw_o24 (S := S3)) rfl 2 (by decide) hfl32 (fun _ h9 => h9) rfl dX0_add_31 ?_
  refine lv_iconst (v := (nI 1)) hx hb dX0_add_34 (by decide) ?_
  refine lv_iadd hx hb dX0_add_35 ?_
  refine va_put (D := D) (ci := 0) (v := .int (rs S3 13 + (nI 1))) (ty := .int) (C := RX0) (T := TX0) (N := 3) hx hb hts hin0 tyX0 tyX0_ok nmX0 hown hK hP (cw_D hAd) hS 24 (cw_o24 (S := S3)) rfl 2 (by decide) hfl32 (fun _ h9 => h9) rfl (by decide +kernel) rfl rfl (Nat.le_of_ble_eq_true rfl) dX0_add_36 (fun H locs hP _ hS => ?_)
  have hP : va_P D vwCl (cw cyI ad (wi S3 13 0 (rs S3 13 + (nI 1)))) H := by rw [← cw_s13]; exact hP
  obtain ⟨S4, eS4, hf⟩ := zb_k hf
  rw [← eS4] at hP
  cases Option.some.inj hf
  exact fin_v hx hb hr hlk hS hP dX0_add_39
set_option maxHeartbeats 4000000 in
set_option maxRecDepth 100000 in
theorem c_X0_find {l : Launch} {D : va_G} {cyI cyJ cyZ : ClassId} {ad : Nat → Nat} {k2 : Nat} (hAd : AdOK 31 ad) (hk2 : k2 < 12) {S : St} {p2 : Int32} {r : Int32} (hf : m_X0_find k2 S p2 = some r) : Met l yX0_find wsX0_find rl_X0_find (PreW D [(cyI, .int), (cyJ, .long), (cyZ, .boolean)] (cw cyI ad S) [.ref (ad 24), .ref (ad (2 * k2)), .int p2]) (PoI D (cw cyI ad S) (CA ad) r) 0 0 (CA ad) := by
  refine met_go (cc := cX0_find) (maxL := 4) (ret := (some .int)) (by decide) rfl (Nat.le_of_ble_eq_true rfl) ?_
  intro p e s m args below meth c ls hx hb hr hml hts hown hlk hP hK hN hl
  have hown : s.vm.findClass RX0 = some m.cls := hown
  have hS : va_S (CA ad) s.heap s.heap [] := va_S.rf
  have hl : lv_has ls 4 [(0, .ref (ad 24)), (1, .ref (ad (2 * k2))), (2, .int p2)] := hl
  have hin0 : ∀ w ∈ wsX00, w ∈ wsX0_find := by decide +kernel
  have hfl14 := hts (.fieldLink RX0 14 "Makewheel$Cache" "rows" "LMakewheel$Rows;") (by decide +kernel)
  unfold m_X0_find at hf
  refine lv_iconst (v := (nI 0)) hx hb dX0_find_0 (by decide) ?_
  refine lv_istore_n (lv' := [(3, .int (nI 0)), (0, .ref (ad 24)), (1, .ref (ad (2 * k2))), (2, .int p2)]) hx hb dX0_find_1 rfl hl (by decide) rfl (fun ls hl => ?_)
  refine zl1_ind (F := (m_X0_find_B2 k2 S p2)) (R := r) (P := fun x1 => ∀ (H : Heap) (locs : List Loc) (ls : Array Slot), va_P D vwCl (cw cyI ad S) H → va_S (CA ad) s.heap H locs → lv_has ls 4 [(0, .ref (ad 24)), (1, .ref (ad (2 * k2))), (2, .int p2), (3, .int x1)] → W p l e rl_X0_find s m args below meth c H locs 0 0 (MQ below (PoI D (cw cyI ad S) (CA ad) r) args s 0 0 (CA ad)) (F0 m 2 ls [])) (fun rec2 ih2 x1 hf H locs ls hP hS hl => ?_) FU (nI 0) hf _ _ _ hP hS (lv_sub hl [1, 2, 3, 0] rfl)
  unfold m_X0_find_B2 at hf
  refine lv_iload_n hx hb dX0_find_2 rfl (lv_at hl 3 rfl) ?_
  refine lv_bipush (v := (nI 100)) hx hb dX0_find_3 (by decide) ?_
  refine lv_icmp_ge (tgt := 32) hx hb dX0_find_5 (by decide) (fun hc => ?_) (fun hc => ?_)
  · have hf := ifp hf hc
    refine lv_iconst (v := (-1)) hx hb dX0_find_32 (by decide) ?_
    exact fin_i hx hb hr hlk hS hP (Option.some.inj hf) dX0_find_33
  · have hf := ifn hf hc
    refine lv_aload_n hx hb dX0_find_8 rfl (lv_at hl 0 rfl) ?_
    refine va_get (D := D) (ci := 0) (v := .ref (ad (2 * 3))) (C := RX0) (T := TX0) (N := 3) hx hb hts hin0 hown hK hP 24 (cw_o24 (S := S)) rfl 0 (by decide) hfl14 (fun _ h9 => h9) rfl dX0_find_9 ?_
    refine lv_iload_n hx hb dX0_find_12 rfl (lv_at hl 3 rfl) ?_
    refine lv_aload_n hx hb dX0_find_13 rfl (lv_at hl 1 rfl) ?_
    refine lv_iload_n hx hb dX0_find_14 rfl (lv_at hl 2 rfl) ?_
    refine lv_iconst (v := (nI 1)) hx hb dX0_find_15 (by decide) ?_
    refine lv_bipush (v := (nI 50)) hx hb dX0_find_16 (by decide) ?_
    obtain ⟨x2, hc18, hf⟩ := zo_k hf
    refine cal_i (rnV (As := [.int x1, .ref (ad (2 * k2)), .int p2, .int (nI 1), .int (nI 50)]) (rest := []) ⟨hx, hb, hml, hown, hts⟩ (c_X4_isSame hAd (by decide) hk2 hc18) (cwV 5 hts gX0_find_X4_isSame rfl rfl rfl cdV_X4_isSame ⟨Nat.le_of_ble_eq_true rfl, Nat.le_of_ble_eq_true rfl⟩) hP hK hN (cw_ro (S := S) (k := 3) (by decide)) rfl rfl hl.1 rfl (Nat.le_of_ble_eq_true rfl) dX0_find_18 ⟨Nat.zero_le _, Nat.zero_le _⟩) hS (fun H locs hP hS => ?_)
    refine lv_if_eq (tgt := 26) hx hb dX0_find_21 (by decide) (fun hc => ?_) (fun hc => ?_)
    · have hf := ifp hf hc
      obtain ⟨x3, ex3, hf⟩ := zb_k hf
      refine lv_iinc (v := x3) (lv' := [(3, .int x3), (0, .ref (ad 24)), (1, .ref (ad (2 * k2))), (2, .int p2)]) hx hb dX0_find_26 hl (k := 3) rfl (by rw [ex3]; rfl) (by decide) rfl (fun ls hl => ?_)
      refine lv_goto (tgt := 2) hx hb dX0_find_29 (by decide) ?_
      exact ih2 x3 hf _ _ _ hP hS (lv_sub hl [1, 2, 3, 0] rfl)
    · have hf := ifn hf hc
      refine lv_iload_n hx hb dX0_find_24 rfl (lv_at hl 3 rfl) ?_
      exact fin_i hx hb hr hlk hS hP (Option.some.inj hf) dX0_find_25
set_option maxHeartbeats 4000000 in
set_option maxRecDepth 100000 in
theorem c_X0_loseAllFrom {l : Launch} {D : va_G} {cyI cyJ cyZ : ClassId} {ad : Nat → Nat}  (hAd : AdOK 31 ad)  {S : St} {p1 : Int32} {SZ : St} (hf : m_X0_loseAllFrom S p1 = some SZ) : Met l yX0_loseAllFrom wsX0_loseAllFrom rl_X0_loseAllFrom (PreW D [(cyI, .int), (cyJ, .long), (cyZ, .boolean)] (cw cyI ad S) [.ref (ad 24), .int p1]) (PoV D (cw cyI ad SZ) (CA ad)) 0 0 (CA ad) := by
  refine met_go (cc := cX0_loseAllFrom) (maxL := 3) (ret := none) (by decide) rfl (Nat.le_of_ble_eq_true rfl) ?_
  intro p e s m args below meth c ls hx hb hr hml hts hown hlk hP hK hN hl
  have hown : s.vm.findClass RX0 = some m.cls := hown
  have hS : va_S (CA ad) s.heap s.heap [] := va_S.rf
  have hl : lv_has ls 3 [(0, .ref (ad 24)), (1, .int p1)] := hl
  have hin0 : ∀ w ∈ wsX00, w ∈ wsX0_loseAllFrom := by decide +kernel
  have hfl14 := hts (.fieldLink RX0 14 "Makewheel$Cache" "rows" "LMakewheel$Rows;") (by decide +kernel)
  unfold m_X0_loseAllFrom at hf
  refine lv_iconst (v := (nI 0)) hx hb dX0_loseAllFrom_0 (by decide) ?_
  refine lv_istore_n (lv' := [(2, .int (nI 0)), (0, .ref (ad 24)), (1, .int p1)]) hx hb dX0_loseAllFrom_1 rfl hl (by decide) rfl (fun ls hl => ?_)
  refine zl2_ind (F := (m_X0_loseAllFrom_B2 p1)) (R := SZ) (P := fun S1 x2 => ∀ (H : Heap) (locs : List Loc) (ls : Array Slot), va_P D vwCl (cw cyI ad S1) H → va_S (CA ad) s.heap H locs → lv_has ls 3 [(0, .ref (ad 24)), (1, .int p1), (2, .int x2)] → W p l e rl_X0_loseAllFrom s m args below meth c H locs 0 0 (MQ below (PoV D (cw cyI ad SZ) (CA ad)) args s 0 0 (CA ad)) (F0 m 2 ls [])) (fun rec2 ih2 S1 x2 hf H locs ls hP hS hl => ?_) FU S (nI 0) hf _ _ _ hP hS (lv_sub hl [1, 2, 0] rfl)
  unfold m_X0_loseAllFrom_B2 at hf
  refine lv_iload_n hx hb dX0_loseAllFrom_2 rfl (lv_at hl 2 rfl) ?_
  refine lv_bipush (v := (nI 100)) hx hb dX0_loseAllFrom_3 (by decide) ?_
  refine lv_icmp_ge (tgt := 36) hx hb dX0_loseAllFrom_5 (by decide) (fun hc => ?_) (fun hc => ?_)
  · have hf := ifp hf hc
    cases Option.some.inj hf
    exact fin_v hx hb hr hlk hS hP dX0_loseAllFrom_36
  · have hf := ifn hf hc
    refine lv_aload_n hx hb dX0_loseAllFrom_8 rfl (lv_at hl 0 rfl) ?_
    refine va_get (D := D) (ci := 0) (v := .ref (ad (2 * 3))) (C := RX0) (T := TX0) (N := 3) hx hb hts hin0 hown hK hP 24 (cw_o24 (S := S1)) rfl 0 (by decide) hfl14 (fun _ h9 => h9) rfl dX0_loseAllFrom_9 ?_
    refine lv_iload_n hx hb dX0_loseAllFrom_12 rfl (lv_at hl 2 rfl) ?_
    refine lv_bipush (v := (nI 51)) hx hb dX0_loseAllFrom_13 (by decide) ?_
    obtain ⟨x3, hc15, hf⟩ := zo_k hf
    refine cal_i (rnV (As := [.int x2, .int (nI 51)]) (rest := []) ⟨hx, hb, hml, hown, hts⟩ (c_X4_get hAd (by decide) hc15) (cwV 2 hts gX0_loseAllFrom_X4_get rfl rfl rfl cdV_X4_get ⟨Nat.le_of_ble_eq_true rfl, Nat.le_of_ble_eq_true rfl⟩) hP hK hN (cw_ro (S := S1) (k := 3) (by decide)) rfl rfl hl.1 rfl (Nat.le_of_ble_eq_true rfl) dX0_loseAllFrom_15 ⟨Nat.zero_le _, Nat.zero_le _⟩) hS (fun H locs hP hS => ?_)
    refine lv_iload_n hx hb dX0_loseAllFrom_18 rfl (lv_at hl 1 rfl) ?_
    refine lv_icmp_ne (tgt := 30) hx hb dX0_loseAllFrom_19 (by decide) (fun hc => ?_) (fun hc => ?_)
    · have hf := ifn hf hc
      obtain ⟨x4, ex4, hf⟩ := zb_k hf
      refine lv_iinc (v := x4) (lv' := [(2, .int x4), (0, .ref (ad 24)), (1, .int p1)]) hx hb dX0_loseAllFrom_30 hl (k := 2) rfl (by rw [ex4]; rfl) (by decide) rfl (fun ls hl => ?_)
      refine lv_goto (tgt := 2) hx hb dX0_loseAllFrom_33 (by decide) ?_
      exact ih2 S1 x4 hf _ _ _ hP hS (lv_sub hl [1, 2, 0] rfl)
    · have hf := ifp hf hc
      refine lv_aload_n hx hb dX0_loseAllFrom_22 rfl (lv_at hl 0 rfl) ?_
      refine va_get (D := D) (ci := 0) (v := .ref (ad (2 * 3))) (C := RX0) (T := TX0) (N := 3) hx hb hts hin0 hown hK hP 24 (cw_o24 (S := S1)) rfl 0 (by decide) hfl14 (fun _ h9 => h9) rfl dX0_loseAllFrom_23 ?_
      refine lv_iload_n hx hb dX0_loseAllFrom_26 rfl (lv_at hl 2 rfl) ?_
      obtain ⟨S5, hc27, hf⟩ := zo_k hf
      refine cal_v (rnV (As := [.int x2]) (rest := []) ⟨hx, hb, hml, hown, hts⟩ (c_X4_clear hAd (by decide) hc27) (cwV 1 hts gX0_loseAllFrom_X4_clear rfl rfl rfl cdV_X4_clear ⟨Nat.le_of_ble_eq_true rfl, Nat.le_of_ble_eq_true rfl⟩) hP hK hN (cw_ro (S := S1) (k := 3) (by decide)) rfl rfl hl.1 rfl (Nat.le_of_ble_eq_true rfl) dX0_loseAllFrom_27 ⟨Nat.zero_le _, Nat.zero_le _⟩) hS (fun H locs hP hS => ?_)
      obtain ⟨x6, ex6, hf⟩ := zb_k hf
      refine lv_iinc (v := x6) (lv' := [(2, .int x6), (0, .ref (ad 24)), (1, .int p1)]) hx hb dX0_loseAllFrom_30 hl (k := 2) rfl (by rw [ex6]; rfl) (by decide) rfl (fun ls hl => ?_)
      refine lv_goto (tgt := 2) hx hb dX0_loseAllFrom_33 (by decide) ?_
      exact ih2 S5 x6 hf _ _ _ hP hS (lv_sub hl [1, 2, 0] rfl)
set_option maxHeartbeats 4000000 in
set_option maxRecDepth 100000 in
theorem c_X3_isAway {l : Launch} {D : va_G} {cyI cyJ cyZ : ClassId} {ad : Nat → Nat}  (hAd : AdOK 31 ad)  {S : St} {p1 : Int32} {r : Int32} (hf : m_X3_isAway S p1 = some r) : Met l yX3_isAway wsX3_isAway rl_X3_isAway (PreW D [(cyI, .int), (cyJ, .long), (cyZ, .boolean)] (cw cyI ad S) [.ref (ad 25), .int p1]) (PoI D (cw cyI ad S) (CA ad) r) 0 0 (CA ad) := by
  refine met_go (cc := cX3_isAway) (maxL := 2) (ret := (some .boolean)) (by decide) rfl (Nat.le_of_ble_eq_true rfl) ?_
  intro p e s m args below meth c ls hx hb hr hml hts hown hlk hP hK hN hl
  have hown : s.vm.findClass RX3 = some m.cls := hown
  have hS : va_S (CA ad) s.heap s.heap [] := va_S.rf
  have hl : lv_has ls 2 [(0, .ref (ad 25)), (1, .int p1)] := hl
  have hin3 : ∀ w ∈ wsX30, w ∈ wsX3_isAway := by decide +kernel
  have hfl14 := hts (.fieldLink RX3 14 "Makewheel$Machines" "rows" "LMakewheel$Rows;") (by decide +kernel)
  unfold m_X3_isAway at hf
  refine lv_aload_n hx hb dX3_isAway_0 rfl (lv_at hl 0 rfl) ?_
  refine va_get (D := D) (ci := 3) (v := .ref (ad (2 * 4))) (C := RX3) (T := TX3) (N := 4) hx hb hts hin3 hown hK hP 25 (cw_o25 (S := S)) rfl 0 (by decide) hfl14 (fun _ h9 => h9) rfl dX3_isAway_1 ?_
  refine lv_iload_n hx hb dX3_isAway_4 rfl (lv_at hl 1 rfl) ?_
  refine lv_iconst (v := (nI 1)) hx hb dX3_isAway_5 (by decide) ?_
  obtain ⟨x1, hc6, hf⟩ := zo_k hf
  refine cal_i (rnV (As := [.int p1, .int (nI 1)]) (rest := []) ⟨hx, hb, hml, hown, hts⟩ (c_X4_get hAd (by decide) hc6) (cwV 2 hts gX3_isAway_X4_get rfl rfl rfl cdV_X4_get ⟨Nat.le_of_ble_eq_true rfl, Nat.le_of_ble_eq_true rfl⟩) hP hK hN (cw_ro (S := S) (k := 4) (by decide)) rfl rfl hl.1 rfl (Nat.le_of_ble_eq_true rfl) dX3_isAway_6 ⟨Nat.zero_le _, Nat.zero_le _⟩) hS (fun H locs hP hS => ?_)
  refine lv_iconst (v := (nI 1)) hx hb dX3_isAway_9 (by decide) ?_
  refine lv_icmp_ne (tgt := 17) hx hb dX3_isAway_10 (by decide) (fun hc => ?_) (fun hc => ?_)
  · have hf := ifn hf hc
    refine lv_iconst (v := (nI 0)) hx hb dX3_isAway_17 (by decide) ?_
    exact fin_z hx hb hr hlk hS hP rfl (Option.some.inj hf) dX3_isAway_18
  · have hf := ifp hf hc
    refine lv_iconst (v := (nI 1)) hx hb dX3_isAway_13 (by decide) ?_
    refine lv_goto (tgt := 18) hx hb dX3_isAway_14 (by decide) ?_
    exact fin_z hx hb hr hlk hS hP rfl (Option.some.inj hf) dX3_isAway_18
set_option maxHeartbeats 4000000 in
set_option maxRecDepth 100000 in
theorem c_X3_takeNext {l : Launch} {D : va_G} {cyI cyJ cyZ : ClassId} {ad : Nat → Nat}  (hAd : AdOK 31 ad)  {S : St}  {r : Int32} {SZ : St} (hf : m_X3_takeNext S = some (r, SZ)) : Met l yX3_takeNext wsX3_takeNext rl_X3_takeNext (PreW D [(cyI, .int), (cyJ, .long), (cyZ, .boolean)] (cw cyI ad S) [.ref (ad 25)]) (PoI D (cw cyI ad SZ) (CA ad) r) 0 0 (CA ad) := by
  refine met_go (cc := cX3_takeNext) (maxL := 3) (ret := (some .int)) (by decide) rfl (Nat.le_of_ble_eq_true rfl) ?_
  intro p e s m args below meth c ls hx hb hr hml hts hown hlk hP hK hN hl
  have hown : s.vm.findClass RX3 = some m.cls := hown
  have hS : va_S (CA ad) s.heap s.heap [] := va_S.rf
  have hl : lv_has ls 3 [(0, .ref (ad 25))] := hl
  have hin3 : ∀ w ∈ wsX30, w ∈ wsX3_takeNext := by decide +kernel
  have hfl34 := hts (.fieldLink RX3 34 "Makewheel$Machines" "turn" "I") (by decide +kernel)
  unfold m_X3_takeNext at hf
  refine lv_iconst (v := (nI 0)) hx hb dX3_takeNext_0 (by decide) ?_
  refine lv_istore_n (lv' := [(1, .int (nI 0)), (0, .ref (ad 25))]) hx hb dX3_takeNext_1 rfl hl (by decide) rfl (fun ls hl => ?_)
  refine zl2_ind (F := m_X3_takeNext_B2) (R := (r, SZ)) (P := fun S1 x2 => ∀ (H : Heap) (locs : List Loc) (ls : Array Slot), va_P D vwCl (cw cyI ad S1) H → va_S (CA ad) s.heap H locs → lv_has ls 3 [(0, .ref (ad 25)), (1, .int x2)] → W p l e rl_X3_takeNext s m args below meth c H locs 0 0 (MQ below (PoI D (cw cyI ad SZ) (CA ad) r) args s 0 0 (CA ad)) (F0 m 2 ls [])) (fun rec2 ih2 S1 x2 hf H locs ls hP hS hl => ?_) FU S (nI 0) hf _ _ _ hP hS (lv_sub hl [1, 0] rfl)
  unfold m_X3_takeNext_B2 at hf
  refine lv_iload_n hx hb dX3_takeNext_2 rfl (lv_at hl 1 rfl) ?_
  refine lv_iconst (v := (nI 3)) hx hb dX3_takeNext_3 (by decide) ?_
  refine lv_icmp_ge (tgt := 40) hx hb dX3_takeNext_4 (by decide) (fun hc => ?_) (fun hc => ?_)
  · have hf := ifp hf hc
    refine lv_iconst (v := (nI 3)) hx hb dX3_takeNext_40 (by decide) ?_
    cases Option.some.inj hf
    exact fin_i hx hb hr hlk hS hP rfl dX3_takeNext_41
  · have hf := ifn hf hc
    refine lv_aload_n hx hb dX3_takeNext_7 rfl (lv_at hl 0 rfl) ?_
    refine va_get (D := D) (ci := 3) (v := .int (S1.1 15 0)) (C := RX3) (T := TX3) (N := 4) hx hb hts hin3 hown hK hP 25 (cw_o25 (S := S1)) rfl 3 (by decide) hfl34 (fun _ h9 => h9) rfl dX3_takeNext_8 ?_
    refine lv_topi (fun x3 ex3 => ?_)
    have hf := zb_x hf ex3
    refine lv_istore_n (lv' := [(2, .int x3), (0, .ref (ad 25)), (1, .int x2)]) hx hb dX3_takeNext_11 rfl hl (by decide) rfl (fun ls hl => ?_)
    refine lv_aload_n hx hb dX3_takeNext_12 rfl (lv_at hl 1 rfl) ?_
    refine lv_aload_n hx hb dX3_takeNext_13 rfl (lv_at hl 1 rfl) ?_
    refine va_get (D := D) (ci := 3) (v := .int (S1.1 15 0)) (C := RX3) (T := TX3) (N := 4) hx hb hts hin3 hown hK hP 25 (cw_o25 (S := S1)) rfl 3 (by decide) hfl34 (fun _ h9 => h9) rfl dX3_takeNext_14 ?_
    refine lv_iconst (v := (nI 1)) hx hb dX3_takeNext_17 (by decide) ?_
    refine lv_iadd hx hb dX3_takeNext_18 ?_
    refine lv_iconst (v := (nI 3)) hx hb dX3_takeNext_19 (by decide) ?_
    refine lv_irem hx hb dX3_takeNext_20 (by decide) ?_
    refine va_put (D := D) (ci := 3) (v := .int (irm (rs S1 15 + (nI 1)) (nI 3))) (ty := .int) (C := RX3) (T := TX3) (N := 4) hx hb hts hin3 tyX3 tyX3_ok nmX3 hown hK hP (cw_D hAd) hS 25 (cw_o25 (S := S1)) rfl 3 (by decide) hfl34 (fun _ h9 => h9) rfl (by decide +kernel) rfl rfl (Nat.le_of_ble_eq_true rfl) dX3_takeNext_21 (fun H locs hP _ hS => ?_)
    have hP : va_P D vwCl (cw cyI ad (wi S1 15 0 (irm (rs S1 15 + (nI 1)) (nI 3)))) H := by rw [← cw_s15]; exact hP
    obtain ⟨S4, eS4, hf⟩ := zb_k hf
    rw [← eS4] at hP
    refine lv_aload_n hx hb dX3_takeNext_24 rfl (lv_at hl 1 rfl) ?_
    refine lv_iload_n hx hb dX3_takeNext_25 rfl (lv_at hl 0 rfl) ?_
    obtain ⟨x5, hc26, hf⟩ := zo_k hf
    refine cal_i (rnV (As := [.int x3]) (rest := []) ⟨hx, hb, hml, hown, hts⟩ (c_X3_isAway hAd  hc26) (cwV 1 hts gX3_takeNext_X3_isAway rfl rfl rfl cdV_X3_isAway ⟨Nat.le_of_ble_eq_true rfl, Nat.le_of_ble_eq_true rfl⟩) hP hK hN (cw_o25 (S := S4)) rfl rfl hl.1 rfl (Nat.le_of_ble_eq_true rfl) dX3_takeNext_26 ⟨Nat.zero_le _, Nat.zero_le _⟩) hS (fun H locs hP hS => ?_)
    refine lv_if_ne (tgt := 34) hx hb dX3_takeNext_29 (by decide) (fun hc => ?_) (fun hc => ?_)
    · have hf := ifn hf hc
      obtain ⟨x6, ex6, hf⟩ := zb_k hf
      refine lv_iinc (v := x6) (lv' := [(1, .int x6), (2, .int x3), (0, .ref (ad 25))]) hx hb dX3_takeNext_34 hl (k := 2) rfl (by rw [ex6]; rfl) (by decide) rfl (fun ls hl => ?_)
      refine lv_goto (tgt := 2) hx hb dX3_takeNext_37 (by decide) ?_
      exact ih2 S4 x6 hf _ _ _ hP hS (lv_sub hl [2, 0] rfl)
    · have hf := ifp hf hc
      refine lv_iload_n hx hb dX3_takeNext_32 rfl (lv_at hl 0 rfl) ?_
      cases Option.some.inj hf
      exact fin_i hx hb hr hlk hS hP rfl dX3_takeNext_33
set_option maxHeartbeats 4000000 in
set_option maxRecDepth 100000 in
theorem c_X3_usesUpFailure {l : Launch} {D : va_G} {cyI cyJ cyZ : ClassId} {ad : Nat → Nat}  (hAd : AdOK 31 ad)  {S : St} {p1 : Int32} {r : Int32} {SZ : St} (hf : m_X3_usesUpFailure S p1 = some (r, SZ)) : Met l yX3_usesUpFailure wsX3_usesUpFailure rl_X3_usesUpFailure (PreW D [(cyI, .int), (cyJ, .long), (cyZ, .boolean)] (cw cyI ad S) [.ref (ad 25), .int p1]) (PoI D (cw cyI ad SZ) (CA ad) r) 0 0 (CA ad) := by
  refine met_go (cc := cX3_usesUpFailure) (maxL := 3) (ret := (some .boolean)) (by decide) rfl (Nat.le_of_ble_eq_true rfl) ?_
  intro p e s m args below meth c ls hx hb hr hml hts hown hlk hP hK hN hl
  have hown : s.vm.findClass RX3 = some m.cls := hown
  have hS : va_S (CA ad) s.heap s.heap [] := va_S.rf
  have hl : lv_has ls 3 [(0, .ref (ad 25)), (1, .int p1)] := hl
  have hin3 : ∀ w ∈ wsX30, w ∈ wsX3_usesUpFailure := by decide +kernel
  have hfl20 := hts (.fieldLink RX3 20 "Makewheel$Machines" "failing" "LMakewheel$Rows;") (by decide +kernel)
  unfold m_X3_usesUpFailure at hf
  refine lv_aload_n hx hb dX3_usesUpFailure_0 rfl (lv_at hl 0 rfl) ?_
  refine va_get (D := D) (ci := 3) (v := .ref (ad (2 * 5))) (C := RX3) (T := TX3) (N := 4) hx hb hts hin3 hown hK hP 25 (cw_o25 (S := S)) rfl 1 (by decide) hfl20 (fun _ h9 => h9) rfl dX3_usesUpFailure_1 ?_
  refine lv_iload_n hx hb dX3_usesUpFailure_4 rfl (lv_at hl 1 rfl) ?_
  refine lv_iconst (v := (nI 0)) hx hb dX3_usesUpFailure_5 (by decide) ?_
  obtain ⟨x1, hc6, hf⟩ := zo_k hf
  refine cal_i (rnV (As := [.int p1, .int (nI 0)]) (rest := []) ⟨hx, hb, hml, hown, hts⟩ (c_X4_get hAd (by decide) hc6) (cwV 2 hts gX3_usesUpFailure_X4_get rfl rfl rfl cdV_X4_get ⟨Nat.le_of_ble_eq_true rfl, Nat.le_of_ble_eq_true rfl⟩) hP hK hN (cw_ro (S := S) (k := 5) (by decide)) rfl rfl hl.1 rfl (Nat.le_of_ble_eq_true rfl) dX3_usesUpFailure_6 ⟨Nat.zero_le _, Nat.zero_le _⟩) hS (fun H locs hP hS => ?_)
  refine lv_istore_n (lv' := [(2, .int x1), (0, .ref (ad 25)), (1, .int p1)]) hx hb dX3_usesUpFailure_9 rfl hl (by decide) rfl (fun ls hl => ?_)
  refine lv_iload_n hx hb dX3_usesUpFailure_10 rfl (lv_at hl 0 rfl) ?_
  refine lv_if_le (tgt := 26) hx hb dX3_usesUpFailure_11 (by decide) (fun hc => ?_) (fun hc => ?_)
  · have hf := ifp hf hc
    refine lv_iload_n hx hb dX3_usesUpFailure_26 rfl (lv_at hl 0 rfl) ?_
    refine lv_if_le (tgt := 34) hx hb dX3_usesUpFailure_27 (by decide) (fun hc => ?_) (fun hc => ?_)
    · have hf := ifp hf hc
      refine lv_iconst (v := (nI 0)) hx hb dX3_usesUpFailure_34 (by decide) ?_
      cases Option.some.inj hf
      exact fin_z hx hb hr hlk hS hP rfl rfl dX3_usesUpFailure_35
    · have hf := ifn hf hc
      refine lv_iconst (v := (nI 1)) hx hb dX3_usesUpFailure_30 (by decide) ?_
      refine lv_goto (tgt := 35) hx hb dX3_usesUpFailure_31 (by decide) ?_
      cases Option.some.inj hf
      exact fin_z hx hb hr hlk hS hP rfl rfl dX3_usesUpFailure_35
  · have hf := ifn hf hc
    refine lv_aload_n hx hb dX3_usesUpFailure_14 rfl (lv_at hl 1 rfl) ?_
    refine va_get (D := D) (ci := 3) (v := .ref (ad (2 * 5))) (C := RX3) (T := TX3) (N := 4) hx hb hts hin3 hown hK hP 25 (cw_o25 (S := S)) rfl 1 (by decide) hfl20 (fun _ h9 => h9) rfl dX3_usesUpFailure_15 ?_
    refine lv_iload_n hx hb dX3_usesUpFailure_18 rfl (lv_at hl 2 rfl) ?_
    refine lv_iconst (v := (nI 0)) hx hb dX3_usesUpFailure_19 (by decide) ?_
    refine lv_iload_n hx hb dX3_usesUpFailure_20 rfl (lv_at hl 0 rfl) ?_
    refine lv_iconst (v := (nI 1)) hx hb dX3_usesUpFailure_21 (by decide) ?_
    refine lv_isub hx hb dX3_usesUpFailure_22 ?_
    obtain ⟨S2, hc23, hf⟩ := zo_k hf
    refine cal_v (rnV (As := [.int p1, .int (nI 0), .int (x1 - (nI 1))]) (rest := []) ⟨hx, hb, hml, hown, hts⟩ (c_X4_set hAd (by decide) hc23) (cwV 3 hts gX3_usesUpFailure_X4_set rfl rfl rfl cdV_X4_set ⟨Nat.le_of_ble_eq_true rfl, Nat.le_of_ble_eq_true rfl⟩) hP hK hN (cw_ro (S := S) (k := 5) (by decide)) rfl rfl hl.1 rfl (Nat.le_of_ble_eq_true rfl) dX3_usesUpFailure_23 ⟨Nat.zero_le _, Nat.zero_le _⟩) hS (fun H locs hP hS => ?_)
    refine lv_iload_n hx hb dX3_usesUpFailure_26 rfl (lv_at hl 0 rfl) ?_
    refine lv_if_le (tgt := 34) hx hb dX3_usesUpFailure_27 (by decide) (fun hc => ?_) (fun hc => ?_)
    · have hf := ifp hf hc
      refine lv_iconst (v := (nI 0)) hx hb dX3_usesUpFailure_34 (by decide) ?_
      cases Option.some.inj hf
      exact fin_z hx hb hr hlk hS hP rfl rfl dX3_usesUpFailure_35
    · have hf := ifn hf hc
      refine lv_iconst (v := (nI 1)) hx hb dX3_usesUpFailure_30 (by decide) ?_
      refine lv_goto (tgt := 35) hx hb dX3_usesUpFailure_31 (by decide) ?_
      cases Option.some.inj hf
      exact fin_z hx hb hr hlk hS hP rfl rfl dX3_usesUpFailure_35
set_option maxHeartbeats 4000000 in
set_option maxRecDepth 100000 in
theorem c_X3_tells {l : Launch} {D : va_G} {cyI cyJ cyZ : ClassId} {ad : Nat → Nat}  (hAd : AdOK 31 ad)  {S : St} {p1 : Int32} {p2 : Int32} {r : Int32} (hf : m_X3_tells S p1 p2 = some r) : Met l yX3_tells wsX3_tells rl_X3_tells (PreW D [(cyI, .int), (cyJ, .long), (cyZ, .boolean)] (cw cyI ad S) [.ref (ad 25), .int p1, .int p2]) (PoI D (cw cyI ad S) (CA ad) r) 0 0 (CA ad) := by
  refine met_go (cc := cX3_tells) (maxL := 3) (ret := (some .int)) (by decide) rfl (Nat.le_of_ble_eq_true rfl) ?_
  intro p e s m args below meth c ls hx hb hr hml hts hown hlk hP hK hN hl
  have hown : s.vm.findClass RX3 = some m.cls := hown
  have hS : va_S (CA ad) s.heap s.heap [] := va_S.rf
  have hl : lv_has ls 3 [(0, .ref (ad 25)), (1, .int p1), (2, .int p2)] := hl
  have hin3 : ∀ w ∈ wsX30, w ∈ wsX3_tells := by decide +kernel
  have hfl14 := hts (.fieldLink RX3 14 "Makewheel$Machines" "rows" "LMakewheel$Rows;") (by decide +kernel)
  unfold m_X3_tells at hf
  refine lv_aload_n hx hb dX3_tells_0 rfl (lv_at hl 0 rfl) ?_
  refine va_get (D := D) (ci := 3) (v := .ref (ad (2 * 4))) (C := RX3) (T := TX3) (N := 4) hx hb hts hin3 hown hK hP 25 (cw_o25 (S := S)) rfl 0 (by decide) hfl14 (fun _ h9 => h9) rfl dX3_tells_1 ?_
  refine lv_iload_n hx hb dX3_tells_4 rfl (lv_at hl 1 rfl) ?_
  refine lv_iconst (v := (nI 0)) hx hb dX3_tells_5 (by decide) ?_
  obtain ⟨x1, hc6, hf⟩ := zo_k hf
  refine cal_i (rnV (As := [.int p1, .int (nI 0)]) (rest := []) ⟨hx, hb, hml, hown, hts⟩ (c_X4_get hAd (by decide) hc6) (cwV 2 hts gX3_tells_X4_get rfl rfl rfl cdV_X4_get ⟨Nat.le_of_ble_eq_true rfl, Nat.le_of_ble_eq_true rfl⟩) hP hK hN (cw_ro (S := S) (k := 4) (by decide)) rfl rfl hl.1 rfl (Nat.le_of_ble_eq_true rfl) dX3_tells_6 ⟨Nat.zero_le _, Nat.zero_le _⟩) hS (fun H locs hP hS => ?_)
  refine lv_iconst (v := (nI 1)) hx hb dX3_tells_9 (by decide) ?_
  refine lv_icmp_ne (tgt := 23) hx hb dX3_tells_10 (by decide) (fun hc => ?_) (fun hc => ?_)
  · have hf := ifn hf hc
    refine lv_iload_n hx hb dX3_tells_23 rfl (lv_at hl 2 rfl) ?_
    exact fin_i hx hb hr hlk hS hP (Option.some.inj hf) dX3_tells_24
  · have hf := ifp hf hc
    refine lv_iload_n hx hb dX3_tells_13 rfl (lv_at hl 2 rfl) ?_
    refine lv_iconst (v := (nI 1)) hx hb dX3_tells_14 (by decide) ?_
    refine lv_iadd hx hb dX3_tells_15 ?_
    refine lv_sipush (v := (nI 1000)) hx hb dX3_tells_16 (by decide) ?_
    refine lv_irem hx hb dX3_tells_19 (by decide) ?_
    refine lv_goto (tgt := 24) hx hb dX3_tells_20 (by decide) ?_
    exact fin_i hx hb hr hlk hS hP (Option.some.inj hf) dX3_tells_24
set_option maxHeartbeats 4000000 in
set_option maxRecDepth 100000 in
theorem c_X3_allAway {l : Launch} {D : va_G} {cyI cyJ cyZ : ClassId} {ad : Nat → Nat}  (hAd : AdOK 31 ad)  {S : St}  {r : Int32} (hf : m_X3_allAway S = some r) : Met l yX3_allAway wsX3_allAway rl_X3_allAway (PreW D [(cyI, .int), (cyJ, .long), (cyZ, .boolean)] (cw cyI ad S) [.ref (ad 25)]) (PoI D (cw cyI ad S) (CA ad) r) 0 0 (CA ad) := by
  refine met_go (cc := cX3_allAway) (maxL := 3) (ret := (some .int)) (by decide) rfl (Nat.le_of_ble_eq_true rfl) ?_
  intro p e s m args below meth c ls hx hb hr hml hts hown hlk hP hK hN hl
  have hown : s.vm.findClass RX3 = some m.cls := hown
  have hS : va_S (CA ad) s.heap s.heap [] := va_S.rf
  have hl : lv_has ls 3 [(0, .ref (ad 25))] := hl
  unfold m_X3_allAway at hf
  refine lv_iconst (v := (nI 0)) hx hb dX3_allAway_0 (by decide) ?_
  refine lv_istore_n (lv' := [(1, .int (nI 0)), (0, .ref (ad 25))]) hx hb dX3_allAway_1 rfl hl (by decide) rfl (fun ls hl => ?_)
  refine lv_iconst (v := (nI 0)) hx hb dX3_allAway_2 (by decide) ?_
  refine lv_istore_n (lv' := [(2, .int (nI 0)), (1, .int (nI 0)), (0, .ref (ad 25))]) hx hb dX3_allAway_3 rfl hl (by decide) rfl (fun ls hl => ?_)
  refine zl2_ind (F := (m_X3_allAway_B4 S)) (R := r) (P := fun x1 x2 => ∀ (H : Heap) (locs : List Loc) (ls : Array Slot), va_P D vwCl (cw cyI ad S) H → va_S (CA ad) s.heap H locs → lv_has ls 3 [(0, .ref (ad 25)), (1, .int x1), (2, .int x2)] → W p l e rl_X3_allAway s m args below meth c H locs 0 0 (MQ below (PoI D (cw cyI ad S) (CA ad) r) args s 0 0 (CA ad)) (F0 m 4 ls [])) (fun rec4 ih4 x1 x2 hf H locs ls hP hS hl => ?_) FU (nI 0) (nI 0) hf _ _ _ hP hS (lv_sub hl [2, 1, 0] rfl)
  unfold m_X3_allAway_B4 at hf
  refine lv_iload_n hx hb dX3_allAway_4 rfl (lv_at hl 2 rfl) ?_
  refine lv_iconst (v := (nI 3)) hx hb dX3_allAway_5 (by decide) ?_
  refine lv_icmp_ge (tgt := 29) hx hb dX3_allAway_6 (by decide) (fun hc => ?_) (fun hc => ?_)
  · have hf := ifp hf hc
    refine lv_iload_n hx hb dX3_allAway_29 rfl (lv_at hl 1 rfl) ?_
    exact fin_i hx hb hr hlk hS hP (Option.some.inj hf) dX3_allAway_30
  · have hf := ifn hf hc
    refine lv_aload_n hx hb dX3_allAway_9 rfl (lv_at hl 0 rfl) ?_
    refine lv_iload_n hx hb dX3_allAway_10 rfl (lv_at hl 2 rfl) ?_
    obtain ⟨x3, hc11, hf⟩ := zo_k hf
    refine cal_i (rnV (As := [.int x2]) (rest := []) ⟨hx, hb, hml, hown, hts⟩ (c_X3_isAway hAd  hc11) (cwV 1 hts gX3_allAway_X3_isAway rfl rfl rfl cdV_X3_isAway ⟨Nat.le_of_ble_eq_true rfl, Nat.le_of_ble_eq_true rfl⟩) hP hK hN (cw_o25 (S := S)) rfl rfl hl.1 rfl (Nat.le_of_ble_eq_true rfl) dX3_allAway_11 ⟨Nat.zero_le _, Nat.zero_le _⟩) hS (fun H locs hP hS => ?_)
    refine lv_if_eq (tgt := 23) hx hb dX3_allAway_14 (by decide) (fun hc => ?_) (fun hc => ?_)
    · have hf := ifp hf hc
      obtain ⟨x4, ex4, hf⟩ := zb_k hf
      refine lv_iinc (v := x4) (lv' := [(2, .int x4), (0, .ref (ad 25)), (1, .int x1)]) hx hb dX3_allAway_23 hl (k := 2) rfl (by rw [ex4]; rfl) (by decide) rfl (fun ls hl => ?_)
      refine lv_goto (tgt := 4) hx hb dX3_allAway_26 (by decide) ?_
      exact ih4 x1 x4 hf _ _ _ hP hS (lv_sub hl [1, 2, 0] rfl)
    · have hf := ifn hf hc
      refine lv_iload_n hx hb dX3_allAway_17 rfl (lv_at hl 1 rfl) ?_
      refine lv_iconst (v := (nI 1)) hx hb dX3_allAway_18 (by decide) ?_
      refine lv_iload_n hx hb dX3_allAway_19 rfl (lv_at hl 2 rfl) ?_
      refine lv_ishl hx hb dX3_allAway_20 ?_
      refine lv_ior hx hb dX3_allAway_21 ?_
      refine lv_topi (fun x5 ex5 => ?_)
      have hf := zb_x hf ex5
      refine lv_istore_n (lv' := [(1, .int x5), (0, .ref (ad 25)), (2, .int x2)]) hx hb dX3_allAway_22 rfl hl (by decide) rfl (fun ls hl => ?_)
      obtain ⟨x6, ex6, hf⟩ := zb_k hf
      refine lv_iinc (v := x6) (lv' := [(2, .int x6), (1, .int x5), (0, .ref (ad 25))]) hx hb dX3_allAway_23 hl (k := 2) rfl (by rw [ex6]; rfl) (by decide) rfl (fun ls hl => ?_)
      refine lv_goto (tgt := 4) hx hb dX3_allAway_26 (by decide) ?_
      exact ih4 x5 x6 hf _ _ _ hP hS (lv_sub hl [2, 1, 0] rfl)
set_option maxHeartbeats 4000000 in
set_option maxRecDepth 100000 in
theorem c_X3_bringBack {l : Launch} {D : va_G} {cyI cyJ cyZ : ClassId} {ad : Nat → Nat}  (hAd : AdOK 31 ad)  {S : St} {p1 : Int32} {p2 : Int32} {r : Int32} {SZ : St} (hf : m_X3_bringBack S p1 p2 = some (r, SZ)) : Met l yX3_bringBack wsX3_bringBack rl_X3_bringBack (PreW D [(cyI, .int), (cyJ, .long), (cyZ, .boolean)] (cw cyI ad S) [.ref (ad 25), .int p1, .int p2]) (PoI D (cw cyI ad SZ) (CA ad) r) 0 0 (CA ad) := by
  refine met_go (cc := cX3_bringBack) (maxL := 4) (ret := (some .boolean)) (by decide) rfl (Nat.le_of_ble_eq_true rfl) ?_
  intro p e s m args below meth c ls hx hb hr hml hts hown hlk hP hK hN hl
  have hown : s.vm.findClass RX3 = some m.cls := hown
  have hS : va_S (CA ad) s.heap s.heap [] := va_S.rf
  have hl : lv_has ls 4 [(0, .ref (ad 25)), (1, .int p1), (2, .int p2)] := hl
  have hin3 : ∀ w ∈ wsX30, w ∈ wsX3_bringBack := by decide +kernel
  have hfl14 := hts (.fieldLink RX3 14 "Makewheel$Machines" "rows" "LMakewheel$Rows;") (by decide +kernel)
  unfold m_X3_bringBack at hf
  refine lv_aload_n hx hb dX3_bringBack_0 rfl (lv_at hl 0 rfl) ?_
  refine lv_iload_n hx hb dX3_bringBack_1 rfl (lv_at hl 1 rfl) ?_
  obtain ⟨x1, hc2, hf⟩ := zo_k hf
  refine cal_i (rnV (As := [.int p1]) (rest := []) ⟨hx, hb, hml, hown, hts⟩ (c_X3_isAway hAd  hc2) (cwV 1 hts gX3_bringBack_X3_isAway rfl rfl rfl cdV_X3_isAway ⟨Nat.le_of_ble_eq_true rfl, Nat.le_of_ble_eq_true rfl⟩) hP hK hN (cw_o25 (S := S)) rfl rfl hl.1 rfl (Nat.le_of_ble_eq_true rfl) dX3_bringBack_2 ⟨Nat.zero_le _, Nat.zero_le _⟩) hS (fun H locs hP hS => ?_)
  refine lv_istore_n (lv' := [(3, .int x1), (0, .ref (ad 25)), (1, .int p1), (2, .int p2)]) hx hb dX3_bringBack_5 rfl hl (by decide) rfl (fun ls hl => ?_)
  refine lv_aload_n hx hb dX3_bringBack_6 rfl (lv_at hl 1 rfl) ?_
  refine va_get (D := D) (ci := 3) (v := .ref (ad (2 * 4))) (C := RX3) (T := TX3) (N := 4) hx hb hts hin3 hown hK hP 25 (cw_o25 (S := S)) rfl 0 (by decide) hfl14 (fun _ h9 => h9) rfl dX3_bringBack_7 ?_
  refine lv_iload_n hx hb dX3_bringBack_10 rfl (lv_at hl 2 rfl) ?_
  refine lv_iconst (v := (nI 1)) hx hb dX3_bringBack_11 (by decide) ?_
  refine lv_iconst (v := (nI 0)) hx hb dX3_bringBack_12 (by decide) ?_
  obtain ⟨S2, hc13, hf⟩ := zo_k hf
  refine cal_v (rnV (As := [.int p1, .int (nI 1), .int (nI 0)]) (rest := []) ⟨hx, hb, hml, hown, hts⟩ (c_X4_set hAd (by decide) hc13) (cwV 3 hts gX3_bringBack_X4_set rfl rfl rfl cdV_X4_set ⟨Nat.le_of_ble_eq_true rfl, Nat.le_of_ble_eq_true rfl⟩) hP hK hN (cw_ro (S := S) (k := 4) (by decide)) rfl rfl hl.1 rfl (Nat.le_of_ble_eq_true rfl) dX3_bringBack_13 ⟨Nat.zero_le _, Nat.zero_le _⟩) hS (fun H locs hP hS => ?_)
  refine lv_aload_n hx hb dX3_bringBack_16 rfl (lv_at hl 1 rfl) ?_
  refine va_get (D := D) (ci := 3) (v := .ref (ad (2 * 4))) (C := RX3) (T := TX3) (N := 4) hx hb hts hin3 hown hK hP 25 (cw_o25 (S := S2)) rfl 0 (by decide) hfl14 (fun _ h9 => h9) rfl dX3_bringBack_17 ?_
  refine lv_iload_n hx hb dX3_bringBack_20 rfl (lv_at hl 2 rfl) ?_
  refine lv_iconst (v := (nI 0)) hx hb dX3_bringBack_21 (by decide) ?_
  refine lv_iload_n hx hb dX3_bringBack_22 rfl (lv_at hl 3 rfl) ?_
  refine lv_if_eq (tgt := 30) hx hb dX3_bringBack_23 (by decide) (fun hc => ?_) (fun hc => ?_)
  · have hf := ifp hf hc
    refine lv_iconst (v := (nI 0)) hx hb dX3_bringBack_30 (by decide) ?_
    obtain ⟨S3, hc31, hf⟩ := zo_k hf
    refine cal_v (rnV (As := [.int p1, .int (nI 0), .int (nI 0)]) (rest := []) ⟨hx, hb, hml, hown, hts⟩ (c_X4_set hAd (by decide) hc31) (cwV 3 hts gX3_bringBack_X4_set rfl rfl rfl cdV_X4_set ⟨Nat.le_of_ble_eq_true rfl, Nat.le_of_ble_eq_true rfl⟩) hP hK hN (cw_ro (S := S2) (k := 4) (by decide)) rfl rfl hl.1 rfl (Nat.le_of_ble_eq_true rfl) dX3_bringBack_31 ⟨Nat.zero_le _, Nat.zero_le _⟩) hS (fun H locs hP hS => ?_)
    refine lv_iload_n hx hb dX3_bringBack_34 rfl (lv_at hl 0 rfl) ?_
    obtain ⟨hbz, hf⟩ := zg_k hf
    cases Option.some.inj hf
    exact fin_z hx hb hr hlk hS hP (bz_n hbz) rfl dX3_bringBack_35
  · have hf := ifn hf hc
    refine lv_iconst (v := (nI 1)) hx hb dX3_bringBack_26 (by decide) ?_
    refine lv_goto (tgt := 31) hx hb dX3_bringBack_27 (by decide) ?_
    obtain ⟨S4, hc31, hf⟩ := zo_k hf
    refine cal_v (rnV (As := [.int p1, .int (nI 0), .int (nI 1)]) (rest := []) ⟨hx, hb, hml, hown, hts⟩ (c_X4_set hAd (by decide) hc31) (cwV 3 hts gX3_bringBack_X4_set rfl rfl rfl cdV_X4_set ⟨Nat.le_of_ble_eq_true rfl, Nat.le_of_ble_eq_true rfl⟩) hP hK hN (cw_ro (S := S2) (k := 4) (by decide)) rfl rfl hl.1 rfl (Nat.le_of_ble_eq_true rfl) dX3_bringBack_31 ⟨Nat.zero_le _, Nat.zero_le _⟩) hS (fun H locs hP hS => ?_)
    refine lv_iload_n hx hb dX3_bringBack_34 rfl (lv_at hl 0 rfl) ?_
    obtain ⟨hbz, hf⟩ := zg_k hf
    cases Option.some.inj hf
    exact fin_z hx hb hr hlk hS hP (bz_n hbz) rfl dX3_bringBack_35
set_option maxHeartbeats 4000000 in
set_option maxRecDepth 100000 in
theorem c_X3_letFail {l : Launch} {D : va_G} {cyI cyJ cyZ : ClassId} {ad : Nat → Nat}  (hAd : AdOK 31 ad)  {S : St} {p1 : Int32} {p2 : Int32} {r : Int32} {SZ : St} (hf : m_X3_letFail S p1 p2 = some (r, SZ)) : Met l yX3_letFail wsX3_letFail rl_X3_letFail (PreW D [(cyI, .int), (cyJ, .long), (cyZ, .boolean)] (cw cyI ad S) [.ref (ad 25), .int p1, .int p2]) (PoI D (cw cyI ad SZ) (CA ad) r) 0 0 (CA ad) := by
  refine met_go (cc := cX3_letFail) (maxL := 4) (ret := (some .int)) (by decide) rfl (Nat.le_of_ble_eq_true rfl) ?_
  intro p e s m args below meth c ls hx hb hr hml hts hown hlk hP hK hN hl
  have hown : s.vm.findClass RX3 = some m.cls := hown
  have hS : va_S (CA ad) s.heap s.heap [] := va_S.rf
  have hl : lv_has ls 4 [(0, .ref (ad 25)), (1, .int p1), (2, .int p2)] := hl
  have hin3 : ∀ w ∈ wsX30, w ∈ wsX3_letFail := by decide +kernel
  have hfl20 := hts (.fieldLink RX3 20 "Makewheel$Machines" "failing" "LMakewheel$Rows;") (by decide +kernel)
  unfold m_X3_letFail at hf
  refine lv_aload_n hx hb dX3_letFail_0 rfl (lv_at hl 0 rfl) ?_
  refine va_get (D := D) (ci := 3) (v := .ref (ad (2 * 5))) (C := RX3) (T := TX3) (N := 4) hx hb hts hin3 hown hK hP 25 (cw_o25 (S := S)) rfl 1 (by decide) hfl20 (fun _ h9 => h9) rfl dX3_letFail_1 ?_
  refine lv_iload_n hx hb dX3_letFail_4 rfl (lv_at hl 1 rfl) ?_
  refine lv_iconst (v := (nI 0)) hx hb dX3_letFail_5 (by decide) ?_
  obtain ⟨x1, hc6, hf⟩ := zo_k hf
  refine cal_i (rnV (As := [.int p1, .int (nI 0)]) (rest := []) ⟨hx, hb, hml, hown, hts⟩ (c_X4_get hAd (by decide) hc6) (cwV 2 hts gX3_letFail_X4_get rfl rfl rfl cdV_X4_get ⟨Nat.le_of_ble_eq_true rfl, Nat.le_of_ble_eq_true rfl⟩) hP hK hN (cw_ro (S := S) (k := 5) (by decide)) rfl rfl hl.1 rfl (Nat.le_of_ble_eq_true rfl) dX3_letFail_6 ⟨Nat.zero_le _, Nat.zero_le _⟩) hS (fun H locs hP hS => ?_)
  refine lv_istore_n (lv' := [(3, .int x1), (0, .ref (ad 25)), (1, .int p1), (2, .int p2)]) hx hb dX3_letFail_9 rfl hl (by decide) rfl (fun ls hl => ?_)
  refine lv_aload_n hx hb dX3_letFail_10 rfl (lv_at hl 1 rfl) ?_
  refine va_get (D := D) (ci := 3) (v := .ref (ad (2 * 5))) (C := RX3) (T := TX3) (N := 4) hx hb hts hin3 hown hK hP 25 (cw_o25 (S := S)) rfl 1 (by decide) hfl20 (fun _ h9 => h9) rfl dX3_letFail_11 ?_
  refine lv_iload_n hx hb dX3_letFail_14 rfl (lv_at hl 2 rfl) ?_
  refine lv_iconst (v := (nI 0)) hx hb dX3_letFail_15 (by decide) ?_
  refine lv_iload_n hx hb dX3_letFail_16 rfl (lv_at hl 3 rfl) ?_
  obtain ⟨S2, hc17, hf⟩ := zo_k hf
  refine cal_v (rnV (As := [.int p1, .int (nI 0), .int p2]) (rest := []) ⟨hx, hb, hml, hown, hts⟩ (c_X4_set hAd (by decide) hc17) (cwV 3 hts gX3_letFail_X4_set rfl rfl rfl cdV_X4_set ⟨Nat.le_of_ble_eq_true rfl, Nat.le_of_ble_eq_true rfl⟩) hP hK hN (cw_ro (S := S) (k := 5) (by decide)) rfl rfl hl.1 rfl (Nat.le_of_ble_eq_true rfl) dX3_letFail_17 ⟨Nat.zero_le _, Nat.zero_le _⟩) hS (fun H locs hP hS => ?_)
  refine lv_iload_n hx hb dX3_letFail_20 rfl (lv_at hl 0 rfl) ?_
  cases Option.some.inj hf
  exact fin_i hx hb hr hlk hS hP rfl dX3_letFail_21
set_option maxHeartbeats 4000000 in
set_option maxRecDepth 100000 in
theorem c_X6_contentOf {l : Launch} {D : va_G} {cyI cyJ cyZ : ClassId} {ad : Nat → Nat} {k2 : Nat} (hAd : AdOK 31 ad) (hk2 : k2 < 12) {S : St} {p1 : Int32} {r : Int32} (hf : m_X6_contentOf k2 S p1 = some r) : Met l yX6_contentOf wsX6_contentOf rl_X6_contentOf (PreW D [(cyI, .int), (cyJ, .long), (cyZ, .boolean)] (cw cyI ad S) [.ref (ad (2 * k2)), .int p1]) (PoI D (cw cyI ad S) (CA ad) r) 0 0 (CA ad) := by
  refine met_go (cc := cX6_contentOf) (maxL := 2) (ret := (some .int)) (by decide) rfl (Nat.le_of_ble_eq_true rfl) ?_
  intro p e s m args below meth c ls hx hb hr hml hts hown hlk hP hK hN hl
  have hown : s.vm.findClass RX6 = some m.cls := hown
  have hS : va_S (CA ad) s.heap s.heap [] := va_S.rf
  have hl : lv_has ls 2 [(0, .ref (ad (2 * k2))), (1, .int p1)] := hl
  unfold m_X6_contentOf at hf
  refine lv_aload_n hx hb dX6_contentOf_0 rfl (lv_at hl 0 rfl) ?_
  refine lv_iload_n hx hb dX6_contentOf_1 rfl (lv_at hl 1 rfl) ?_
  refine lv_iconst (v := (nI 5)) hx hb dX6_contentOf_2 (by decide) ?_
  refine lv_idiv hx hb dX6_contentOf_3 (by decide) ?_
  refine lv_iload_n hx hb dX6_contentOf_4 rfl (lv_at hl 1 rfl) ?_
  refine lv_iconst (v := (nI 5)) hx hb dX6_contentOf_5 (by decide) ?_
  refine lv_irem hx hb dX6_contentOf_6 (by decide) ?_
  obtain ⟨x1, hc7, hf⟩ := zo_k hf
  refine cal_i (rnV (As := [.int (p1 / (nI 5)), .int (irm p1 (nI 5))]) (rest := []) ⟨hx, hb, hml, hown, hts⟩ (c_X4_get hAd hk2 hc7) (cwV 2 hts gX6_contentOf_X4_get rfl rfl rfl cdV_X4_get ⟨Nat.le_of_ble_eq_true rfl, Nat.le_of_ble_eq_true rfl⟩) hP hK hN (cw_ro (S := S) (k := k2) hk2) rfl rfl hl.1 rfl (Nat.le_of_ble_eq_true rfl) dX6_contentOf_7 ⟨Nat.zero_le _, Nat.zero_le _⟩) hS (fun H locs hP hS => ?_)
  exact fin_i hx hb hr hlk hS hP (Option.some.inj hf) dX6_contentOf_10
set_option maxHeartbeats 4000000 in
set_option maxRecDepth 100000 in
theorem c_X6_nodeOf {l : Launch} {D : va_G} {cyI cyJ cyZ : ClassId} {ad : Nat → Nat}  (hAd : AdOK 31 ad)  {S : St} {p0 : Int32} {p1 : Int32} {r : Int32} (hf : m_X6_nodeOf S p0 p1 = some r) : Met l yX6_nodeOf wsX6_nodeOf rl_X6_nodeOf (PreW D [(cyI, .int), (cyJ, .long), (cyZ, .boolean)] (cw cyI ad S) [.int p0, .int p1]) (PoI D (cw cyI ad S) (CA ad) r) 0 0 (CA ad) := by
  refine met_go (cc := cX6_nodeOf) (maxL := 2) (ret := (some .int)) (by decide) rfl (Nat.le_of_ble_eq_true rfl) ?_
  intro p e s m args below meth c ls hx hb hr hml hts hown hlk hP hK hN hl
  have hown : s.vm.findClass RX6 = some m.cls := hown
  have hS : va_S (CA ad) s.heap s.heap [] := va_S.rf
  have hl : lv_has ls 2 [(0, .int p0), (1, .int p1)] := hl
  unfold m_X6_nodeOf at hf
  refine lv_iload_n hx hb dX6_nodeOf_0 rfl (lv_at hl 0 rfl) ?_
  refine lv_iconst (v := (nI 2)) hx hb dX6_nodeOf_1 (by decide) ?_
  refine lv_imul hx hb dX6_nodeOf_2 ?_
  refine lv_iload_n hx hb dX6_nodeOf_3 rfl (lv_at hl 1 rfl) ?_
  refine lv_iadd hx hb dX6_nodeOf_4 ?_
  exact fin_i hx hb hr hlk hS hP (Option.some.inj hf) dX6_nodeOf_5
set_option maxHeartbeats 4000000 in
set_option maxRecDepth 100000 in
theorem c_X6_nodeRead {l : Launch} {D : va_G} {cyI cyJ cyZ : ClassId} {ad : Nat → Nat}  (hAd : AdOK 31 ad)  {S : St} {p0 : Int32} {p1 : Int32} {p2 : Int32} {r : Int32} (hf : m_X6_nodeRead S p0 p1 p2 = some r) : Met l yX6_nodeRead wsX6_nodeRead rl_X6_nodeRead (PreW D [(cyI, .int), (cyJ, .long), (cyZ, .boolean)] (cw cyI ad S) [.int p0, .int p1, .int p2]) (PoI D (cw cyI ad S) (CA ad) r) 0 0 (CA ad) := by
  refine met_go (cc := cX6_nodeRead) (maxL := 4) (ret := (some .int)) (by decide) rfl (Nat.le_of_ble_eq_true rfl) ?_
  intro p e s m args below meth c ls hx hb hr hml hts hown hlk hP hK hN hl
  have hown : s.vm.findClass RX6 = some m.cls := hown
  have hS : va_S (CA ad) s.heap s.heap [] := va_S.rf
  have hl : lv_has ls 4 [(0, .int p0), (1, .int p1), (2, .int p2)] := hl
  unfold m_X6_nodeRead at hf
  refine lv_iload_n hx hb dX6_nodeRead_0 rfl (lv_at hl 0 rfl) ?_
  refine lv_iconst (v := (nI 2)) hx hb dX6_nodeRead_1 (by decide) ?_
  refine lv_irem hx hb dX6_nodeRead_2 (by decide) ?_
  refine lv_topi (fun x1 ex1 => ?_)
  have hf := zb_x hf ex1
  refine lv_istore_n (lv' := [(3, .int x1), (0, .int p0), (1, .int p1), (2, .int p2)]) hx hb dX6_nodeRead_3 rfl hl (by decide) rfl (fun ls hl => ?_)
  refine lv_iload_n hx hb dX6_nodeRead_4 rfl (lv_at hl 3 rfl) ?_
  refine lv_iload_n hx hb dX6_nodeRead_5 rfl (lv_at hl 2 rfl) ?_
  refine lv_iconst (v := (nI 3)) hx hb dX6_nodeRead_6 (by decide) ?_
  refine lv_icmp_ne (tgt := 16) hx hb dX6_nodeRead_7 (by decide) (fun hc => ?_) (fun hc => ?_)
  · have hf := ifn hf hc
    refine lv_iload_n hx hb dX6_nodeRead_16 rfl (lv_at hl 0 rfl) ?_
    obtain ⟨x2, hc17, hf⟩ := zo_k hf
    refine cal_i (rnS (As := [.int p2, .int x1]) (rest := []) ⟨hx, hb, hml, hown, hts⟩ (c_X6_nodeOf hAd  hc17) (va_cwS 2 hts gX6_nodeRead_X6_nodeOf rfl rfl rfl cdS_X6_nodeOf ⟨Nat.le_of_ble_eq_true rfl, Nat.le_of_ble_eq_true rfl⟩) hP hK hN rfl hl.1 rfl (Nat.le_of_ble_eq_true rfl) dX6_nodeRead_17 ⟨Nat.zero_le _, Nat.zero_le _⟩) hS (fun H locs hP hS => ?_)
    exact fin_i hx hb hr hlk hS hP (Option.some.inj hf) dX6_nodeRead_20
  · have hf := ifp hf hc
    refine lv_iconst (v := (nI 1)) hx hb dX6_nodeRead_10 (by decide) ?_
    refine lv_iload_n hx hb dX6_nodeRead_11 rfl (lv_at hl 0 rfl) ?_
    refine lv_isub hx hb dX6_nodeRead_12 ?_
    refine lv_goto (tgt := 17) hx hb dX6_nodeRead_13 (by decide) ?_
    obtain ⟨x3, hc17, hf⟩ := zo_k hf
    refine cal_i (rnS (As := [.int p2, .int ((nI 1) - x1)]) (rest := []) ⟨hx, hb, hml, hown, hts⟩ (c_X6_nodeOf hAd  hc17) (va_cwS 2 hts gX6_nodeRead_X6_nodeOf rfl rfl rfl cdS_X6_nodeOf ⟨Nat.le_of_ble_eq_true rfl, Nat.le_of_ble_eq_true rfl⟩) hP hK hN rfl hl.1 rfl (Nat.le_of_ble_eq_true rfl) dX6_nodeRead_17 ⟨Nat.zero_le _, Nat.zero_le _⟩) hS (fun H locs hP hS => ?_)
    exact fin_i hx hb hr hlk hS hP (Option.some.inj hf) dX6_nodeRead_20
set_option maxHeartbeats 4000000 in
set_option maxRecDepth 100000 in
theorem c_X6_clearAll {l : Launch} {D : va_G} {cyI cyJ cyZ : ClassId} {ad : Nat → Nat} {k2 : Nat} (hAd : AdOK 31 ad) (hk2 : k2 < 12) {S : St}  {r : Int32} {SZ : St} (hf : m_X6_clearAll k2 S = some (r, SZ)) : Met l yX6_clearAll wsX6_clearAll rl_X6_clearAll (PreW D [(cyI, .int), (cyJ, .long), (cyZ, .boolean)] (cw cyI ad S) [.ref (ad (2 * k2))]) (PoI D (cw cyI ad SZ) (CA ad) r) 0 0 (CA ad) := by
  refine met_go (cc := cX6_clearAll) (maxL := 3) (ret := (some .int)) (by decide) rfl (Nat.le_of_ble_eq_true rfl) ?_
  intro p e s m args below meth c ls hx hb hr hml hts hown hlk hP hK hN hl
  have hown : s.vm.findClass RX6 = some m.cls := hown
  have hS : va_S (CA ad) s.heap s.heap [] := va_S.rf
  have hl : lv_has ls 3 [(0, .ref (ad (2 * k2)))] := hl
  have hin4 : ∀ w ∈ wsX40, w ∈ wsX6_clearAll := by decide +kernel
  unfold m_X6_clearAll at hf
  refine lv_aload_n hx hb dX6_clearAll_0 rfl (lv_at hl 0 rfl) ?_
  obtain ⟨x1, hc1, hf⟩ := zo_k hf
  refine cal_i (rnV (As := []) (rest := []) ⟨hx, hb, hml, hown, hts⟩ (c_X4_howManyFilled hAd hk2 hc1) (cwV 0 hts gX6_clearAll_X4_howManyFilled rfl rfl rfl cdV_X4_howManyFilled ⟨Nat.le_of_ble_eq_true rfl, Nat.le_of_ble_eq_true rfl⟩) hP hK hN (cw_ro (S := S) (k := k2) hk2) rfl rfl hl.1 rfl (Nat.le_of_ble_eq_true rfl) dX6_clearAll_1 ⟨Nat.zero_le _, Nat.zero_le _⟩) hS (fun H locs hP hS => ?_)
  refine lv_istore_n (lv' := [(1, .int x1), (0, .ref (ad (2 * k2)))]) hx hb dX6_clearAll_4 rfl hl (by decide) rfl (fun ls hl => ?_)
  refine lv_iconst (v := (nI 0)) hx hb dX6_clearAll_5 (by decide) ?_
  refine lv_istore_n (lv' := [(2, .int (nI 0)), (1, .int x1), (0, .ref (ad (2 * k2)))]) hx hb dX6_clearAll_6 rfl hl (by decide) rfl (fun ls hl => ?_)
  refine zl2_ind (F := (m_X6_clearAll_B7 k2 x1)) (R := (r, SZ)) (P := fun S2 x3 => ∀ (H : Heap) (locs : List Loc) (ls : Array Slot), va_P D vwCl (cw cyI ad S2) H → va_S (CA ad) s.heap H locs → lv_has ls 3 [(1, .int x1), (0, .ref (ad (2 * k2))), (2, .int x3)] → W p l e rl_X6_clearAll s m args below meth c H locs 0 0 (MQ below (PoI D (cw cyI ad SZ) (CA ad) r) args s 0 0 (CA ad)) (F0 m 7 ls [])) (fun rec7 ih7 S2 x3 hf H locs ls hP hS hl => ?_) FU S (nI 0) hf _ _ _ hP hS (lv_sub hl [1, 2, 0] rfl)
  unfold m_X6_clearAll_B7 at hf
  refine lv_iload_n hx hb dX6_clearAll_7 rfl (lv_at hl 2 rfl) ?_
  refine lv_aload_n hx hb dX6_clearAll_8 rfl (lv_at hl 1 rfl) ?_
  refine va_getN (D := D) (ci := 4) (v := .int (mny k2)) (C := RX4) (T := TX4) (N := 4) hx hb hts hin4 hown hK hP (2 * k2) (cw_ro (S := S2) (k := k2) hk2) rfl 0 (by decide) (va_Nw.use rfl hN.n6_214) (fun _ h9 => h9) rfl dX6_clearAll_9 ?_
  refine lv_icmp_ge (tgt := 26) hx hb dX6_clearAll_12 (by decide) (fun hc => ?_) (fun hc => ?_)
  · have hf := ifp hf hc
    refine lv_iload_n hx hb dX6_clearAll_26 rfl (lv_at hl 0 rfl) ?_
    cases Option.some.inj hf
    exact fin_i hx hb hr hlk hS hP rfl dX6_clearAll_27
  · have hf := ifn hf hc
    refine lv_aload_n hx hb dX6_clearAll_15 rfl (lv_at hl 1 rfl) ?_
    refine lv_iload_n hx hb dX6_clearAll_16 rfl (lv_at hl 2 rfl) ?_
    obtain ⟨S4, hc17, hf⟩ := zo_k hf
    refine cal_v (rnV (As := [.int x3]) (rest := []) ⟨hx, hb, hml, hown, hts⟩ (c_X4_clear hAd hk2 hc17) (cwV 1 hts gX6_clearAll_X4_clear rfl rfl rfl cdV_X4_clear ⟨Nat.le_of_ble_eq_true rfl, Nat.le_of_ble_eq_true rfl⟩) hP hK hN (cw_ro (S := S2) (k := k2) hk2) rfl rfl hl.1 rfl (Nat.le_of_ble_eq_true rfl) dX6_clearAll_17 ⟨Nat.zero_le _, Nat.zero_le _⟩) hS (fun H locs hP hS => ?_)
    obtain ⟨x5, ex5, hf⟩ := zb_k hf
    refine lv_iinc (v := x5) (lv' := [(2, .int x5), (1, .int x1), (0, .ref (ad (2 * k2)))]) hx hb dX6_clearAll_20 hl (k := 2) rfl (by rw [ex5]; rfl) (by decide) rfl (fun ls hl => ?_)
    refine lv_goto (tgt := 7) hx hb dX6_clearAll_23 (by decide) ?_
    exact ih7 S4 x5 hf _ _ _ hP hS (lv_sub hl [1, 2, 0] rfl)
set_option maxHeartbeats 4000000 in
set_option maxRecDepth 100000 in
theorem c_X6_isValue {l : Launch} {D : va_G} {cyI cyJ cyZ : ClassId} {ad : Nat → Nat}  (hAd : AdOK 31 ad)  {S : St} {p0 : Int32} {r : Int32} (hf : m_X6_isValue S p0 = some r) : Met l yX6_isValue wsX6_isValue rl_X6_isValue (PreW D [(cyI, .int), (cyJ, .long), (cyZ, .boolean)] (cw cyI ad S) [.int p0]) (PoI D (cw cyI ad S) (CA ad) r) 0 0 (CA ad) := by
  refine met_go (cc := cX6_isValue) (maxL := 1) (ret := (some .boolean)) (by decide) rfl (Nat.le_of_ble_eq_true rfl) ?_
  intro p e s m args below meth c ls hx hb hr hml hts hown hlk hP hK hN hl
  have hown : s.vm.findClass RX6 = some m.cls := hown
  have hS : va_S (CA ad) s.heap s.heap [] := va_S.rf
  have hl : lv_has ls 1 [(0, .int p0)] := hl
  unfold m_X6_isValue at hf
  refine lv_iload_n hx hb dX6_isValue_0 rfl (lv_at hl 0 rfl) ?_
  refine lv_if_lt (tgt := 15) hx hb dX6_isValue_1 (by decide) (fun hc => ?_) (fun hc => ?_)
  · have hf := ifp hf hc
    refine lv_iconst (v := (nI 0)) hx hb dX6_isValue_15 (by decide) ?_
    exact fin_z hx hb hr hlk hS hP rfl (Option.some.inj hf) dX6_isValue_16
  · have hf := ifn hf hc
    refine lv_iload_n hx hb dX6_isValue_4 rfl (lv_at hl 0 rfl) ?_
    refine lv_sipush (v := (nI 1000)) hx hb dX6_isValue_5 (by decide) ?_
    refine lv_icmp_ge (tgt := 15) hx hb dX6_isValue_8 (by decide) (fun hc => ?_) (fun hc => ?_)
    · have hf := ifp hf hc
      refine lv_iconst (v := (nI 0)) hx hb dX6_isValue_15 (by decide) ?_
      exact fin_z hx hb hr hlk hS hP rfl (Option.some.inj hf) dX6_isValue_16
    · have hf := ifn hf hc
      refine lv_iconst (v := (nI 1)) hx hb dX6_isValue_11 (by decide) ?_
      refine lv_goto (tgt := 16) hx hb dX6_isValue_12 (by decide) ?_
      exact fin_z hx hb hr hlk hS hP rfl (Option.some.inj hf) dX6_isValue_16
set_option maxHeartbeats 4000000 in
set_option maxRecDepth 100000 in
theorem c_X6_howManyOf {l : Launch} {D : va_G} {cyI cyJ cyZ : ClassId} {ad : Nat → Nat}  (hAd : AdOK 31 ad)  {S : St} {p0 : Int32} {r : Int32} (hf : m_X6_howManyOf S p0 = some r) : Met l yX6_howManyOf wsX6_howManyOf rl_X6_howManyOf (PreW D [(cyI, .int), (cyJ, .long), (cyZ, .boolean)] (cw cyI ad S) [.int p0]) (PoI D (cw cyI ad S) (CA ad) r) 0 0 (CA ad) := by
  refine met_go (cc := cX6_howManyOf) (maxL := 1) (ret := (some .int)) (by decide) rfl (Nat.le_of_ble_eq_true rfl) ?_
  intro p e s m args below meth c ls hx hb hr hml hts hown hlk hP hK hN hl
  have hown : s.vm.findClass RX6 = some m.cls := hown
  have hS : va_S (CA ad) s.heap s.heap [] := va_S.rf
  have hl : lv_has ls 1 [(0, .int p0)] := hl
  unfold m_X6_howManyOf at hf
  refine lv_iload_n hx hb dX6_howManyOf_0 rfl (lv_at hl 0 rfl) ?_
  refine lv_if_ne (tgt := 7) hx hb dX6_howManyOf_1 (by decide) (fun hc => ?_) (fun hc => ?_)
  · have hf := ifn hf hc
    refine lv_iload_n hx hb dX6_howManyOf_7 rfl (lv_at hl 0 rfl) ?_
    refine lv_iconst (v := (nI 1)) hx hb dX6_howManyOf_8 (by decide) ?_
    refine lv_icmp_ne (tgt := 16) hx hb dX6_howManyOf_9 (by decide) (fun hc => ?_) (fun hc => ?_)
    · have hf := ifn hf hc
      refine lv_bipush (v := (nI 16)) hx hb dX6_howManyOf_16 (by decide) ?_
      exact fin_i hx hb hr hlk hS hP (Option.some.inj hf) dX6_howManyOf_18
    · have hf := ifp hf hc
      refine lv_iconst (v := (nI 4)) hx hb dX6_howManyOf_12 (by decide) ?_
      refine lv_goto (tgt := 18) hx hb dX6_howManyOf_13 (by decide) ?_
      exact fin_i hx hb hr hlk hS hP (Option.some.inj hf) dX6_howManyOf_18
  · have hf := ifp hf hc
    refine lv_bipush (v := (nI 20)) hx hb dX6_howManyOf_4 (by decide) ?_
    exact fin_i hx hb hr hlk hS hP (Option.some.inj hf) dX6_howManyOf_6
set_option maxHeartbeats 4000000 in
set_option maxRecDepth 100000 in
theorem c_X6_away {l : Launch} {D : va_G} {cyI cyJ cyZ : ClassId} {ad : Nat → Nat}  (hAd : AdOK 31 ad)  {S : St}  {r : Int32} (hf : m_X6_away S = some r) : Met l yX6_away wsX6_away rl_X6_away (PreW D [(cyI, .int), (cyJ, .long), (cyZ, .boolean)] (cw cyI ad S) [.ref (ad 30)]) (PoI D (cw cyI ad S) (CA ad) r) 0 0 (CA ad) := by
  refine met_go (cc := cX6_away) (maxL := 1) (ret := (some .int)) (by decide) rfl (Nat.le_of_ble_eq_true rfl) ?_
  intro p e s m args below meth c ls hx hb hr hml hts hown hlk hP hK hN hl
  have hown : s.vm.findClass RX6 = some m.cls := hown
  have hS : va_S (CA ad) s.heap s.heap [] := va_S.rf
  have hl : lv_has ls 1 [(0, .ref (ad 30))] := hl
  have hin6 : ∀ w ∈ wsX60, w ∈ wsX6_away := by decide +kernel
  have hfl34 := hts (.fieldLink RX6 34 "Makewheel" "machines" "LMakewheel$Machines;") (by decide +kernel)
  unfold m_X6_away at hf
  refine lv_aload_n hx hb dX6_away_0 rfl (lv_at hl 0 rfl) ?_
  refine va_get (D := D) (ci := 6) (v := .ref (ad 25)) (C := RX6) (T := TX6) (N := 9) hx hb hts hin6 hown hK hP 30 (cw_o30 (S := S)) rfl 4 (by decide) hfl34 (fun _ h9 => h9) rfl dX6_away_1 ?_
  obtain ⟨x1, hc4, hf⟩ := zo_k hf
  refine cal_i (rnV (As := []) (rest := []) ⟨hx, hb, hml, hown, hts⟩ (c_X3_allAway hAd  hc4) (cwV 0 hts gX6_away_X3_allAway rfl rfl rfl cdV_X3_allAway ⟨Nat.le_of_ble_eq_true rfl, Nat.le_of_ble_eq_true rfl⟩) hP hK hN (cw_o25 (S := S)) rfl rfl hl.1 rfl (Nat.le_of_ble_eq_true rfl) dX6_away_4 ⟨Nat.zero_le _, Nat.zero_le _⟩) hS (fun H locs hP hS => ?_)
  exact fin_i hx hb hr hlk hS hP (Option.some.inj hf) dX6_away_7
set_option maxHeartbeats 4000000 in
set_option maxRecDepth 100000 in
theorem c_X6_checks {l : Launch} {D : va_G} {cyI cyJ cyZ : ClassId} {ad : Nat → Nat}  (hAd : AdOK 31 ad)  {S : St} {p1 : Int32} {r : Int32} {SZ : St} (hf : m_X6_checks S p1 = some (r, SZ)) : Met l yX6_checks wsX6_checks rl_X6_checks (PreW D [(cyI, .int), (cyJ, .long), (cyZ, .boolean)] (cw cyI ad S) [.ref (ad 30), .int p1]) (PoI D (cw cyI ad SZ) (CA ad) r) 0 0 (CA ad) := by
  refine met_go (cc := cX6_checks) (maxL := 3) (ret := (some .boolean)) (by decide) rfl (Nat.le_of_ble_eq_true rfl) ?_
  intro p e s m args below meth c ls hx hb hr hml hts hown hlk hP hK hN hl
  have hown : s.vm.findClass RX6 = some m.cls := hown
  have hS : va_S (CA ad) s.heap s.heap [] := va_S.rf
  have hl : lv_has ls 3 [(0, .ref (ad 30)), (1, .int p1)] := hl
  have hin3 : ∀ w ∈ wsX30, w ∈ wsX6_checks := by decide +kernel
  have hin6 : ∀ w ∈ wsX60, w ∈ wsX6_checks := by decide +kernel
  have hfl34 := hts (.fieldLink RX6 34 "Makewheel" "machines" "LMakewheel$Machines;") (by decide +kernel)
  unfold m_X6_checks at hf
  refine lv_aload_n hx hb dX6_checks_0 rfl (lv_at hl 0 rfl) ?_
  refine va_get (D := D) (ci := 6) (v := .ref (ad 25)) (C := RX6) (T := TX6) (N := 9) hx hb hts hin6 hown hK hP 30 (cw_o30 (S := S)) rfl 4 (by decide) hfl34 (fun _ h9 => h9) rfl dX6_checks_1 ?_
  refine va_getN (D := D) (ci := 3) (v := .int (S.1 14 0)) (C := RX3) (T := TX3) (N := 4) hx hb hts hin3 hown hK hP 25 (cw_o25 (S := S)) rfl 2 (by decide) (va_Nw.use rfl hN.n6_132) (fun _ h9 => h9) rfl dX6_checks_4 ?_
  refine lv_topi (fun x1 ex1 => ?_)
  have hf := zb_x hf ex1
  refine lv_istore_n (lv' := [(2, .int x1), (0, .ref (ad 30)), (1, .int p1)]) hx hb dX6_checks_7 rfl hl (by decide) rfl (fun ls hl => ?_)
  refine lv_aload_n hx hb dX6_checks_8 rfl (lv_at hl 1 rfl) ?_
  refine va_get (D := D) (ci := 6) (v := .ref (ad 25)) (C := RX6) (T := TX6) (N := 9) hx hb hts hin6 hown hK hP 30 (cw_o30 (S := S)) rfl 4 (by decide) hfl34 (fun _ h9 => h9) rfl dX6_checks_9 ?_
  refine lv_iload_n hx hb dX6_checks_12 rfl (lv_at hl 2 rfl) ?_
  obtain ⟨hbz, hf⟩ := zg_k hf
  refine va_putN (D := D) (ci := 3) (v := .int p1) (ty := .boolean) (C := RX3) (T := TX3) (N := 4) hx hb hts hin3 tyX3 tyX3_ok nmX3 hown hK hP (cw_D hAd) hS 25 (cw_o25 (S := S)) rfl 2 (by decide) (va_Nw.use rfl hN.n6_132) (fun _ h9 => h9) rfl (by decide +kernel) (bz_n hbz) (bz_f hbz) (Nat.le_of_ble_eq_true rfl) dX6_checks_13 (fun H locs hP _ hS => ?_)
  have hP : va_P D vwCl (cw cyI ad (wi S 14 0 p1)) H := by rw [← cw_s14]; exact hP
  obtain ⟨S2, eS2, hf⟩ := zb_k hf
  rw [← eS2] at hP
  refine lv_iload_n hx hb dX6_checks_16 rfl (lv_at hl 0 rfl) ?_
  obtain ⟨hbz, hf⟩ := zg_k hf
  cases Option.some.inj hf
  exact fin_z hx hb hr hlk hS hP (bz_n hbz) rfl dX6_checks_17
set_option maxHeartbeats 4000000 in
set_option maxRecDepth 100000 in
theorem c_X6_empty {l : Launch} {D : va_G} {cyI cyJ cyZ : ClassId} {ad : Nat → Nat}  (hAd : AdOK 31 ad)  {S : St}  {r : Int32} {SZ : St} (hf : m_X6_empty S = some (r, SZ)) : Met l yX6_empty wsX6_empty rl_X6_empty (PreW D [(cyI, .int), (cyJ, .long), (cyZ, .boolean)] (cw cyI ad S) [.ref (ad 30)]) (PoI D (cw cyI ad SZ) (CA ad) r) 0 0 (CA ad) := by
  refine met_go (cc := cX6_empty) (maxL := 1) (ret := (some .int)) (by decide) rfl (Nat.le_of_ble_eq_true rfl) ?_
  intro p e s m args below meth c ls hx hb hr hml hts hown hlk hP hK hN hl
  have hown : s.vm.findClass RX6 = some m.cls := hown
  have hS : va_S (CA ad) s.heap s.heap [] := va_S.rf
  have hl : lv_has ls 1 [(0, .ref (ad 30))] := hl
  have hin0 : ∀ w ∈ wsX00, w ∈ wsX6_empty := by decide +kernel
  have hin6 : ∀ w ∈ wsX60, w ∈ wsX6_empty := by decide +kernel
  have hfl27 := hts (.fieldLink RX6 27 "Makewheel" "cache" "LMakewheel$Cache;") (by decide +kernel)
  unfold m_X6_empty at hf
  refine lv_aload_n hx hb dX6_empty_0 rfl (lv_at hl 0 rfl) ?_
  refine va_get (D := D) (ci := 6) (v := .ref (ad 24)) (C := RX6) (T := TX6) (N := 9) hx hb hts hin6 hown hK hP 30 (cw_o30 (S := S)) rfl 3 (by decide) hfl27 (fun _ h9 => h9) rfl dX6_empty_1 ?_
  refine va_getN (D := D) (ci := 0) (v := .ref (ad (2 * 3))) (C := RX0) (T := TX0) (N := 3) hx hb hts hin0 hown hK hP 24 (cw_o24 (S := S)) rfl 0 (by decide) (va_Nw.use rfl hN.n6_142) (fun _ h9 => h9) rfl dX6_empty_4 ?_
  obtain ⟨x1, S2, hc7, hf⟩ := zo2_k hf
  refine cal_i (rnS (As := [.ref (ad (2 * 3))]) (rest := []) ⟨hx, hb, hml, hown, hts⟩ (c_X6_clearAll hAd (by decide) hc7) (va_cwS 1 hts gX6_empty_X6_clearAll rfl rfl rfl cdS_X6_clearAll ⟨Nat.le_of_ble_eq_true rfl, Nat.le_of_ble_eq_true rfl⟩) hP hK hN rfl hl.1 rfl (Nat.le_of_ble_eq_true rfl) dX6_empty_7 ⟨Nat.zero_le _, Nat.zero_le _⟩) hS (fun H locs hP hS => ?_)
  cases Option.some.inj hf
  exact fin_i hx hb hr hlk hS hP rfl dX6_empty_10
set_option maxHeartbeats 4000000 in
set_option maxRecDepth 100000 in
theorem c_X6_entries {l : Launch} {D : va_G} {cyI cyJ cyZ : ClassId} {ad : Nat → Nat}  (hAd : AdOK 31 ad)  {S : St}  {r : Int32} (hf : m_X6_entries S = some r) : Met l yX6_entries wsX6_entries rl_X6_entries (PreW D [(cyI, .int), (cyJ, .long), (cyZ, .boolean)] (cw cyI ad S) [.ref (ad 30)]) (PoI D (cw cyI ad S) (CA ad) r) 0 0 (CA ad) := by
  refine met_go (cc := cX6_entries) (maxL := 1) (ret := (some .int)) (by decide) rfl (Nat.le_of_ble_eq_true rfl) ?_
  intro p e s m args below meth c ls hx hb hr hml hts hown hlk hP hK hN hl
  have hown : s.vm.findClass RX6 = some m.cls := hown
  have hS : va_S (CA ad) s.heap s.heap [] := va_S.rf
  have hl : lv_has ls 1 [(0, .ref (ad 30))] := hl
  have hin0 : ∀ w ∈ wsX00, w ∈ wsX6_entries := by decide +kernel
  have hin6 : ∀ w ∈ wsX60, w ∈ wsX6_entries := by decide +kernel
  have hfl27 := hts (.fieldLink RX6 27 "Makewheel" "cache" "LMakewheel$Cache;") (by decide +kernel)
  unfold m_X6_entries at hf
  refine lv_aload_n hx hb dX6_entries_0 rfl (lv_at hl 0 rfl) ?_
  refine va_get (D := D) (ci := 6) (v := .ref (ad 24)) (C := RX6) (T := TX6) (N := 9) hx hb hts hin6 hown hK hP 30 (cw_o30 (S := S)) rfl 3 (by decide) hfl27 (fun _ h9 => h9) rfl dX6_entries_1 ?_
  refine va_getN (D := D) (ci := 0) (v := .ref (ad (2 * 3))) (C := RX0) (T := TX0) (N := 3) hx hb hts hin0 hown hK hP 24 (cw_o24 (S := S)) rfl 0 (by decide) (va_Nw.use rfl hN.n6_142) (fun _ h9 => h9) rfl dX6_entries_4 ?_
  obtain ⟨x1, hc7, hf⟩ := zo_k hf
  refine cal_i (rnV (As := []) (rest := []) ⟨hx, hb, hml, hown, hts⟩ (c_X4_howManyFilled hAd (by decide) hc7) (cwV 0 hts gX6_entries_X4_howManyFilled rfl rfl rfl cdV_X4_howManyFilled ⟨Nat.le_of_ble_eq_true rfl, Nat.le_of_ble_eq_true rfl⟩) hP hK hN (cw_ro (S := S) (k := 3) (by decide)) rfl rfl hl.1 rfl (Nat.le_of_ble_eq_true rfl) dX6_entries_7 ⟨Nat.zero_le _, Nat.zero_le _⟩) hS (fun H locs hP hS => ?_)
  exact fin_i hx hb hr hlk hS hP (Option.some.inj hf) dX6_entries_10
set_option maxHeartbeats 4000000 in
set_option maxRecDepth 100000 in
theorem c_X6_forget {l : Launch} {D : va_G} {cyI cyJ cyZ : ClassId} {ad : Nat → Nat}  (hAd : AdOK 31 ad)  {S : St}  {r : Int32} {SZ : St} (hf : m_X6_forget S = some (r, SZ)) : Met l yX6_forget wsX6_forget rl_X6_forget (PreW D [(cyI, .int), (cyJ, .long), (cyZ, .boolean)] (cw cyI ad S) [.ref (ad 30)]) (PoI D (cw cyI ad SZ) (CA ad) r) 0 0 (CA ad) := by
  refine met_go (cc := cX6_forget) (maxL := 1) (ret := (some .int)) (by decide) rfl (Nat.le_of_ble_eq_true rfl) ?_
  intro p e s m args below meth c ls hx hb hr hml hts hown hlk hP hK hN hl
  have hown : s.vm.findClass RX6 = some m.cls := hown
  have hS : va_S (CA ad) s.heap s.heap [] := va_S.rf
  have hl : lv_has ls 1 [(0, .ref (ad 30))] := hl
  have hin6 : ∀ w ∈ wsX60, w ∈ wsX6_forget := by decide +kernel
  have hfl21 := hts (.fieldLink RX6 21 "Makewheel" "kept" "LMakewheel$Rows;") (by decide +kernel)
  unfold m_X6_forget at hf
  refine lv_aload_n hx hb dX6_forget_0 rfl (lv_at hl 0 rfl) ?_
  refine va_get (D := D) (ci := 6) (v := .ref (ad (2 * 2))) (C := RX6) (T := TX6) (N := 9) hx hb hts hin6 hown hK hP 30 (cw_o30 (S := S)) rfl 2 (by decide) hfl21 (fun _ h9 => h9) rfl dX6_forget_1 ?_
  obtain ⟨x1, S2, hc4, hf⟩ := zo2_k hf
  refine cal_i (rnS (As := [.ref (ad (2 * 2))]) (rest := []) ⟨hx, hb, hml, hown, hts⟩ (c_X6_clearAll hAd (by decide) hc4) (va_cwS 1 hts gX6_forget_X6_clearAll rfl rfl rfl cdS_X6_clearAll ⟨Nat.le_of_ble_eq_true rfl, Nat.le_of_ble_eq_true rfl⟩) hP hK hN rfl hl.1 rfl (Nat.le_of_ble_eq_true rfl) dX6_forget_4 ⟨Nat.zero_le _, Nat.zero_le _⟩) hS (fun H locs hP hS => ?_)
  cases Option.some.inj hf
  exact fin_i hx hb hr hlk hS hP rfl dX6_forget_7
set_option maxHeartbeats 4000000 in
set_option maxRecDepth 100000 in
theorem c_X6_leaks {l : Launch} {D : va_G} {cyI cyJ cyZ : ClassId} {ad : Nat → Nat}  (hAd : AdOK 31 ad)  {S : St}  {r : Int32} (hf : m_X6_leaks S = some r) : Met l yX6_leaks wsX6_leaks rl_X6_leaks (PreW D [(cyI, .int), (cyJ, .long), (cyZ, .boolean)] (cw cyI ad S) [.ref (ad 30)]) (PoI D (cw cyI ad S) (CA ad) r) 0 0 (CA ad) := by
  refine met_go (cc := cX6_leaks) (maxL := 1) (ret := (some .int)) (by decide) rfl (Nat.le_of_ble_eq_true rfl) ?_
  intro p e s m args below meth c ls hx hb hr hml hts hown hlk hP hK hN hl
  have hown : s.vm.findClass RX6 = some m.cls := hown
  have hS : va_S (CA ad) s.heap s.heap [] := va_S.rf
  have hl : lv_has ls 1 [(0, .ref (ad 30))] := hl
  have hin2 : ∀ w ∈ wsX20, w ∈ wsX6_leaks := by decide +kernel
  have hin6 : ∀ w ∈ wsX60, w ∈ wsX6_leaks := by decide +kernel
  have hfl43 := hts (.fieldLink RX6 43 "Makewheel" "builder" "LMakewheel$Looker;") (by decide +kernel)
  unfold m_X6_leaks at hf
  refine lv_aload_n hx hb dX6_leaks_0 rfl (lv_at hl 0 rfl) ?_
  refine va_get (D := D) (ci := 6) (v := .ref (ad (26 + 0))) (C := RX6) (T := TX6) (N := 9) hx hb hts hin6 hown hK hP 30 (cw_o30 (S := S)) rfl 5 (by decide) hfl43 (fun _ h9 => h9) rfl dX6_leaks_1 ?_
  refine va_getN (D := D) (ci := 2) (v := .int (S.1 (17 + 2 * 0) 0)) (C := RX2) (T := TX2) (N := 10) hx hb hts hin2 hown hK hP (26 + 0) (cw_lo (S := S) (b := 0) (by decide)) rfl 9 (by decide) (va_Nw.use rfl hN.n6_177) (fun _ h9 => h9) rfl dX6_leaks_4 ?_
  exact fin_i hx hb hr hlk hS hP (Option.some.inj hf) dX6_leaks_7
