set_option maxHeartbeats 4000000 in
set_option maxRecDepth 100000 in
theorem c_X1_has {l : Launch} {D : va_G} {cyI cyJ cyZ : ClassId} {ad : Nat → Nat}  (hAd : AdOK 31 ad)  {S : St} {p0 : Int32} {p1 : Int32} {r : Int32} (hf : m_X1_has S p0 p1 = some r) : Met l yX1_has wsX1_has rl_X1_has (PreW D [(cyI, .int), (cyJ, .long), (cyZ, .boolean)] (cw cyI ad S) [.int p0, .int p1]) (PoI D (cw cyI ad S) (CA ad) r) 0 0 (CA ad) := by
  refine met_go (cc := cX1_has) (maxL := 2) (ret := (some .boolean)) (by decide) rfl (Nat.le_of_ble_eq_true rfl) ?_
  intro p e s m args below meth c ls hx hb hr hml hts hown hlk hP hK hN hl
  have hown : s.vm.findClass RX1 = some m.cls := hown
  have hS : va_S (CA ad) s.heap s.heap [] := va_S.rf
  have hl : lv_has ls 2 [(0, .int p0), (1, .int p1)] := hl
  unfold m_X1_has at hf
  refine lv_iload_n hx hb dX1_has_0 rfl (lv_at hl 0 rfl) ?_
  refine lv_iload_n hx hb dX1_has_1 rfl (lv_at hl 1 rfl) ?_
  refine lv_ishr hx hb dX1_has_2 ?_
  refine lv_iconst (v := (nI 1)) hx hb dX1_has_3 (by decide) ?_
  refine lv_iand hx hb dX1_has_4 ?_
  refine lv_iconst (v := (nI 1)) hx hb dX1_has_5 (by decide) ?_
  refine lv_icmp_ne (tgt := 13) hx hb dX1_has_6 (by decide) (fun hc => ?_) (fun hc => ?_)
  · have hf := ifn hf hc
    refine lv_iconst (v := (nI 0)) hx hb dX1_has_13 (by decide) ?_
    exact fin_z hx hb hr hlk hS hP rfl (Option.some.inj hf) dX1_has_14
  · have hf := ifp hf hc
    refine lv_iconst (v := (nI 1)) hx hb dX1_has_9 (by decide) ?_
    refine lv_goto (tgt := 14) hx hb dX1_has_10 (by decide) ?_
    exact fin_z hx hb hr hlk hS hP rfl (Option.some.inj hf) dX1_has_14
set_option maxHeartbeats 4000000 in
set_option maxRecDepth 100000 in
theorem c_X1_allFrom {l : Launch} {D : va_G} {cyI cyJ cyZ : ClassId} {ad : Nat → Nat}  (hAd : AdOK 31 ad)  {S : St} {p1 : Int32} {r : Int32} (hf : m_X1_allFrom S p1 = some r) : Met l yX1_allFrom wsX1_allFrom rl_X1_allFrom (PreW D [(cyI, .int), (cyJ, .long), (cyZ, .boolean)] (cw cyI ad S) [.ref (ad 28), .int p1]) (PoI D (cw cyI ad S) (CA ad) r) 0 0 (CA ad) := by
  refine met_go (cc := cX1_allFrom) (maxL := 5) (ret := (some .int)) (by decide) rfl (Nat.le_of_ble_eq_true rfl) ?_
  intro p e s m args below meth c ls hx hb hr hml hts hown hlk hP hK hN hl
  have hown : s.vm.findClass RX1 = some m.cls := hown
  have hS : va_S (CA ad) s.heap s.heap [] := va_S.rf
  have hl : lv_has ls 5 [(0, .ref (ad 28)), (1, .int p1)] := hl
  have hin1 : ∀ w ∈ wsX10, w ∈ wsX1_allFrom := by decide +kernel
  have hfl14 := hts (.fieldLink RX1 14 "Makewheel$Graph" "rows" "LMakewheel$Rows;") (by decide +kernel)
  unfold m_X1_allFrom at hf
  refine lv_aload_n hx hb dX1_allFrom_0 rfl (lv_at hl 0 rfl) ?_
  refine va_get (D := D) (ci := 1) (v := .ref (ad (2 * 6))) (C := RX1) (T := TX1) (N := 2) hx hb hts hin1 hown hK hP 28 (cw_o28 (S := S)) rfl 1 (by decide) hfl14 (fun _ h9 => h9) rfl dX1_allFrom_1 ?_
  refine lv_iload_n hx hb dX1_allFrom_4 rfl (lv_at hl 1 rfl) ?_
  refine lv_iconst (v := (nI 0)) hx hb dX1_allFrom_5 (by decide) ?_
  obtain ⟨x1, hc6, hf⟩ := zo_k hf
  refine cal_i (rnV (As := [.int p1, .int (nI 0)]) (rest := []) ⟨hx, hb, hml, hown, hts⟩ (c_X4_get hAd (by decide) hc6) (cwV 2 hts gX1_allFrom_X4_get rfl rfl rfl cdV_X4_get ⟨Nat.le_of_ble_eq_true rfl, Nat.le_of_ble_eq_true rfl⟩) hP hK hN (cw_ro (S := S) (k := 6) (by decide)) rfl rfl hl.1 rfl (Nat.le_of_ble_eq_true rfl) dX1_allFrom_6 ⟨Nat.zero_le _, Nat.zero_le _⟩) hS (fun H locs hP hS => ?_)
  refine lv_istore_n (lv' := [(2, .int x1), (0, .ref (ad 28)), (1, .int p1)]) hx hb dX1_allFrom_9 rfl hl (by decide) rfl (fun ls hl => ?_)
  refine lv_iconst (v := (nI 0)) hx hb dX1_allFrom_10 (by decide) ?_
  refine lv_istore_n (lv' := [(3, .int (nI 0)), (2, .int x1), (0, .ref (ad 28)), (1, .int p1)]) hx hb dX1_allFrom_11 rfl hl (by decide) rfl (fun ls hl => ?_)
  refine zl2_ind (F := (m_X1_allFrom_B12 S)) (R := r) (P := fun x2 x3 => ∀ (H : Heap) (locs : List Loc) (ls : Array Slot), va_P D vwCl (cw cyI ad S) H → va_S (CA ad) s.heap H locs → lv_has ls 5 [(0, .ref (ad 28)), (2, .int x2), (3, .int x3)] → W p l e rl_X1_allFrom s m args below meth c H locs 0 0 (MQ below (PoI D (cw cyI ad S) (CA ad) r) args s 0 0 (CA ad)) (F0 m 12 ls [])) (fun rec12 ih12 x2 x3 hf H locs ls hP hS hl => ?_) FU x1 (nI 0) hf _ _ _ hP hS (lv_sub hl [2, 1, 0] rfl)
  unfold m_X1_allFrom_B12 at hf
  refine lv_iload_n hx hb dX1_allFrom_12 rfl (lv_at hl 2 rfl) ?_
  refine lv_bipush (v := (nI 16)) hx hb dX1_allFrom_13 (by decide) ?_
  refine lv_icmp_ge (tgt := 62) hx hb dX1_allFrom_15 (by decide) (fun hc => ?_) (fun hc => ?_)
  · have hf := ifp hf hc
    refine lv_iload_n hx hb dX1_allFrom_62 rfl (lv_at hl 1 rfl) ?_
    exact fin_i hx hb hr hlk hS hP (Option.some.inj hf) dX1_allFrom_63
  · have hf := ifn hf hc
    refine lv_iconst (v := (nI 0)) hx hb dX1_allFrom_18 (by decide) ?_
    refine lv_istore (lv' := [(4, .int (nI 0)), (0, .ref (ad 28)), (2, .int x2), (3, .int x3)]) hx hb dX1_allFrom_19 hl (by decide) rfl (fun ls hl => ?_)
    refine zl2_ind (F := (m_X1_allFrom_B21 x3 rec12 S)) (R := r) (P := fun x4 x5 => ∀ (H : Heap) (locs : List Loc) (ls : Array Slot), va_P D vwCl (cw cyI ad S) H → va_S (CA ad) s.heap H locs → lv_has ls 5 [(0, .ref (ad 28)), (3, .int x3), (2, .int x4), (4, .int x5)] → W p l e rl_X1_allFrom s m args below meth c H locs 0 0 (MQ below (PoI D (cw cyI ad S) (CA ad) r) args s 0 0 (CA ad)) (F0 m 21 ls [])) (fun rec21 ih21 x4 x5 hf H locs ls hP hS hl => ?_) FU x2 (nI 0) hf _ _ _ hP hS (lv_sub hl [1, 3, 2, 0] rfl)
    unfold m_X1_allFrom_B21 at hf
    refine lv_iload hx hb dX1_allFrom_21 (lv_at hl 3 rfl) ?_
    refine lv_bipush (v := (nI 16)) hx hb dX1_allFrom_23 (by decide) ?_
    refine lv_icmp_ge (tgt := 56) hx hb dX1_allFrom_25 (by decide) (fun hc => ?_) (fun hc => ?_)
    · have hf := ifp hf hc
      obtain ⟨x6, ex6, hf⟩ := zb_k hf
      refine lv_iinc (v := x6) (lv' := [(3, .int x6), (0, .ref (ad 28)), (2, .int x4), (4, .int x5)]) hx hb dX1_allFrom_56 hl (k := 1) rfl (by rw [ex6]; rfl) (by decide) rfl (fun ls hl => ?_)
      refine lv_goto (tgt := 12) hx hb dX1_allFrom_59 (by decide) ?_
      exact ih12 x4 x6 hf _ _ _ hP hS (lv_sub hl [1, 2, 0] rfl)
    · have hf := ifn hf hc
      refine lv_iload_n hx hb dX1_allFrom_28 rfl (lv_at hl 2 rfl) ?_
      refine lv_iload hx hb dX1_allFrom_29 (lv_at hl 3 rfl) ?_
      obtain ⟨x7, hc31, hf⟩ := zo_k hf
      refine cal_i (rnS (As := [.int x4, .int x5]) (rest := []) ⟨hx, hb, hml, hown, hts⟩ (c_X1_has hAd  hc31) (va_cwS 2 hts gX1_allFrom_X1_has rfl rfl rfl cdS_X1_has ⟨Nat.le_of_ble_eq_true rfl, Nat.le_of_ble_eq_true rfl⟩) hP hK hN rfl hl.1 rfl (Nat.le_of_ble_eq_true rfl) dX1_allFrom_31 ⟨Nat.zero_le _, Nat.zero_le _⟩) hS (fun H locs hP hS => ?_)
      refine lv_if_eq (tgt := 50) hx hb dX1_allFrom_34 (by decide) (fun hc => ?_) (fun hc => ?_)
      · have hf := ifp hf hc
        obtain ⟨x8, ex8, hf⟩ := zb_k hf
        refine lv_iinc (v := x8) (lv' := [(4, .int x8), (0, .ref (ad 28)), (3, .int x3), (2, .int x4)]) hx hb dX1_allFrom_50 hl (k := 3) rfl (by rw [ex8]; rfl) (by decide) rfl (fun ls hl => ?_)
        refine lv_goto (tgt := 21) hx hb dX1_allFrom_53 (by decide) ?_
        exact ih21 x4 x8 hf _ _ _ hP hS (lv_sub hl [1, 2, 3, 0] rfl)
      · have hf := ifn hf hc
        refine lv_iload_n hx hb dX1_allFrom_37 rfl (lv_at hl 2 rfl) ?_
        refine lv_aload_n hx hb dX1_allFrom_38 rfl (lv_at hl 0 rfl) ?_
        refine va_get (D := D) (ci := 1) (v := .ref (ad (2 * 6))) (C := RX1) (T := TX1) (N := 2) hx hb hts hin1 hown hK hP 28 (cw_o28 (S := S)) rfl 1 (by decide) hfl14 (fun _ h9 => h9) rfl dX1_allFrom_39 ?_
        refine lv_iload hx hb dX1_allFrom_42 (lv_at hl 3 rfl) ?_
        refine lv_iconst (v := (nI 0)) hx hb dX1_allFrom_44 (by decide) ?_
        obtain ⟨x9, hc45, hf⟩ := zo_k hf
        refine cal_i (rnV (As := [.int x5, .int (nI 0)]) (rest := [.int x4]) ⟨hx, hb, hml, hown, hts⟩ (c_X4_get hAd (by decide) hc45) (cwV 2 hts gX1_allFrom_X4_get rfl rfl rfl cdV_X4_get ⟨Nat.le_of_ble_eq_true rfl, Nat.le_of_ble_eq_true rfl⟩) hP hK hN (cw_ro (S := S) (k := 6) (by decide)) rfl rfl hl.1 rfl (Nat.le_of_ble_eq_true rfl) dX1_allFrom_45 ⟨Nat.zero_le _, Nat.zero_le _⟩) hS (fun H locs hP hS => ?_)
        refine lv_ior hx hb dX1_allFrom_48 ?_
        refine lv_topi (fun x10 ex10 => ?_)
        have hf := zb_x hf ex10
        refine lv_istore_n (lv' := [(2, .int x10), (0, .ref (ad 28)), (3, .int x3), (4, .int x5)]) hx hb dX1_allFrom_49 rfl hl (by decide) rfl (fun ls hl => ?_)
        obtain ⟨x11, ex11, hf⟩ := zb_k hf
        refine lv_iinc (v := x11) (lv' := [(4, .int x11), (2, .int x10), (0, .ref (ad 28)), (3, .int x3)]) hx hb dX1_allFrom_50 hl (k := 3) rfl (by rw [ex11]; rfl) (by decide) rfl (fun ls hl => ?_)
        refine lv_goto (tgt := 21) hx hb dX1_allFrom_53 (by decide) ?_
        exact ih21 x10 x11 hf _ _ _ hP hS (lv_sub hl [2, 3, 1, 0] rfl)
set_option maxHeartbeats 4000000 in
set_option maxRecDepth 100000 in
theorem c_X1_directNeeds {l : Launch} {D : va_G} {cyI cyJ cyZ : ClassId} {ad : Nat → Nat}  (hAd : AdOK 31 ad)  {S : St} {p1 : Int32} {r : Int32} (hf : m_X1_directNeeds S p1 = some r) : Met l yX1_directNeeds wsX1_directNeeds rl_X1_directNeeds (PreW D [(cyI, .int), (cyJ, .long), (cyZ, .boolean)] (cw cyI ad S) [.ref (ad 28), .int p1]) (PoI D (cw cyI ad S) (CA ad) r) 0 0 (CA ad) := by
  refine met_go (cc := cX1_directNeeds) (maxL := 6) (ret := (some .int)) (by decide) rfl (Nat.le_of_ble_eq_true rfl) ?_
  intro p e s m args below meth c ls hx hb hr hml hts hown hlk hP hK hN hl
  have hown : s.vm.findClass RX1 = some m.cls := hown
  have hS : va_S (CA ad) s.heap s.heap [] := va_S.rf
  have hl : lv_has ls 6 [(0, .ref (ad 28)), (1, .int p1)] := hl
  have hin1 : ∀ w ∈ wsX10, w ∈ wsX1_directNeeds := by decide +kernel
  have hfl20 := hts (.fieldLink RX1 20 "Makewheel$Graph" "rules" "LMakewheel$Rows;") (by decide +kernel)
  unfold m_X1_directNeeds at hf
  refine lv_iconst (v := (nI 0)) hx hb dX1_directNeeds_0 (by decide) ?_
  refine lv_istore_n (lv' := [(2, .int (nI 0)), (0, .ref (ad 28)), (1, .int p1)]) hx hb dX1_directNeeds_1 rfl hl (by decide) rfl (fun ls hl => ?_)
  refine lv_aload_n hx hb dX1_directNeeds_2 rfl (lv_at hl 1 rfl) ?_
  refine va_get (D := D) (ci := 1) (v := .ref (ad (2 * 1))) (C := RX1) (T := TX1) (N := 2) hx hb hts hin1 hown hK hP 28 (cw_o28 (S := S)) rfl 0 (by decide) hfl20 (fun _ h9 => h9) rfl dX1_directNeeds_3 ?_
  refine lv_iload_n hx hb dX1_directNeeds_6 rfl (lv_at hl 2 rfl) ?_
  refine lv_iconst (v := (nI 4)) hx hb dX1_directNeeds_7 (by decide) ?_
  obtain ⟨x1, hc8, hf⟩ := zo_k hf
  refine cal_i (rnV (As := [.int p1, .int (nI 4)]) (rest := []) ⟨hx, hb, hml, hown, hts⟩ (c_X4_get hAd (by decide) hc8) (cwV 2 hts gX1_directNeeds_X4_get rfl rfl rfl cdV_X4_get ⟨Nat.le_of_ble_eq_true rfl, Nat.le_of_ble_eq_true rfl⟩) hP hK hN (cw_ro (S := S) (k := 1) (by decide)) rfl rfl hl.1 rfl (Nat.le_of_ble_eq_true rfl) dX1_directNeeds_8 ⟨Nat.zero_le _, Nat.zero_le _⟩) hS (fun H locs hP hS => ?_)
  refine lv_istore_n (lv' := [(3, .int x1), (2, .int (nI 0)), (0, .ref (ad 28)), (1, .int p1)]) hx hb dX1_directNeeds_11 rfl hl (by decide) rfl (fun ls hl => ?_)
  refine lv_iconst (v := (nI 0)) hx hb dX1_directNeeds_12 (by decide) ?_
  refine lv_istore (lv' := [(4, .int (nI 0)), (3, .int x1), (2, .int (nI 0)), (0, .ref (ad 28)), (1, .int p1)]) hx hb dX1_directNeeds_13 hl (by decide) rfl (fun ls hl => ?_)
  refine zl2_ind (F := (m_X1_directNeeds_B15 x1 S p1)) (R := r) (P := fun x2 x3 => ∀ (H : Heap) (locs : List Loc) (ls : Array Slot), va_P D vwCl (cw cyI ad S) H → va_S (CA ad) s.heap H locs → lv_has ls 6 [(3, .int x1), (0, .ref (ad 28)), (1, .int p1), (2, .int x2), (4, .int x3)] → W p l e rl_X1_directNeeds s m args below meth c H locs 0 0 (MQ below (PoI D (cw cyI ad S) (CA ad) r) args s 0 0 (CA ad)) (F0 m 15 ls [])) (fun rec15 ih15 x2 x3 hf H locs ls hP hS hl => ?_) FU (nI 0) (nI 0) hf _ _ _ hP hS (lv_sub hl [1, 3, 4, 2, 0] rfl)
  unfold m_X1_directNeeds_B15 at hf
  refine lv_iload hx hb dX1_directNeeds_15 (lv_at hl 4 rfl) ?_
  refine lv_iload_n hx hb dX1_directNeeds_17 rfl (lv_at hl 0 rfl) ?_
  refine lv_icmp_ge (tgt := 84) hx hb dX1_directNeeds_18 (by decide) (fun hc => ?_) (fun hc => ?_)
  · have hf := ifp hf hc
    refine lv_iload_n hx hb dX1_directNeeds_84 rfl (lv_at hl 3 rfl) ?_
    exact fin_i hx hb hr hlk hS hP (Option.some.inj hf) dX1_directNeeds_85
  · have hf := ifn hf hc
    refine lv_iload hx hb dX1_directNeeds_21 (lv_at hl 4 rfl) ?_
    refine lv_iconst (v := (nI 4)) hx hb dX1_directNeeds_23 (by decide) ?_
    refine lv_icmp_ge (tgt := 84) hx hb dX1_directNeeds_24 (by decide) (fun hc => ?_) (fun hc => ?_)
    · have hf := ifp hf hc
      refine lv_iload_n hx hb dX1_directNeeds_84 rfl (lv_at hl 3 rfl) ?_
      exact fin_i hx hb hr hlk hS hP (Option.some.inj hf) dX1_directNeeds_85
    · have hf := ifn hf hc
      refine lv_aload_n hx hb dX1_directNeeds_27 rfl (lv_at hl 1 rfl) ?_
      refine va_get (D := D) (ci := 1) (v := .ref (ad (2 * 1))) (C := RX1) (T := TX1) (N := 2) hx hb hts hin1 hown hK hP 28 (cw_o28 (S := S)) rfl 0 (by decide) hfl20 (fun _ h9 => h9) rfl dX1_directNeeds_28 ?_
      refine lv_iload_n hx hb dX1_directNeeds_31 rfl (lv_at hl 2 rfl) ?_
      refine lv_iconst (v := (nI 5)) hx hb dX1_directNeeds_32 (by decide) ?_
      refine lv_iload hx hb dX1_directNeeds_33 (lv_at hl 4 rfl) ?_
      refine lv_iconst (v := (nI 2)) hx hb dX1_directNeeds_35 (by decide) ?_
      refine lv_imul hx hb dX1_directNeeds_36 ?_
      refine lv_iadd hx hb dX1_directNeeds_37 ?_
      refine lv_iconst (v := (nI 0)) hx hb dX1_directNeeds_38 (by decide) ?_
      refine lv_iadd hx hb dX1_directNeeds_39 ?_
      obtain ⟨x4, hc40, hf⟩ := zo_k hf
      refine cal_i (rnV (As := [.int p1, .int (((nI 5) + (x3 * (nI 2))) + (nI 0))]) (rest := []) ⟨hx, hb, hml, hown, hts⟩ (c_X4_get hAd (by decide) hc40) (cwV 2 hts gX1_directNeeds_X4_get rfl rfl rfl cdV_X4_get ⟨Nat.le_of_ble_eq_true rfl, Nat.le_of_ble_eq_true rfl⟩) hP hK hN (cw_ro (S := S) (k := 1) (by decide)) rfl rfl hl.1 rfl (Nat.le_of_ble_eq_true rfl) dX1_directNeeds_40 ⟨Nat.zero_le _, Nat.zero_le _⟩) hS (fun H locs hP hS => ?_)
      refine lv_istore (lv' := [(5, .int x4), (3, .int x1), (0, .ref (ad 28)), (1, .int p1), (2, .int x2), (4, .int x3)]) hx hb dX1_directNeeds_43 hl (by decide) rfl (fun ls hl => ?_)
      refine lv_iload hx hb dX1_directNeeds_45 (lv_at hl 0 rfl) ?_
      refine lv_iconst (v := (nI 2)) hx hb dX1_directNeeds_47 (by decide) ?_
      refine lv_icmp_eq (tgt := 57) hx hb dX1_directNeeds_48 (by decide) (fun hc => ?_) (fun hc => ?_)
      · have hf := ifp hf hc
        refine lv_iload_n hx hb dX1_directNeeds_57 rfl (lv_at hl 4 rfl) ?_
        refine lv_iconst (v := (nI 1)) hx hb dX1_directNeeds_58 (by decide) ?_
        refine lv_aload_n hx hb dX1_directNeeds_59 rfl (lv_at hl 2 rfl) ?_
        refine va_get (D := D) (ci := 1) (v := .ref (ad (2 * 1))) (C := RX1) (T := TX1) (N := 2) hx hb hts hin1 hown hK hP 28 (cw_o28 (S := S)) rfl 0 (by decide) hfl20 (fun _ h9 => h9) rfl dX1_directNeeds_60 ?_
        refine lv_iload_n hx hb dX1_directNeeds_63 rfl (lv_at hl 3 rfl) ?_
        refine lv_iconst (v := (nI 5)) hx hb dX1_directNeeds_64 (by decide) ?_
        refine lv_iload hx hb dX1_directNeeds_65 (lv_at hl 5 rfl) ?_
        refine lv_iconst (v := (nI 2)) hx hb dX1_directNeeds_67 (by decide) ?_
        refine lv_imul hx hb dX1_directNeeds_68 ?_
        refine lv_iadd hx hb dX1_directNeeds_69 ?_
        refine lv_iconst (v := (nI 1)) hx hb dX1_directNeeds_70 (by decide) ?_
        refine lv_iadd hx hb dX1_directNeeds_71 ?_
        obtain ⟨x5, hc72, hf⟩ := zo_k hf
        refine cal_i (rnV (As := [.int p1, .int (((nI 5) + (x3 * (nI 2))) + (nI 1))]) (rest := [.int (nI 1), .int x2]) ⟨hx, hb, hml, hown, hts⟩ (c_X4_get hAd (by decide) hc72) (cwV 2 hts gX1_directNeeds_X4_get rfl rfl rfl cdV_X4_get ⟨Nat.le_of_ble_eq_true rfl, Nat.le_of_ble_eq_true rfl⟩) hP hK hN (cw_ro (S := S) (k := 1) (by decide)) rfl rfl hl.1 rfl (Nat.le_of_ble_eq_true rfl) dX1_directNeeds_72 ⟨Nat.zero_le _, Nat.zero_le _⟩) hS (fun H locs hP hS => ?_)
        refine lv_ishl hx hb dX1_directNeeds_75 ?_
        refine lv_ior hx hb dX1_directNeeds_76 ?_
        refine lv_topi (fun x6 ex6 => ?_)
        have hf := zb_x hf ex6
        refine lv_istore_n (lv' := [(2, .int x6), (5, .int x4), (3, .int x1), (0, .ref (ad 28)), (1, .int p1), (4, .int x3)]) hx hb dX1_directNeeds_77 rfl hl (by decide) rfl (fun ls hl => ?_)
        obtain ⟨x7, ex7, hf⟩ := zb_k hf
        refine lv_iinc (v := x7) (lv' := [(4, .int x7), (2, .int x6), (5, .int x4), (3, .int x1), (0, .ref (ad 28)), (1, .int p1)]) hx hb dX1_directNeeds_78 hl (k := 5) rfl (by rw [ex7]; rfl) (by decide) rfl (fun ls hl => ?_)
        refine lv_goto (tgt := 15) hx hb dX1_directNeeds_81 (by decide) ?_
        exact ih15 x6 x7 hf _ _ _ hP hS (lv_sub hl [3, 4, 5, 1, 0] rfl)
      · have hf := ifn hf hc
        refine lv_iload hx hb dX1_directNeeds_51 (lv_at hl 0 rfl) ?_
        refine lv_iconst (v := (nI 3)) hx hb dX1_directNeeds_53 (by decide) ?_
        refine lv_icmp_ne (tgt := 78) hx hb dX1_directNeeds_54 (by decide) (fun hc => ?_) (fun hc => ?_)
        · have hf := ifn hf hc
          obtain ⟨x8, ex8, hf⟩ := zb_k hf
          refine lv_iinc (v := x8) (lv' := [(4, .int x8), (5, .int x4), (3, .int x1), (0, .ref (ad 28)), (1, .int p1), (2, .int x2)]) hx hb dX1_directNeeds_78 hl (k := 5) rfl (by rw [ex8]; rfl) (by decide) rfl (fun ls hl => ?_)
          refine lv_goto (tgt := 15) hx hb dX1_directNeeds_81 (by decide) ?_
          exact ih15 x2 x8 hf _ _ _ hP hS (lv_sub hl [2, 3, 4, 5, 0] rfl)
        · have hf := ifp hf hc
          refine lv_iload_n hx hb dX1_directNeeds_57 rfl (lv_at hl 4 rfl) ?_
          refine lv_iconst (v := (nI 1)) hx hb dX1_directNeeds_58 (by decide) ?_
          refine lv_aload_n hx hb dX1_directNeeds_59 rfl (lv_at hl 2 rfl) ?_
          refine va_get (D := D) (ci := 1) (v := .ref (ad (2 * 1))) (C := RX1) (T := TX1) (N := 2) hx hb hts hin1 hown hK hP 28 (cw_o28 (S := S)) rfl 0 (by decide) hfl20 (fun _ h9 => h9) rfl dX1_directNeeds_60 ?_
          refine lv_iload_n hx hb dX1_directNeeds_63 rfl (lv_at hl 3 rfl) ?_
          refine lv_iconst (v := (nI 5)) hx hb dX1_directNeeds_64 (by decide) ?_
          refine lv_iload hx hb dX1_directNeeds_65 (lv_at hl 5 rfl) ?_
          refine lv_iconst (v := (nI 2)) hx hb dX1_directNeeds_67 (by decide) ?_
          refine lv_imul hx hb dX1_directNeeds_68 ?_
          refine lv_iadd hx hb dX1_directNeeds_69 ?_
          refine lv_iconst (v := (nI 1)) hx hb dX1_directNeeds_70 (by decide) ?_
          refine lv_iadd hx hb dX1_directNeeds_71 ?_
          obtain ⟨x9, hc72, hf⟩ := zo_k hf
          refine cal_i (rnV (As := [.int p1, .int (((nI 5) + (x3 * (nI 2))) + (nI 1))]) (rest := [.int (nI 1), .int x2]) ⟨hx, hb, hml, hown, hts⟩ (c_X4_get hAd (by decide) hc72) (cwV 2 hts gX1_directNeeds_X4_get rfl rfl rfl cdV_X4_get ⟨Nat.le_of_ble_eq_true rfl, Nat.le_of_ble_eq_true rfl⟩) hP hK hN (cw_ro (S := S) (k := 1) (by decide)) rfl rfl hl.1 rfl (Nat.le_of_ble_eq_true rfl) dX1_directNeeds_72 ⟨Nat.zero_le _, Nat.zero_le _⟩) hS (fun H locs hP hS => ?_)
          refine lv_ishl hx hb dX1_directNeeds_75 ?_
          refine lv_ior hx hb dX1_directNeeds_76 ?_
          refine lv_topi (fun x10 ex10 => ?_)
          have hf := zb_x hf ex10
          refine lv_istore_n (lv' := [(2, .int x10), (5, .int x4), (3, .int x1), (0, .ref (ad 28)), (1, .int p1), (4, .int x3)]) hx hb dX1_directNeeds_77 rfl hl (by decide) rfl (fun ls hl => ?_)
          obtain ⟨x11, ex11, hf⟩ := zb_k hf
          refine lv_iinc (v := x11) (lv' := [(4, .int x11), (2, .int x10), (5, .int x4), (3, .int x1), (0, .ref (ad 28)), (1, .int p1)]) hx hb dX1_directNeeds_78 hl (k := 5) rfl (by rw [ex11]; rfl) (by decide) rfl (fun ls hl => ?_)
          refine lv_goto (tgt := 15) hx hb dX1_directNeeds_81 (by decide) ?_
          exact ih15 x10 x11 hf _ _ _ hP hS (lv_sub hl [3, 4, 5, 1, 0] rfl)
set_option maxHeartbeats 4000000 in
set_option maxRecDepth 100000 in
theorem c_X1_draw {l : Launch} {D : va_G} {cyI cyJ cyZ : ClassId} {ad : Nat → Nat}  (hAd : AdOK 31 ad)  {S : St}  {SZ : St} (hf : m_X1_draw S = some SZ) : Met l yX1_draw wsX1_draw rl_X1_draw (PreW D [(cyI, .int), (cyJ, .long), (cyZ, .boolean)] (cw cyI ad S) [.ref (ad 28)]) (PoV D (cw cyI ad SZ) (CA ad)) 0 0 (CA ad) := by
  refine met_go (cc := cX1_draw) (maxL := 2) (ret := none) (by decide) rfl (Nat.le_of_ble_eq_true rfl) ?_
  intro p e s m args below meth c ls hx hb hr hml hts hown hlk hP hK hN hl
  have hown : s.vm.findClass RX1 = some m.cls := hown
  have hS : va_S (CA ad) s.heap s.heap [] := va_S.rf
  have hl : lv_has ls 2 [(0, .ref (ad 28))] := hl
  have hin1 : ∀ w ∈ wsX10, w ∈ wsX1_draw := by decide +kernel
  have hfl14 := hts (.fieldLink RX1 14 "Makewheel$Graph" "rows" "LMakewheel$Rows;") (by decide +kernel)
  unfold m_X1_draw at hf
  refine lv_iconst (v := (nI 0)) hx hb dX1_draw_0 (by decide) ?_
  refine lv_istore_n (lv' := [(1, .int (nI 0)), (0, .ref (ad 28))]) hx hb dX1_draw_1 rfl hl (by decide) rfl (fun ls hl => ?_)
  refine zl2_ind (F := m_X1_draw_B2) (R := SZ) (P := fun S1 x2 => ∀ (H : Heap) (locs : List Loc) (ls : Array Slot), va_P D vwCl (cw cyI ad S1) H → va_S (CA ad) s.heap H locs → lv_has ls 2 [(0, .ref (ad 28)), (1, .int x2)] → W p l e rl_X1_draw s m args below meth c H locs 0 0 (MQ below (PoV D (cw cyI ad SZ) (CA ad)) args s 0 0 (CA ad)) (F0 m 2 ls [])) (fun rec2 ih2 S1 x2 hf H locs ls hP hS hl => ?_) FU S (nI 0) hf _ _ _ hP hS (lv_sub hl [1, 0] rfl)
  unfold m_X1_draw_B2 at hf
  refine lv_iload_n hx hb dX1_draw_2 rfl (lv_at hl 1 rfl) ?_
  refine lv_bipush (v := (nI 16)) hx hb dX1_draw_3 (by decide) ?_
  refine lv_icmp_ge (tgt := 28) hx hb dX1_draw_5 (by decide) (fun hc => ?_) (fun hc => ?_)
  · have hf := ifp hf hc
    cases Option.some.inj hf
    exact fin_v hx hb hr hlk hS hP dX1_draw_28
  · have hf := ifn hf hc
    refine lv_aload_n hx hb dX1_draw_8 rfl (lv_at hl 0 rfl) ?_
    refine va_get (D := D) (ci := 1) (v := .ref (ad (2 * 6))) (C := RX1) (T := TX1) (N := 2) hx hb hts hin1 hown hK hP 28 (cw_o28 (S := S1)) rfl 1 (by decide) hfl14 (fun _ h9 => h9) rfl dX1_draw_9 ?_
    refine lv_iload_n hx hb dX1_draw_12 rfl (lv_at hl 1 rfl) ?_
    refine lv_iconst (v := (nI 0)) hx hb dX1_draw_13 (by decide) ?_
    refine lv_aload_n hx hb dX1_draw_14 rfl (lv_at hl 0 rfl) ?_
    refine lv_iload_n hx hb dX1_draw_15 rfl (lv_at hl 1 rfl) ?_
    obtain ⟨x3, hc16, hf⟩ := zo_k hf
    refine cal_i (rnV (As := [.int x2]) (rest := [.int (nI 0), .int x2, .ref (ad (2 * 6))]) ⟨hx, hb, hml, hown, hts⟩ (c_X1_directNeeds hAd  hc16) (cwV 1 hts gX1_draw_X1_directNeeds rfl rfl rfl cdV_X1_directNeeds ⟨Nat.le_of_ble_eq_true rfl, Nat.le_of_ble_eq_true rfl⟩) hP hK hN (cw_o28 (S := S1)) rfl rfl hl.1 rfl (Nat.le_of_ble_eq_true rfl) dX1_draw_16 ⟨Nat.zero_le _, Nat.zero_le _⟩) hS (fun H locs hP hS => ?_)
    obtain ⟨S4, hc19, hf⟩ := zo_k hf
    refine cal_v (rnV (As := [.int x2, .int (nI 0), .int x3]) (rest := []) ⟨hx, hb, hml, hown, hts⟩ (c_X4_set hAd (by decide) hc19) (cwV 3 hts gX1_draw_X4_set rfl rfl rfl cdV_X4_set ⟨Nat.le_of_ble_eq_true rfl, Nat.le_of_ble_eq_true rfl⟩) hP hK hN (cw_ro (S := S1) (k := 6) (by decide)) rfl rfl hl.1 rfl (Nat.le_of_ble_eq_true rfl) dX1_draw_19 ⟨Nat.zero_le _, Nat.zero_le _⟩) hS (fun H locs hP hS => ?_)
    obtain ⟨x5, ex5, hf⟩ := zb_k hf
    refine lv_iinc (v := x5) (lv' := [(1, .int x5), (0, .ref (ad 28))]) hx hb dX1_draw_22 hl (k := 1) rfl (by rw [ex5]; rfl) (by decide) rfl (fun ls hl => ?_)
    refine lv_goto (tgt := 2) hx hb dX1_draw_25 (by decide) ?_
    exact ih2 S4 x5 hf _ _ _ hP hS (lv_sub hl [1, 0] rfl)
set_option maxHeartbeats 4000000 in
set_option maxRecDepth 100000 in
theorem c_X1_lowestAt {l : Launch} {D : va_G} {cyI cyJ cyZ : ClassId} {ad : Nat → Nat}  (hAd : AdOK 31 ad)  {S : St} {p1 : Int32} {p2 : Int32} {r : Int32} (hf : m_X1_lowestAt S p1 p2 = some r) : Met l yX1_lowestAt wsX1_lowestAt rl_X1_lowestAt (PreW D [(cyI, .int), (cyJ, .long), (cyZ, .boolean)] (cw cyI ad S) [.ref (ad 28), .int p1, .int p2]) (PoI D (cw cyI ad S) (CA ad) r) 0 0 (CA ad) := by
  refine met_go (cc := cX1_lowestAt) (maxL := 4) (ret := (some .int)) (by decide) rfl (Nat.le_of_ble_eq_true rfl) ?_
  intro p e s m args below meth c ls hx hb hr hml hts hown hlk hP hK hN hl
  have hown : s.vm.findClass RX1 = some m.cls := hown
  have hS : va_S (CA ad) s.heap s.heap [] := va_S.rf
  have hl : lv_has ls 4 [(0, .ref (ad 28)), (1, .int p1), (2, .int p2)] := hl
  have hin1 : ∀ w ∈ wsX10, w ∈ wsX1_lowestAt := by decide +kernel
  have hfl14 := hts (.fieldLink RX1 14 "Makewheel$Graph" "rows" "LMakewheel$Rows;") (by decide +kernel)
  unfold m_X1_lowestAt at hf
  refine lv_iconst (v := (nI 0)) hx hb dX1_lowestAt_0 (by decide) ?_
  refine lv_istore_n (lv' := [(3, .int (nI 0)), (0, .ref (ad 28)), (1, .int p1), (2, .int p2)]) hx hb dX1_lowestAt_1 rfl hl (by decide) rfl (fun ls hl => ?_)
  refine zl1_ind (F := (m_X1_lowestAt_B2 S p1 p2)) (R := r) (P := fun x1 => ∀ (H : Heap) (locs : List Loc) (ls : Array Slot), va_P D vwCl (cw cyI ad S) H → va_S (CA ad) s.heap H locs → lv_has ls 4 [(0, .ref (ad 28)), (1, .int p1), (2, .int p2), (3, .int x1)] → W p l e rl_X1_lowestAt s m args below meth c H locs 0 0 (MQ below (PoI D (cw cyI ad S) (CA ad) r) args s 0 0 (CA ad)) (F0 m 2 ls [])) (fun rec2 ih2 x1 hf H locs ls hP hS hl => ?_) FU (nI 0) hf _ _ _ hP hS (lv_sub hl [1, 2, 3, 0] rfl)
  unfold m_X1_lowestAt_B2 at hf
  refine lv_iload_n hx hb dX1_lowestAt_2 rfl (lv_at hl 3 rfl) ?_
  refine lv_bipush (v := (nI 16)) hx hb dX1_lowestAt_3 (by decide) ?_
  refine lv_icmp_ge (tgt := 37) hx hb dX1_lowestAt_5 (by decide) (fun hc => ?_) (fun hc => ?_)
  · have hf := ifp hf hc
    refine lv_iconst (v := (-1)) hx hb dX1_lowestAt_37 (by decide) ?_
    exact fin_i hx hb hr hlk hS hP (Option.some.inj hf) dX1_lowestAt_38
  · have hf := ifn hf hc
    refine lv_iload_n hx hb dX1_lowestAt_8 rfl (lv_at hl 1 rfl) ?_
    refine lv_iload_n hx hb dX1_lowestAt_9 rfl (lv_at hl 3 rfl) ?_
    obtain ⟨x2, hc10, hf⟩ := zo_k hf
    refine cal_i (rnS (As := [.int p1, .int x1]) (rest := []) ⟨hx, hb, hml, hown, hts⟩ (c_X1_has hAd  hc10) (va_cwS 2 hts gX1_lowestAt_X1_has rfl rfl rfl cdS_X1_has ⟨Nat.le_of_ble_eq_true rfl, Nat.le_of_ble_eq_true rfl⟩) hP hK hN rfl hl.1 rfl (Nat.le_of_ble_eq_true rfl) dX1_lowestAt_10 ⟨Nat.zero_le _, Nat.zero_le _⟩) hS (fun H locs hP hS => ?_)
    refine lv_if_eq (tgt := 31) hx hb dX1_lowestAt_13 (by decide) (fun hc => ?_) (fun hc => ?_)
    · have hf := ifp hf hc
      obtain ⟨x3, ex3, hf⟩ := zb_k hf
      refine lv_iinc (v := x3) (lv' := [(3, .int x3), (0, .ref (ad 28)), (1, .int p1), (2, .int p2)]) hx hb dX1_lowestAt_31 hl (k := 3) rfl (by rw [ex3]; rfl) (by decide) rfl (fun ls hl => ?_)
      refine lv_goto (tgt := 2) hx hb dX1_lowestAt_34 (by decide) ?_
      exact ih2 x3 hf _ _ _ hP hS (lv_sub hl [1, 2, 3, 0] rfl)
    · have hf := ifn hf hc
      refine lv_aload_n hx hb dX1_lowestAt_16 rfl (lv_at hl 0 rfl) ?_
      refine va_get (D := D) (ci := 1) (v := .ref (ad (2 * 6))) (C := RX1) (T := TX1) (N := 2) hx hb hts hin1 hown hK hP 28 (cw_o28 (S := S)) rfl 1 (by decide) hfl14 (fun _ h9 => h9) rfl dX1_lowestAt_17 ?_
      refine lv_iload_n hx hb dX1_lowestAt_20 rfl (lv_at hl 3 rfl) ?_
      refine lv_iconst (v := (nI 1)) hx hb dX1_lowestAt_21 (by decide) ?_
      obtain ⟨x4, hc22, hf⟩ := zo_k hf
      refine cal_i (rnV (As := [.int x1, .int (nI 1)]) (rest := []) ⟨hx, hb, hml, hown, hts⟩ (c_X4_get hAd (by decide) hc22) (cwV 2 hts gX1_lowestAt_X4_get rfl rfl rfl cdV_X4_get ⟨Nat.le_of_ble_eq_true rfl, Nat.le_of_ble_eq_true rfl⟩) hP hK hN (cw_ro (S := S) (k := 6) (by decide)) rfl rfl hl.1 rfl (Nat.le_of_ble_eq_true rfl) dX1_lowestAt_22 ⟨Nat.zero_le _, Nat.zero_le _⟩) hS (fun H locs hP hS => ?_)
      refine lv_iload_n hx hb dX1_lowestAt_25 rfl (lv_at hl 2 rfl) ?_
      refine lv_icmp_ne (tgt := 31) hx hb dX1_lowestAt_26 (by decide) (fun hc => ?_) (fun hc => ?_)
      · have hf := ifn hf hc
        obtain ⟨x5, ex5, hf⟩ := zb_k hf
        refine lv_iinc (v := x5) (lv' := [(3, .int x5), (0, .ref (ad 28)), (1, .int p1), (2, .int p2)]) hx hb dX1_lowestAt_31 hl (k := 3) rfl (by rw [ex5]; rfl) (by decide) rfl (fun ls hl => ?_)
        refine lv_goto (tgt := 2) hx hb dX1_lowestAt_34 (by decide) ?_
        exact ih2 x5 hf _ _ _ hP hS (lv_sub hl [1, 2, 3, 0] rfl)
      · have hf := ifp hf hc
        refine lv_iload_n hx hb dX1_lowestAt_29 rfl (lv_at hl 3 rfl) ?_
        exact fin_i hx hb hr hlk hS hP (Option.some.inj hf) dX1_lowestAt_30
set_option maxHeartbeats 4000000 in
set_option maxRecDepth 100000 in
theorem c_X1_measure {l : Launch} {D : va_G} {cyI cyJ cyZ : ClassId} {ad : Nat → Nat}  (hAd : AdOK 31 ad)  {S : St} {p1 : Int32} {SZ : St} (hf : m_X1_measure S p1 = some SZ) : Met l yX1_measure wsX1_measure rl_X1_measure (PreW D [(cyI, .int), (cyJ, .long), (cyZ, .boolean)] (cw cyI ad S) [.ref (ad 28), .int p1]) (PoV D (cw cyI ad SZ) (CA ad)) 0 0 (CA ad) := by
  refine met_go (cc := cX1_measure) (maxL := 6) (ret := none) (by decide) rfl (Nat.le_of_ble_eq_true rfl) ?_
  intro p e s m args below meth c ls hx hb hr hml hts hown hlk hP hK hN hl
  have hown : s.vm.findClass RX1 = some m.cls := hown
  have hS : va_S (CA ad) s.heap s.heap [] := va_S.rf
  have hl : lv_has ls 6 [(0, .ref (ad 28)), (1, .int p1)] := hl
  have hin1 : ∀ w ∈ wsX10, w ∈ wsX1_measure := by decide +kernel
  have hfl14 := hts (.fieldLink RX1 14 "Makewheel$Graph" "rows" "LMakewheel$Rows;") (by decide +kernel)
  unfold m_X1_measure at hf
  refine lv_iconst (v := (nI 0)) hx hb dX1_measure_0 (by decide) ?_
  refine lv_istore_n (lv' := [(2, .int (nI 0)), (0, .ref (ad 28)), (1, .int p1)]) hx hb dX1_measure_1 rfl hl (by decide) rfl (fun ls hl => ?_)
  refine zl2_ind (F := (m_X1_measure_B2 p1)) (R := SZ) (P := fun S1 x2 => ∀ (H : Heap) (locs : List Loc) (ls : Array Slot), va_P D vwCl (cw cyI ad S1) H → va_S (CA ad) s.heap H locs → lv_has ls 6 [(0, .ref (ad 28)), (1, .int p1), (2, .int x2)] → W p l e rl_X1_measure s m args below meth c H locs 0 0 (MQ below (PoV D (cw cyI ad SZ) (CA ad)) args s 0 0 (CA ad)) (F0 m 2 ls [])) (fun rec2 ih2 S1 x2 hf H locs ls hP hS hl => ?_) FU S (nI 0) hf _ _ _ hP hS (lv_sub hl [1, 2, 0] rfl)
  unfold m_X1_measure_B2 at hf
  refine lv_iload_n hx hb dX1_measure_2 rfl (lv_at hl 2 rfl) ?_
  refine lv_bipush (v := (nI 16)) hx hb dX1_measure_3 (by decide) ?_
  refine lv_icmp_ge (tgt := 33) hx hb dX1_measure_5 (by decide) (fun hc => ?_) (fun hc => ?_)
  · have hf := ifp hf hc
    refine lv_iconst (v := (nI 1)) hx hb dX1_measure_33 (by decide) ?_
    refine lv_iload_n hx hb dX1_measure_34 rfl (lv_at hl 1 rfl) ?_
    refine lv_ishl hx hb dX1_measure_35 ?_
    refine lv_topi (fun x3 ex3 => ?_)
    have hf := zb_x hf ex3
    refine lv_istore_n (lv' := [(2, .int x3), (0, .ref (ad 28)), (1, .int p1)]) hx hb dX1_measure_36 rfl hl (by decide) rfl (fun ls hl => ?_)
    refine lv_iconst (v := (nI 1)) hx hb dX1_measure_37 (by decide) ?_
    refine lv_istore_n (lv' := [(3, .int (nI 1)), (2, .int x3), (0, .ref (ad 28)), (1, .int p1)]) hx hb dX1_measure_38 rfl hl (by decide) rfl (fun ls hl => ?_)
    refine zl3_ind (F := m_X1_measure_B39) (R := SZ) (P := fun S4 x5 x6 => ∀ (H : Heap) (locs : List Loc) (ls : Array Slot), va_P D vwCl (cw cyI ad S4) H → va_S (CA ad) s.heap H locs → lv_has ls 6 [(0, .ref (ad 28)), (2, .int x5), (3, .int x6)] → W p l e rl_X1_measure s m args below meth c H locs 0 0 (MQ below (PoV D (cw cyI ad SZ) (CA ad)) args s 0 0 (CA ad)) (F0 m 39 ls [])) (fun rec39 ih39 S4 x5 x6 hf H locs ls hP hS hl => ?_) FU S1 x3 (nI 1) hf _ _ _ hP hS (lv_sub hl [2, 1, 0] rfl)
    unfold m_X1_measure_B39 at hf
    refine lv_iload_n hx hb dX1_measure_39 rfl (lv_at hl 2 rfl) ?_
    refine lv_bipush (v := (nI 16)) hx hb dX1_measure_40 (by decide) ?_
    refine lv_icmp_ge (tgt := 117) hx hb dX1_measure_42 (by decide) (fun hc => ?_) (fun hc => ?_)
    · have hf := ifp hf hc
      cases Option.some.inj hf
      exact fin_v hx hb hr hlk hS hP dX1_measure_117
    · have hf := ifn hf hc
      refine lv_iload_n hx hb dX1_measure_45 rfl (lv_at hl 1 rfl) ?_
      refine lv_istore (lv' := [(4, .int x5), (0, .ref (ad 28)), (2, .int x5), (3, .int x6)]) hx hb dX1_measure_46 hl (by decide) rfl (fun ls hl => ?_)
      refine lv_iconst (v := (nI 0)) hx hb dX1_measure_48 (by decide) ?_
      refine lv_istore (lv' := [(5, .int (nI 0)), (4, .int x5), (0, .ref (ad 28)), (2, .int x5), (3, .int x6)]) hx hb dX1_measure_49 hl (by decide) rfl (fun ls hl => ?_)
      refine zl3_ind (F := (m_X1_measure_B51 x6 rec39 x5)) (R := SZ) (P := fun S7 x8 x9 => ∀ (H : Heap) (locs : List Loc) (ls : Array Slot), va_P D vwCl (cw cyI ad S7) H → va_S (CA ad) s.heap H locs → lv_has ls 6 [(0, .ref (ad 28)), (2, .int x5), (3, .int x6), (4, .int x8), (5, .int x9)] → W p l e rl_X1_measure s m args below meth c H locs 0 0 (MQ below (PoV D (cw cyI ad SZ) (CA ad)) args s 0 0 (CA ad)) (F0 m 51 ls [])) (fun rec51 ih51 S7 x8 x9 hf H locs ls hP hS hl => ?_) FU S4 x5 (nI 0) hf _ _ _ hP hS (lv_sub hl [2, 3, 4, 1, 0] rfl)
      unfold m_X1_measure_B51 at hf
      refine lv_iload hx hb dX1_measure_51 (lv_at hl 4 rfl) ?_
      refine lv_bipush (v := (nI 16)) hx hb dX1_measure_53 (by decide) ?_
      refine lv_icmp_ge (tgt := 108) hx hb dX1_measure_55 (by decide) (fun hc => ?_) (fun hc => ?_)
      · have hf := ifp hf hc
        refine lv_iload hx hb dX1_measure_108 (lv_at hl 3 rfl) ?_
        refine lv_istore_n (lv' := [(2, .int x8), (0, .ref (ad 28)), (3, .int x6), (4, .int x8), (5, .int x9)]) hx hb dX1_measure_110 rfl hl (by decide) rfl (fun ls hl => ?_)
        obtain ⟨x10, ex10, hf⟩ := zb_k hf
        refine lv_iinc (v := x10) (lv' := [(3, .int x10), (2, .int x8), (0, .ref (ad 28)), (4, .int x8), (5, .int x9)]) hx hb dX1_measure_111 hl (k := 2) rfl (by rw [ex10]; rfl) (by decide) rfl (fun ls hl => ?_)
        refine lv_goto (tgt := 39) hx hb dX1_measure_114 (by decide) ?_
        exact ih39 S7 x8 x10 hf _ _ _ hP hS (lv_sub hl [2, 1, 0] rfl)
      · have hf := ifn hf hc
        refine lv_iload_n hx hb dX1_measure_58 rfl (lv_at hl 1 rfl) ?_
        refine lv_iload hx hb dX1_measure_59 (lv_at hl 4 rfl) ?_
        obtain ⟨x11, hc61, hf⟩ := zo_k hf
        refine cal_i (rnS (As := [.int x5, .int x9]) (rest := []) ⟨hx, hb, hml, hown, hts⟩ (c_X1_has hAd  hc61) (va_cwS 2 hts gX1_measure_X1_has rfl rfl rfl cdS_X1_has ⟨Nat.le_of_ble_eq_true rfl, Nat.le_of_ble_eq_true rfl⟩) hP hK hN rfl hl.1 rfl (Nat.le_of_ble_eq_true rfl) dX1_measure_61 ⟨Nat.zero_le _, Nat.zero_le _⟩) hS (fun H locs hP hS => ?_)
        have hJ102 : ∀ (S13 : St) (x12 : Int32), m_X1_measure_J102 x9 rec51 S13 x12 = some SZ → ∀ (H : Heap) (locs : List Loc) (ls : Array Slot), va_P D vwCl (cw cyI ad S13) H → va_S (CA ad) s.heap H locs → lv_has ls 6 [(0, .ref (ad 28)), (2, .int x5), (3, .int x6), (5, .int x9), (4, .int x12)] → W p l e rl_X1_measure s m args below meth c H locs 0 0 (MQ below (PoV D (cw cyI ad SZ) (CA ad)) args s 0 0 (CA ad)) (F0 m 102 ls []) := by
          intro S13 x12 hf H locs ls hP hS hl
          unfold m_X1_measure_J102 at hf
          obtain ⟨x14, ex14, hf⟩ := zb_k hf
          refine lv_iinc (v := x14) (lv' := [(5, .int x14), (0, .ref (ad 28)), (2, .int x5), (3, .int x6), (4, .int x12)]) hx hb dX1_measure_102 hl (k := 3) rfl (by rw [ex14]; rfl) (by decide) rfl (fun ls hl => ?_)
          refine lv_goto (tgt := 51) hx hb dX1_measure_105 (by decide) ?_
          exact ih51 S13 x12 x14 hf _ _ _ hP hS (lv_sub hl [1, 2, 3, 4, 0] rfl)
        refine lv_if_ne (tgt := 102) hx hb dX1_measure_64 (by decide) (fun hc => ?_) (fun hc => ?_)
        · have hf := ifn hf hc
          exact hJ102 S7 x8 hf _ _ _ hP hS (lv_sub hl [0, 1, 2, 4, 3] rfl)
        · have hf := ifp hf hc
          refine lv_aload_n hx hb dX1_measure_67 rfl (lv_at hl 0 rfl) ?_
          refine va_get (D := D) (ci := 1) (v := .ref (ad (2 * 6))) (C := RX1) (T := TX1) (N := 2) hx hb hts hin1 hown hK hP 28 (cw_o28 (S := S7)) rfl 1 (by decide) hfl14 (fun _ h9 => h9) rfl dX1_measure_68 ?_
          refine lv_iload hx hb dX1_measure_71 (lv_at hl 4 rfl) ?_
          refine lv_iconst (v := (nI 0)) hx hb dX1_measure_73 (by decide) ?_
          obtain ⟨x15, hc74, hf⟩ := zo_k hf
          refine cal_i (rnV (As := [.int x9, .int (nI 0)]) (rest := []) ⟨hx, hb, hml, hown, hts⟩ (c_X4_get hAd (by decide) hc74) (cwV 2 hts gX1_measure_X4_get rfl rfl rfl cdV_X4_get ⟨Nat.le_of_ble_eq_true rfl, Nat.le_of_ble_eq_true rfl⟩) hP hK hN (cw_ro (S := S7) (k := 6) (by decide)) rfl rfl hl.1 rfl (Nat.le_of_ble_eq_true rfl) dX1_measure_74 ⟨Nat.zero_le _, Nat.zero_le _⟩) hS (fun H locs hP hS => ?_)
          refine lv_iload_n hx hb dX1_measure_77 rfl (lv_at hl 1 rfl) ?_
          refine lv_iand hx hb dX1_measure_78 ?_
          refine lv_if_eq (tgt := 102) hx hb dX1_measure_79 (by decide) (fun hc => ?_) (fun hc => ?_)
          · have hf := ifp hf hc
            exact hJ102 S7 x8 hf _ _ _ hP hS (lv_sub hl [0, 1, 2, 4, 3] rfl)
          · have hf := ifn hf hc
            refine lv_aload_n hx hb dX1_measure_82 rfl (lv_at hl 0 rfl) ?_
            refine va_get (D := D) (ci := 1) (v := .ref (ad (2 * 6))) (C := RX1) (T := TX1) (N := 2) hx hb hts hin1 hown hK hP 28 (cw_o28 (S := S7)) rfl 1 (by decide) hfl14 (fun _ h9 => h9) rfl dX1_measure_83 ?_
            refine lv_iload hx hb dX1_measure_86 (lv_at hl 4 rfl) ?_
            refine lv_iconst (v := (nI 1)) hx hb dX1_measure_88 (by decide) ?_
            refine lv_iload_n hx hb dX1_measure_89 rfl (lv_at hl 2 rfl) ?_
            obtain ⟨S16, hc90, hf⟩ := zo_k hf
            refine cal_v (rnV (As := [.int x9, .int (nI 1), .int x6]) (rest := []) ⟨hx, hb, hml, hown, hts⟩ (c_X4_set hAd (by decide) hc90) (cwV 3 hts gX1_measure_X4_set rfl rfl rfl cdV_X4_set ⟨Nat.le_of_ble_eq_true rfl, Nat.le_of_ble_eq_true rfl⟩) hP hK hN (cw_ro (S := S7) (k := 6) (by decide)) rfl rfl hl.1 rfl (Nat.le_of_ble_eq_true rfl) dX1_measure_90 ⟨Nat.zero_le _, Nat.zero_le _⟩) hS (fun H locs hP hS => ?_)
            refine lv_iload hx hb dX1_measure_93 (lv_at hl 3 rfl) ?_
            refine lv_iconst (v := (nI 1)) hx hb dX1_measure_95 (by decide) ?_
            refine lv_iload hx hb dX1_measure_96 (lv_at hl 4 rfl) ?_
            refine lv_ishl hx hb dX1_measure_98 ?_
            refine lv_ior hx hb dX1_measure_99 ?_
            refine lv_topi (fun x17 ex17 => ?_)
            have hf := zb_x hf ex17
            refine lv_istore (lv' := [(4, .int x17), (0, .ref (ad 28)), (2, .int x5), (3, .int x6), (5, .int x9)]) hx hb dX1_measure_100 hl (by decide) rfl (fun ls hl => ?_)
            exact hJ102 S16 x17 hf _ _ _ hP hS (lv_sub hl [1, 2, 3, 4, 0] rfl)
  · have hf := ifn hf hc
    refine lv_aload_n hx hb dX1_measure_8 rfl (lv_at hl 0 rfl) ?_
    refine va_get (D := D) (ci := 1) (v := .ref (ad (2 * 6))) (C := RX1) (T := TX1) (N := 2) hx hb hts hin1 hown hK hP 28 (cw_o28 (S := S1)) rfl 1 (by decide) hfl14 (fun _ h9 => h9) rfl dX1_measure_9 ?_
    refine lv_iload_n hx hb dX1_measure_12 rfl (lv_at hl 2 rfl) ?_
    refine lv_iconst (v := (nI 1)) hx hb dX1_measure_13 (by decide) ?_
    refine lv_iload_n hx hb dX1_measure_14 rfl (lv_at hl 2 rfl) ?_
    refine lv_iload_n hx hb dX1_measure_15 rfl (lv_at hl 1 rfl) ?_
    have hJ24 : ∀ (t18 : Int32), m_X1_measure_J24 S1 x2 rec2 t18 = some SZ → ∀ (H : Heap) (locs : List Loc) (ls : Array Slot), va_P D vwCl (cw cyI ad S1) H → va_S (CA ad) s.heap H locs → lv_has ls 6 [(0, .ref (ad 28)), (1, .int p1), (2, .int x2)] → W p l e rl_X1_measure s m args below meth c H locs 0 0 (MQ below (PoV D (cw cyI ad SZ) (CA ad)) args s 0 0 (CA ad)) (F0 m 24 ls [.int t18, .int (nI 1), .int x2, .ref (ad (2 * 6))]) := by
      intro t18 hf H locs ls hP hS hl
      unfold m_X1_measure_J24 at hf
      obtain ⟨S19, hc24, hf⟩ := zo_k hf
      refine cal_v (rnV (As := [.int x2, .int (nI 1), .int t18]) (rest := []) ⟨hx, hb, hml, hown, hts⟩ (c_X4_set hAd (by decide) hc24) (cwV 3 hts gX1_measure_X4_set rfl rfl rfl cdV_X4_set ⟨Nat.le_of_ble_eq_true rfl, Nat.le_of_ble_eq_true rfl⟩) hP hK hN (cw_ro (S := S1) (k := 6) (by decide)) rfl rfl hl.1 rfl (Nat.le_of_ble_eq_true rfl) dX1_measure_24 ⟨Nat.zero_le _, Nat.zero_le _⟩) hS (fun H locs hP hS => ?_)
      obtain ⟨x20, ex20, hf⟩ := zb_k hf
      refine lv_iinc (v := x20) (lv' := [(2, .int x20), (0, .ref (ad 28)), (1, .int p1)]) hx hb dX1_measure_27 hl (k := 2) rfl (by rw [ex20]; rfl) (by decide) rfl (fun ls hl => ?_)
      refine lv_goto (tgt := 2) hx hb dX1_measure_30 (by decide) ?_
      exact ih2 S19 x20 hf _ _ _ hP hS (lv_sub hl [1, 2, 0] rfl)
    refine lv_icmp_ne (tgt := 23) hx hb dX1_measure_16 (by decide) (fun hc => ?_) (fun hc => ?_)
    · have hf := ifn hf hc
      refine lv_iconst (v := (-1)) hx hb dX1_measure_23 (by decide) ?_
      exact hJ24 (-1) hf _ _ _ hP hS (lv_sub hl [0, 1, 2] rfl)
    · have hf := ifp hf hc
      refine lv_iconst (v := (nI 0)) hx hb dX1_measure_19 (by decide) ?_
      refine lv_goto (tgt := 24) hx hb dX1_measure_20 (by decide) ?_
      exact hJ24 (nI 0) hf _ _ _ hP hS (lv_sub hl [0, 1, 2] rfl)
set_option maxHeartbeats 4000000 in
set_option maxRecDepth 100000 in
theorem c_X1_onShortestWay {l : Launch} {D : va_G} {cyI cyJ cyZ : ClassId} {ad : Nat → Nat}  (hAd : AdOK 31 ad)  {S : St} {p1 : Int32} {p2 : Int32} {p3 : Int32} {r : Int32} {SZ : St} (hf : m_X1_onShortestWay S p1 p2 p3 = some (r, SZ)) : Met l yX1_onShortestWay wsX1_onShortestWay rl_X1_onShortestWay (PreW D [(cyI, .int), (cyJ, .long), (cyZ, .boolean)] (cw cyI ad S) [.ref (ad 28), .int p1, .int p2, .int p3]) (PoI D (cw cyI ad SZ) (CA ad) r) 0 0 (CA ad) := by
  refine met_go (cc := cX1_onShortestWay) (maxL := 7) (ret := (some .int)) (by decide) rfl (Nat.le_of_ble_eq_true rfl) ?_
  intro p e s m args below meth c ls hx hb hr hml hts hown hlk hP hK hN hl
  have hown : s.vm.findClass RX1 = some m.cls := hown
  have hS : va_S (CA ad) s.heap s.heap [] := va_S.rf
  have hl : lv_has ls 7 [(0, .ref (ad 28)), (1, .int p1), (2, .int p2), (3, .int p3)] := hl
  have hin1 : ∀ w ∈ wsX10, w ∈ wsX1_onShortestWay := by decide +kernel
  have hfl14 := hts (.fieldLink RX1 14 "Makewheel$Graph" "rows" "LMakewheel$Rows;") (by decide +kernel)
  unfold m_X1_onShortestWay at hf
  refine lv_aload_n hx hb dX1_onShortestWay_0 rfl (lv_at hl 0 rfl) ?_
  refine lv_iload_n hx hb dX1_onShortestWay_1 rfl (lv_at hl 2 rfl) ?_
  obtain ⟨S1, hc2, hf⟩ := zo_k hf
  refine cal_v (rnV (As := [.int p2]) (rest := []) ⟨hx, hb, hml, hown, hts⟩ (c_X1_measure hAd  hc2) (cwV 1 hts gX1_onShortestWay_X1_measure rfl rfl rfl cdV_X1_measure ⟨Nat.le_of_ble_eq_true rfl, Nat.le_of_ble_eq_true rfl⟩) hP hK hN (cw_o28 (S := S)) rfl rfl hl.1 rfl (Nat.le_of_ble_eq_true rfl) dX1_onShortestWay_2 ⟨Nat.zero_le _, Nat.zero_le _⟩) hS (fun H locs hP hS => ?_)
  refine lv_aload_n hx hb dX1_onShortestWay_5 rfl (lv_at hl 0 rfl) ?_
  refine va_get (D := D) (ci := 1) (v := .ref (ad (2 * 6))) (C := RX1) (T := TX1) (N := 2) hx hb hts hin1 hown hK hP 28 (cw_o28 (S := S1)) rfl 1 (by decide) hfl14 (fun _ h9 => h9) rfl dX1_onShortestWay_6 ?_
  refine lv_iload_n hx hb dX1_onShortestWay_9 rfl (lv_at hl 1 rfl) ?_
  refine lv_iconst (v := (nI 1)) hx hb dX1_onShortestWay_10 (by decide) ?_
  obtain ⟨x2, hc11, hf⟩ := zo_k hf
  refine cal_i (rnV (As := [.int p1, .int (nI 1)]) (rest := []) ⟨hx, hb, hml, hown, hts⟩ (c_X4_get hAd (by decide) hc11) (cwV 2 hts gX1_onShortestWay_X4_get rfl rfl rfl cdV_X4_get ⟨Nat.le_of_ble_eq_true rfl, Nat.le_of_ble_eq_true rfl⟩) hP hK hN (cw_ro (S := S1) (k := 6) (by decide)) rfl rfl hl.1 rfl (Nat.le_of_ble_eq_true rfl) dX1_onShortestWay_11 ⟨Nat.zero_le _, Nat.zero_le _⟩) hS (fun H locs hP hS => ?_)
  refine lv_istore (lv' := [(4, .int x2), (0, .ref (ad 28)), (1, .int p1), (2, .int p2), (3, .int p3)]) hx hb dX1_onShortestWay_14 hl (by decide) rfl (fun ls hl => ?_)
  refine lv_iload hx hb dX1_onShortestWay_16 (lv_at hl 0 rfl) ?_
  refine lv_iconst (v := (-1)) hx hb dX1_onShortestWay_18 (by decide) ?_
  refine lv_icmp_eq (tgt := 28) hx hb dX1_onShortestWay_19 (by decide) (fun hc => ?_) (fun hc => ?_)
  · have hf := ifp hf hc
    refine lv_iconst (v := (-1)) hx hb dX1_onShortestWay_28 (by decide) ?_
    cases Option.some.inj hf
    exact fin_i hx hb hr hlk hS hP rfl dX1_onShortestWay_29
  · have hf := ifn hf hc
    refine lv_iload_n hx hb dX1_onShortestWay_22 rfl (lv_at hl 4 rfl) ?_
    refine lv_iload hx hb dX1_onShortestWay_23 (lv_at hl 0 rfl) ?_
    refine lv_icmp_le (tgt := 30) hx hb dX1_onShortestWay_25 (by decide) (fun hc => ?_) (fun hc => ?_)
    · have hf := ifp hf hc
      refine lv_iload_n hx hb dX1_onShortestWay_30 rfl (lv_at hl 2 rfl) ?_
      refine lv_istore (lv' := [(5, .int p1), (4, .int x2), (0, .ref (ad 28)), (1, .int p1), (2, .int p2), (3, .int p3)]) hx hb dX1_onShortestWay_31 hl (by decide) rfl (fun ls hl => ?_)
      refine lv_iconst (v := (nI 0)) hx hb dX1_onShortestWay_33 (by decide) ?_
      refine lv_istore (lv' := [(6, .int (nI 0)), (5, .int p1), (4, .int x2), (0, .ref (ad 28)), (1, .int p1), (2, .int p2), (3, .int p3)]) hx hb dX1_onShortestWay_34 hl (by decide) rfl (fun ls hl => ?_)
      refine zl2_ind (F := (m_X1_onShortestWay_B36 p3 S1 x2)) (R := (r, SZ)) (P := fun x3 x4 => ∀ (H : Heap) (locs : List Loc) (ls : Array Slot), va_P D vwCl (cw cyI ad S1) H → va_S (CA ad) s.heap H locs → lv_has ls 7 [(4, .int x2), (0, .ref (ad 28)), (3, .int p3), (5, .int x3), (6, .int x4)] → W p l e rl_X1_onShortestWay s m args below meth c H locs 0 0 (MQ below (PoI D (cw cyI ad SZ) (CA ad) r) args s 0 0 (CA ad)) (F0 m 36 ls [])) (fun rec36 ih36 x3 x4 hf H locs ls hP hS hl => ?_) FU p1 (nI 0) hf _ _ _ hP hS (lv_sub hl [2, 3, 6, 1, 0] rfl)
      unfold m_X1_onShortestWay_B36 at hf
      refine lv_iload hx hb dX1_onShortestWay_36 (lv_at hl 4 rfl) ?_
      refine lv_iload_n hx hb dX1_onShortestWay_38 rfl (lv_at hl 2 rfl) ?_
      refine lv_icmp_ge (tgt := 78) hx hb dX1_onShortestWay_39 (by decide) (fun hc => ?_) (fun hc => ?_)
      · have hf := ifp hf hc
        refine lv_iload hx hb dX1_onShortestWay_78 (lv_at hl 3 rfl) ?_
        cases Option.some.inj hf
        exact fin_i hx hb hr hlk hS hP rfl dX1_onShortestWay_80
      · have hf := ifn hf hc
        refine lv_iload hx hb dX1_onShortestWay_42 (lv_at hl 4 rfl) ?_
        refine lv_bipush (v := (nI 16)) hx hb dX1_onShortestWay_44 (by decide) ?_
        refine lv_icmp_ge (tgt := 78) hx hb dX1_onShortestWay_46 (by decide) (fun hc => ?_) (fun hc => ?_)
        · have hf := ifp hf hc
          refine lv_iload hx hb dX1_onShortestWay_78 (lv_at hl 3 rfl) ?_
          cases Option.some.inj hf
          exact fin_i hx hb hr hlk hS hP rfl dX1_onShortestWay_80
        · have hf := ifn hf hc
          refine lv_aload_n hx hb dX1_onShortestWay_49 rfl (lv_at hl 1 rfl) ?_
          refine lv_aload_n hx hb dX1_onShortestWay_50 rfl (lv_at hl 1 rfl) ?_
          refine va_get (D := D) (ci := 1) (v := .ref (ad (2 * 6))) (C := RX1) (T := TX1) (N := 2) hx hb hts hin1 hown hK hP 28 (cw_o28 (S := S1)) rfl 1 (by decide) hfl14 (fun _ h9 => h9) rfl dX1_onShortestWay_51 ?_
          refine lv_iload hx hb dX1_onShortestWay_54 (lv_at hl 3 rfl) ?_
          refine lv_iconst (v := (nI 0)) hx hb dX1_onShortestWay_56 (by decide) ?_
          obtain ⟨x5, hc57, hf⟩ := zo_k hf
          refine cal_i (rnV (As := [.int x3, .int (nI 0)]) (rest := [.ref (ad 28)]) ⟨hx, hb, hml, hown, hts⟩ (c_X4_get hAd (by decide) hc57) (cwV 2 hts gX1_onShortestWay_X4_get rfl rfl rfl cdV_X4_get ⟨Nat.le_of_ble_eq_true rfl, Nat.le_of_ble_eq_true rfl⟩) hP hK hN (cw_ro (S := S1) (k := 6) (by decide)) rfl rfl hl.1 rfl (Nat.le_of_ble_eq_true rfl) dX1_onShortestWay_57 ⟨Nat.zero_le _, Nat.zero_le _⟩) hS (fun H locs hP hS => ?_)
          refine lv_iload hx hb dX1_onShortestWay_60 (lv_at hl 0 rfl) ?_
          refine lv_iload hx hb dX1_onShortestWay_62 (lv_at hl 4 rfl) ?_
          refine lv_isub hx hb dX1_onShortestWay_64 ?_
          refine lv_iconst (v := (nI 1)) hx hb dX1_onShortestWay_65 (by decide) ?_
          refine lv_isub hx hb dX1_onShortestWay_66 ?_
          obtain ⟨x6, hc67, hf⟩ := zo_k hf
          refine cal_i (rnV (As := [.int x5, .int ((x2 - x4) - (nI 1))]) (rest := []) ⟨hx, hb, hml, hown, hts⟩ (c_X1_lowestAt hAd  hc67) (cwV 2 hts gX1_onShortestWay_X1_lowestAt rfl rfl rfl cdV_X1_lowestAt ⟨Nat.le_of_ble_eq_true rfl, Nat.le_of_ble_eq_true rfl⟩) hP hK hN (cw_o28 (S := S1)) rfl rfl hl.1 rfl (Nat.le_of_ble_eq_true rfl) dX1_onShortestWay_67 ⟨Nat.zero_le _, Nat.zero_le _⟩) hS (fun H locs hP hS => ?_)
          refine lv_istore (lv' := [(5, .int x6), (4, .int x2), (0, .ref (ad 28)), (3, .int p3), (6, .int x4)]) hx hb dX1_onShortestWay_70 hl (by decide) rfl (fun ls hl => ?_)
          obtain ⟨x7, ex7, hf⟩ := zb_k hf
          refine lv_iinc (v := x7) (lv' := [(6, .int x7), (5, .int x6), (4, .int x2), (0, .ref (ad 28)), (3, .int p3)]) hx hb dX1_onShortestWay_72 hl (k := 4) rfl (by rw [ex7]; rfl) (by decide) rfl (fun ls hl => ?_)
          refine lv_goto (tgt := 36) hx hb dX1_onShortestWay_75 (by decide) ?_
          exact ih36 x6 x7 hf _ _ _ hP hS (lv_sub hl [2, 3, 4, 1, 0] rfl)
    · have hf := ifn hf hc
      refine lv_iconst (v := (-1)) hx hb dX1_onShortestWay_28 (by decide) ?_
      cases Option.some.inj hf
      exact fin_i hx hb hr hlk hS hP rfl dX1_onShortestWay_29
set_option maxHeartbeats 4000000 in
set_option maxRecDepth 100000 in
theorem c_X1_shortestRing {l : Launch} {D : va_G} {cyI cyJ cyZ : ClassId} {ad : Nat → Nat}  (hAd : AdOK 31 ad)  {S : St} {p1 : Int32} {r : Int32} {SZ : St} (hf : m_X1_shortestRing S p1 = some (r, SZ)) : Met l yX1_shortestRing wsX1_shortestRing rl_X1_shortestRing (PreW D [(cyI, .int), (cyJ, .long), (cyZ, .boolean)] (cw cyI ad S) [.ref (ad 28), .int p1]) (PoI D (cw cyI ad SZ) (CA ad) r) 0 0 (CA ad) := by
  refine met_go (cc := cX1_shortestRing) (maxL := 6) (ret := (some .int)) (by decide) rfl (Nat.le_of_ble_eq_true rfl) ?_
  intro p e s m args below meth c ls hx hb hr hml hts hown hlk hP hK hN hl
  have hown : s.vm.findClass RX1 = some m.cls := hown
  have hS : va_S (CA ad) s.heap s.heap [] := va_S.rf
  have hl : lv_has ls 6 [(0, .ref (ad 28)), (1, .int p1)] := hl
  have hin1 : ∀ w ∈ wsX10, w ∈ wsX1_shortestRing := by decide +kernel
  have hfl14 := hts (.fieldLink RX1 14 "Makewheel$Graph" "rows" "LMakewheel$Rows;") (by decide +kernel)
  unfold m_X1_shortestRing at hf
  refine lv_aload_n hx hb dX1_shortestRing_0 rfl (lv_at hl 0 rfl) ?_
  refine lv_iload_n hx hb dX1_shortestRing_1 rfl (lv_at hl 1 rfl) ?_
  obtain ⟨S1, hc2, hf⟩ := zo_k hf
  refine cal_v (rnV (As := [.int p1]) (rest := []) ⟨hx, hb, hml, hown, hts⟩ (c_X1_measure hAd  hc2) (cwV 1 hts gX1_shortestRing_X1_measure rfl rfl rfl cdV_X1_measure ⟨Nat.le_of_ble_eq_true rfl, Nat.le_of_ble_eq_true rfl⟩) hP hK hN (cw_o28 (S := S)) rfl rfl hl.1 rfl (Nat.le_of_ble_eq_true rfl) dX1_shortestRing_2 ⟨Nat.zero_le _, Nat.zero_le _⟩) hS (fun H locs hP hS => ?_)
  refine lv_iconst (v := (-1)) hx hb dX1_shortestRing_5 (by decide) ?_
  refine lv_istore_n (lv' := [(2, .int (-1)), (0, .ref (ad 28)), (1, .int p1)]) hx hb dX1_shortestRing_6 rfl hl (by decide) rfl (fun ls hl => ?_)
  refine lv_iconst (v := (nI 0)) hx hb dX1_shortestRing_7 (by decide) ?_
  refine lv_istore_n (lv' := [(3, .int (nI 0)), (2, .int (-1)), (0, .ref (ad 28)), (1, .int p1)]) hx hb dX1_shortestRing_8 rfl hl (by decide) rfl (fun ls hl => ?_)
  refine zl2_ind (F := (m_X1_shortestRing_B9 S1 p1)) (R := (r, SZ)) (P := fun x2 x3 => ∀ (H : Heap) (locs : List Loc) (ls : Array Slot), va_P D vwCl (cw cyI ad S1) H → va_S (CA ad) s.heap H locs → lv_has ls 6 [(0, .ref (ad 28)), (1, .int p1), (2, .int x2), (3, .int x3)] → W p l e rl_X1_shortestRing s m args below meth c H locs 0 0 (MQ below (PoI D (cw cyI ad SZ) (CA ad) r) args s 0 0 (CA ad)) (F0 m 9 ls [])) (fun rec9 ih9 x2 x3 hf H locs ls hP hS hl => ?_) FU (-1) (nI 0) hf _ _ _ hP hS (lv_sub hl [2, 3, 1, 0] rfl)
  unfold m_X1_shortestRing_B9 at hf
  refine lv_iload_n hx hb dX1_shortestRing_9 rfl (lv_at hl 3 rfl) ?_
  refine lv_bipush (v := (nI 16)) hx hb dX1_shortestRing_10 (by decide) ?_
  refine lv_icmp_ge (tgt := 84) hx hb dX1_shortestRing_12 (by decide) (fun hc => ?_) (fun hc => ?_)
  · have hf := ifp hf hc
    refine lv_iload_n hx hb dX1_shortestRing_84 rfl (lv_at hl 2 rfl) ?_
    cases Option.some.inj hf
    exact fin_i hx hb hr hlk hS hP rfl dX1_shortestRing_85
  · have hf := ifn hf hc
    refine lv_aload_n hx hb dX1_shortestRing_15 rfl (lv_at hl 0 rfl) ?_
    refine va_get (D := D) (ci := 1) (v := .ref (ad (2 * 6))) (C := RX1) (T := TX1) (N := 2) hx hb hts hin1 hown hK hP 28 (cw_o28 (S := S1)) rfl 1 (by decide) hfl14 (fun _ h9 => h9) rfl dX1_shortestRing_16 ?_
    refine lv_iload_n hx hb dX1_shortestRing_19 rfl (lv_at hl 3 rfl) ?_
    refine lv_iconst (v := (nI 1)) hx hb dX1_shortestRing_20 (by decide) ?_
    obtain ⟨x4, hc21, hf⟩ := zo_k hf
    refine cal_i (rnV (As := [.int x3, .int (nI 1)]) (rest := []) ⟨hx, hb, hml, hown, hts⟩ (c_X4_get hAd (by decide) hc21) (cwV 2 hts gX1_shortestRing_X4_get rfl rfl rfl cdV_X4_get ⟨Nat.le_of_ble_eq_true rfl, Nat.le_of_ble_eq_true rfl⟩) hP hK hN (cw_ro (S := S1) (k := 6) (by decide)) rfl rfl hl.1 rfl (Nat.le_of_ble_eq_true rfl) dX1_shortestRing_21 ⟨Nat.zero_le _, Nat.zero_le _⟩) hS (fun H locs hP hS => ?_)
    refine lv_istore (lv' := [(4, .int x4), (0, .ref (ad 28)), (1, .int p1), (2, .int x2), (3, .int x3)]) hx hb dX1_shortestRing_24 hl (by decide) rfl (fun ls hl => ?_)
    refine lv_aload_n hx hb dX1_shortestRing_26 rfl (lv_at hl 1 rfl) ?_
    refine va_get (D := D) (ci := 1) (v := .ref (ad (2 * 6))) (C := RX1) (T := TX1) (N := 2) hx hb hts hin1 hown hK hP 28 (cw_o28 (S := S1)) rfl 1 (by decide) hfl14 (fun _ h9 => h9) rfl dX1_shortestRing_27 ?_
    refine lv_iload_n hx hb dX1_shortestRing_30 rfl (lv_at hl 2 rfl) ?_
    refine lv_iconst (v := (nI 0)) hx hb dX1_shortestRing_31 (by decide) ?_
    obtain ⟨x5, hc32, hf⟩ := zo_k hf
    refine cal_i (rnV (As := [.int p1, .int (nI 0)]) (rest := []) ⟨hx, hb, hml, hown, hts⟩ (c_X4_get hAd (by decide) hc32) (cwV 2 hts gX1_shortestRing_X4_get rfl rfl rfl cdV_X4_get ⟨Nat.le_of_ble_eq_true rfl, Nat.le_of_ble_eq_true rfl⟩) hP hK hN (cw_ro (S := S1) (k := 6) (by decide)) rfl rfl hl.1 rfl (Nat.le_of_ble_eq_true rfl) dX1_shortestRing_32 ⟨Nat.zero_le _, Nat.zero_le _⟩) hS (fun H locs hP hS => ?_)
    refine lv_iload_n hx hb dX1_shortestRing_35 rfl (lv_at hl 4 rfl) ?_
    obtain ⟨x6, hc36, hf⟩ := zo_k hf
    refine cal_i (rnS (As := [.int x5, .int x3]) (rest := []) ⟨hx, hb, hml, hown, hts⟩ (c_X1_has hAd  hc36) (va_cwS 2 hts gX1_shortestRing_X1_has rfl rfl rfl cdS_X1_has ⟨Nat.le_of_ble_eq_true rfl, Nat.le_of_ble_eq_true rfl⟩) hP hK hN rfl hl.1 rfl (Nat.le_of_ble_eq_true rfl) dX1_shortestRing_36 ⟨Nat.zero_le _, Nat.zero_le _⟩) hS (fun H locs hP hS => ?_)
    refine lv_if_eq (tgt := 52) hx hb dX1_shortestRing_39 (by decide) (fun hc => ?_) (fun hc => ?_)
    · have hf := ifp hf hc
      refine lv_iconst (v := (nI 0)) hx hb dX1_shortestRing_52 (by decide) ?_
      refine lv_istore (lv' := [(5, .int (nI 0)), (4, .int x4), (0, .ref (ad 28)), (1, .int p1), (2, .int x2), (3, .int x3)]) hx hb dX1_shortestRing_53 hl (by decide) rfl (fun ls hl => ?_)
      refine lv_iload hx hb dX1_shortestRing_55 (lv_at hl 0 rfl) ?_
      have hJ78 : ∀ (x7 : Int32), m_X1_shortestRing_J78 x3 rec9 x7 = some (r, SZ) → ∀ (H : Heap) (locs : List Loc) (ls : Array Slot), va_P D vwCl (cw cyI ad S1) H → va_S (CA ad) s.heap H locs → lv_has ls 6 [(0, .ref (ad 28)), (1, .int p1), (3, .int x3), (2, .int x7)] → W p l e rl_X1_shortestRing s m args below meth c H locs 0 0 (MQ below (PoI D (cw cyI ad SZ) (CA ad) r) args s 0 0 (CA ad)) (F0 m 78 ls []) := by
        intro x7 hf H locs ls hP hS hl
        unfold m_X1_shortestRing_J78 at hf
        obtain ⟨x8, ex8, hf⟩ := zb_k hf
        refine lv_iinc (v := x8) (lv' := [(3, .int x8), (0, .ref (ad 28)), (1, .int p1), (2, .int x7)]) hx hb dX1_shortestRing_78 hl (k := 2) rfl (by rw [ex8]; rfl) (by decide) rfl (fun ls hl => ?_)
        refine lv_goto (tgt := 9) hx hb dX1_shortestRing_81 (by decide) ?_
        exact ih9 x7 x8 hf _ _ _ hP hS (lv_sub hl [1, 2, 3, 0] rfl)
      refine lv_if_eq (tgt := 78) hx hb dX1_shortestRing_57 (by decide) (fun _ => ?_) (fun hc => absurd (by decide) hc)
      exact hJ78 x2 hf _ _ _ hP hS (lv_sub hl [2, 3, 5, 4] rfl)
    · have hf := ifn hf hc
      refine lv_iload hx hb dX1_shortestRing_42 (lv_at hl 0 rfl) ?_
      refine lv_iconst (v := (-1)) hx hb dX1_shortestRing_44 (by decide) ?_
      refine lv_icmp_eq (tgt := 52) hx hb dX1_shortestRing_45 (by decide) (fun hc => ?_) (fun hc => ?_)
      · have hf := ifp hf hc
        refine lv_iconst (v := (nI 0)) hx hb dX1_shortestRing_52 (by decide) ?_
        refine lv_istore (lv' := [(5, .int (nI 0)), (4, .int x4), (0, .ref (ad 28)), (1, .int p1), (2, .int x2), (3, .int x3)]) hx hb dX1_shortestRing_53 hl (by decide) rfl (fun ls hl => ?_)
        refine lv_iload hx hb dX1_shortestRing_55 (lv_at hl 0 rfl) ?_
        have hJ78 : ∀ (x9 : Int32), m_X1_shortestRing_J78b x3 rec9 x9 = some (r, SZ) → ∀ (H : Heap) (locs : List Loc) (ls : Array Slot), va_P D vwCl (cw cyI ad S1) H → va_S (CA ad) s.heap H locs → lv_has ls 6 [(0, .ref (ad 28)), (1, .int p1), (3, .int x3), (2, .int x9)] → W p l e rl_X1_shortestRing s m args below meth c H locs 0 0 (MQ below (PoI D (cw cyI ad SZ) (CA ad) r) args s 0 0 (CA ad)) (F0 m 78 ls []) := by
          intro x9 hf H locs ls hP hS hl
          unfold m_X1_shortestRing_J78b at hf
          obtain ⟨x10, ex10, hf⟩ := zb_k hf
          refine lv_iinc (v := x10) (lv' := [(3, .int x10), (0, .ref (ad 28)), (1, .int p1), (2, .int x9)]) hx hb dX1_shortestRing_78 hl (k := 2) rfl (by rw [ex10]; rfl) (by decide) rfl (fun ls hl => ?_)
          refine lv_goto (tgt := 9) hx hb dX1_shortestRing_81 (by decide) ?_
          exact ih9 x9 x10 hf _ _ _ hP hS (lv_sub hl [1, 2, 3, 0] rfl)
        refine lv_if_eq (tgt := 78) hx hb dX1_shortestRing_57 (by decide) (fun _ => ?_) (fun hc => absurd (by decide) hc)
        exact hJ78 x2 hf _ _ _ hP hS (lv_sub hl [2, 3, 5, 4] rfl)
      · have hf := ifn hf hc
        refine lv_iconst (v := (nI 1)) hx hb dX1_shortestRing_48 (by decide) ?_
        refine lv_goto (tgt := 53) hx hb dX1_shortestRing_49 (by decide) ?_
        refine lv_istore (lv' := [(5, .int (nI 1)), (4, .int x4), (0, .ref (ad 28)), (1, .int p1), (2, .int x2), (3, .int x3)]) hx hb dX1_shortestRing_53 hl (by decide) rfl (fun ls hl => ?_)
        refine lv_iload hx hb dX1_shortestRing_55 (lv_at hl 0 rfl) ?_
        have hJ78 : ∀ (x11 : Int32), m_X1_shortestRing_J78bb x3 rec9 x11 = some (r, SZ) → ∀ (H : Heap) (locs : List Loc) (ls : Array Slot), va_P D vwCl (cw cyI ad S1) H → va_S (CA ad) s.heap H locs → lv_has ls 6 [(0, .ref (ad 28)), (1, .int p1), (3, .int x3), (2, .int x11)] → W p l e rl_X1_shortestRing s m args below meth c H locs 0 0 (MQ below (PoI D (cw cyI ad SZ) (CA ad) r) args s 0 0 (CA ad)) (F0 m 78 ls []) := by
          intro x11 hf H locs ls hP hS hl
          unfold m_X1_shortestRing_J78bb at hf
          obtain ⟨x12, ex12, hf⟩ := zb_k hf
          refine lv_iinc (v := x12) (lv' := [(3, .int x12), (0, .ref (ad 28)), (1, .int p1), (2, .int x11)]) hx hb dX1_shortestRing_78 hl (k := 2) rfl (by rw [ex12]; rfl) (by decide) rfl (fun ls hl => ?_)
          refine lv_goto (tgt := 9) hx hb dX1_shortestRing_81 (by decide) ?_
          exact ih9 x11 x12 hf _ _ _ hP hS (lv_sub hl [1, 2, 3, 0] rfl)
        refine lv_if_eq (tgt := 78) hx hb dX1_shortestRing_57 (by decide) (fun hc => absurd hc (by decide)) (fun _ => ?_)
        refine lv_iload_n hx hb dX1_shortestRing_60 rfl (lv_at hl 4 rfl) ?_
        refine lv_iconst (v := (-1)) hx hb dX1_shortestRing_61 (by decide) ?_
        refine lv_icmp_eq (tgt := 73) hx hb dX1_shortestRing_62 (by decide) (fun hc => ?_) (fun hc => ?_)
        · have hf := ifp hf hc
          refine lv_iload hx hb dX1_shortestRing_73 (lv_at hl 1 rfl) ?_
          refine lv_iconst (v := (nI 1)) hx hb dX1_shortestRing_75 (by decide) ?_
          refine lv_iadd hx hb dX1_shortestRing_76 ?_
          refine lv_topi (fun x13 ex13 => ?_)
          have hf := zb_x hf ex13
          refine lv_istore_n (lv' := [(2, .int x13), (5, .int (nI 1)), (4, .int x4), (0, .ref (ad 28)), (1, .int p1), (3, .int x3)]) hx hb dX1_shortestRing_77 rfl hl (by decide) rfl (fun ls hl => ?_)
          exact hJ78 x13 hf _ _ _ hP hS (lv_sub hl [3, 4, 5, 0] rfl)
        · have hf := ifn hf hc
          refine lv_iload hx hb dX1_shortestRing_65 (lv_at hl 1 rfl) ?_
          refine lv_iconst (v := (nI 1)) hx hb dX1_shortestRing_67 (by decide) ?_
          refine lv_iadd hx hb dX1_shortestRing_68 ?_
          refine lv_iload_n hx hb dX1_shortestRing_69 rfl (lv_at hl 4 rfl) ?_
          refine lv_icmp_ge (tgt := 78) hx hb dX1_shortestRing_70 (by decide) (fun hc => ?_) (fun hc => ?_)
          · have hf := ifp hf hc
            exact hJ78 x2 hf _ _ _ hP hS (lv_sub hl [2, 3, 5, 4] rfl)
          · have hf := ifn hf hc
            refine lv_iload hx hb dX1_shortestRing_73 (lv_at hl 1 rfl) ?_
            refine lv_iconst (v := (nI 1)) hx hb dX1_shortestRing_75 (by decide) ?_
            refine lv_iadd hx hb dX1_shortestRing_76 ?_
            refine lv_topi (fun x14 ex14 => ?_)
            have hf := zb_x hf ex14
            refine lv_istore_n (lv' := [(2, .int x14), (5, .int (nI 1)), (4, .int x4), (0, .ref (ad 28)), (1, .int p1), (3, .int x3)]) hx hb dX1_shortestRing_77 rfl hl (by decide) rfl (fun ls hl => ?_)
            exact hJ78 x14 hf _ _ _ hP hS (lv_sub hl [3, 4, 5, 0] rfl)
set_option maxHeartbeats 4000000 in
set_option maxRecDepth 100000 in
theorem c_X1_thatNeed {l : Launch} {D : va_G} {cyI cyJ cyZ : ClassId} {ad : Nat → Nat}  (hAd : AdOK 31 ad)  {S : St} {p1 : Int32} {r : Int32} (hf : m_X1_thatNeed S p1 = some r) : Met l yX1_thatNeed wsX1_thatNeed rl_X1_thatNeed (PreW D [(cyI, .int), (cyJ, .long), (cyZ, .boolean)] (cw cyI ad S) [.ref (ad 28), .int p1]) (PoI D (cw cyI ad S) (CA ad) r) 0 0 (CA ad) := by
  refine met_go (cc := cX1_thatNeed) (maxL := 4) (ret := (some .int)) (by decide) rfl (Nat.le_of_ble_eq_true rfl) ?_
  intro p e s m args below meth c ls hx hb hr hml hts hown hlk hP hK hN hl
  have hown : s.vm.findClass RX1 = some m.cls := hown
  have hS : va_S (CA ad) s.heap s.heap [] := va_S.rf
  have hl : lv_has ls 4 [(0, .ref (ad 28)), (1, .int p1)] := hl
  unfold m_X1_thatNeed at hf
  refine lv_iconst (v := (nI 0)) hx hb dX1_thatNeed_0 (by decide) ?_
  refine lv_istore_n (lv' := [(2, .int (nI 0)), (0, .ref (ad 28)), (1, .int p1)]) hx hb dX1_thatNeed_1 rfl hl (by decide) rfl (fun ls hl => ?_)
  refine lv_iconst (v := (nI 0)) hx hb dX1_thatNeed_2 (by decide) ?_
  refine lv_istore_n (lv' := [(3, .int (nI 0)), (2, .int (nI 0)), (0, .ref (ad 28)), (1, .int p1)]) hx hb dX1_thatNeed_3 rfl hl (by decide) rfl (fun ls hl => ?_)
  refine zl2_ind (F := (m_X1_thatNeed_B4 S p1)) (R := r) (P := fun x1 x2 => ∀ (H : Heap) (locs : List Loc) (ls : Array Slot), va_P D vwCl (cw cyI ad S) H → va_S (CA ad) s.heap H locs → lv_has ls 4 [(0, .ref (ad 28)), (1, .int p1), (2, .int x1), (3, .int x2)] → W p l e rl_X1_thatNeed s m args below meth c H locs 0 0 (MQ below (PoI D (cw cyI ad S) (CA ad) r) args s 0 0 (CA ad)) (F0 m 4 ls [])) (fun rec4 ih4 x1 x2 hf H locs ls hP hS hl => ?_) FU (nI 0) (nI 0) hf _ _ _ hP hS (lv_sub hl [2, 3, 1, 0] rfl)
  unfold m_X1_thatNeed_B4 at hf
  refine lv_iload_n hx hb dX1_thatNeed_4 rfl (lv_at hl 3 rfl) ?_
  refine lv_bipush (v := (nI 16)) hx hb dX1_thatNeed_5 (by decide) ?_
  refine lv_icmp_ge (tgt := 32) hx hb dX1_thatNeed_7 (by decide) (fun hc => ?_) (fun hc => ?_)
  · have hf := ifp hf hc
    refine lv_iload_n hx hb dX1_thatNeed_32 rfl (lv_at hl 2 rfl) ?_
    exact fin_i hx hb hr hlk hS hP (Option.some.inj hf) dX1_thatNeed_33
  · have hf := ifn hf hc
    refine lv_aload_n hx hb dX1_thatNeed_10 rfl (lv_at hl 0 rfl) ?_
    refine lv_iload_n hx hb dX1_thatNeed_11 rfl (lv_at hl 3 rfl) ?_
    obtain ⟨x3, hc12, hf⟩ := zo_k hf
    refine cal_i (rnV (As := [.int x2]) (rest := []) ⟨hx, hb, hml, hown, hts⟩ (c_X1_allFrom hAd  hc12) (cwV 1 hts gX1_thatNeed_X1_allFrom rfl rfl rfl cdV_X1_allFrom ⟨Nat.le_of_ble_eq_true rfl, Nat.le_of_ble_eq_true rfl⟩) hP hK hN (cw_o28 (S := S)) rfl rfl hl.1 rfl (Nat.le_of_ble_eq_true rfl) dX1_thatNeed_12 ⟨Nat.zero_le _, Nat.zero_le _⟩) hS (fun H locs hP hS => ?_)
    refine lv_iload_n hx hb dX1_thatNeed_15 rfl (lv_at hl 1 rfl) ?_
    refine lv_iand hx hb dX1_thatNeed_16 ?_
    refine lv_if_eq (tgt := 26) hx hb dX1_thatNeed_17 (by decide) (fun hc => ?_) (fun hc => ?_)
    · have hf := ifp hf hc
      obtain ⟨x4, ex4, hf⟩ := zb_k hf
      refine lv_iinc (v := x4) (lv' := [(3, .int x4), (0, .ref (ad 28)), (1, .int p1), (2, .int x1)]) hx hb dX1_thatNeed_26 hl (k := 3) rfl (by rw [ex4]; rfl) (by decide) rfl (fun ls hl => ?_)
      refine lv_goto (tgt := 4) hx hb dX1_thatNeed_29 (by decide) ?_
      exact ih4 x1 x4 hf _ _ _ hP hS (lv_sub hl [1, 2, 3, 0] rfl)
    · have hf := ifn hf hc
      refine lv_iload_n hx hb dX1_thatNeed_20 rfl (lv_at hl 2 rfl) ?_
      refine lv_iconst (v := (nI 1)) hx hb dX1_thatNeed_21 (by decide) ?_
      refine lv_iload_n hx hb dX1_thatNeed_22 rfl (lv_at hl 3 rfl) ?_
      refine lv_ishl hx hb dX1_thatNeed_23 ?_
      refine lv_ior hx hb dX1_thatNeed_24 ?_
      refine lv_topi (fun x5 ex5 => ?_)
      have hf := zb_x hf ex5
      refine lv_istore_n (lv' := [(2, .int x5), (0, .ref (ad 28)), (1, .int p1), (3, .int x2)]) hx hb dX1_thatNeed_25 rfl hl (by decide) rfl (fun ls hl => ?_)
      obtain ⟨x6, ex6, hf⟩ := zb_k hf
      refine lv_iinc (v := x6) (lv' := [(3, .int x6), (2, .int x5), (0, .ref (ad 28)), (1, .int p1)]) hx hb dX1_thatNeed_26 hl (k := 3) rfl (by rw [ex6]; rfl) (by decide) rfl (fun ls hl => ?_)
      refine lv_goto (tgt := 4) hx hb dX1_thatNeed_29 (by decide) ?_
      exact ih4 x5 x6 hf _ _ _ hP hS (lv_sub hl [2, 3, 1, 0] rfl)
set_option maxHeartbeats 4000000 in
set_option maxRecDepth 100000 in
theorem c_X1_withFile {l : Launch} {D : va_G} {cyI cyJ cyZ : ClassId} {ad : Nat → Nat}  (hAd : AdOK 31 ad)  {S : St} {p1 : Int32} {r : Int32} (hf : m_X1_withFile S p1 = some r) : Met l yX1_withFile wsX1_withFile rl_X1_withFile (PreW D [(cyI, .int), (cyJ, .long), (cyZ, .boolean)] (cw cyI ad S) [.ref (ad 28), .int p1]) (PoI D (cw cyI ad S) (CA ad) r) 0 0 (CA ad) := by
  refine met_go (cc := cX1_withFile) (maxL := 8) (ret := (some .int)) (by decide) rfl (Nat.le_of_ble_eq_true rfl) ?_
  intro p e s m args below meth c ls hx hb hr hml hts hown hlk hP hK hN hl
  have hown : s.vm.findClass RX1 = some m.cls := hown
  have hS : va_S (CA ad) s.heap s.heap [] := va_S.rf
  have hl : lv_has ls 8 [(0, .ref (ad 28)), (1, .int p1)] := hl
  have hin1 : ∀ w ∈ wsX10, w ∈ wsX1_withFile := by decide +kernel
  have hfl20 := hts (.fieldLink RX1 20 "Makewheel$Graph" "rules" "LMakewheel$Rows;") (by decide +kernel)
  unfold m_X1_withFile at hf
  refine lv_iconst (v := (nI 0)) hx hb dX1_withFile_0 (by decide) ?_
  refine lv_istore_n (lv' := [(2, .int (nI 0)), (0, .ref (ad 28)), (1, .int p1)]) hx hb dX1_withFile_1 rfl hl (by decide) rfl (fun ls hl => ?_)
  refine lv_iconst (v := (nI 0)) hx hb dX1_withFile_2 (by decide) ?_
  refine lv_istore_n (lv' := [(3, .int (nI 0)), (2, .int (nI 0)), (0, .ref (ad 28)), (1, .int p1)]) hx hb dX1_withFile_3 rfl hl (by decide) rfl (fun ls hl => ?_)
  refine zl2_ind (F := (m_X1_withFile_B4 S p1)) (R := r) (P := fun x1 x2 => ∀ (H : Heap) (locs : List Loc) (ls : Array Slot), va_P D vwCl (cw cyI ad S) H → va_S (CA ad) s.heap H locs → lv_has ls 8 [(0, .ref (ad 28)), (1, .int p1), (2, .int x1), (3, .int x2)] → W p l e rl_X1_withFile s m args below meth c H locs 0 0 (MQ below (PoI D (cw cyI ad S) (CA ad) r) args s 0 0 (CA ad)) (F0 m 4 ls [])) (fun rec4 ih4 x1 x2 hf H locs ls hP hS hl => ?_) FU (nI 0) (nI 0) hf _ _ _ hP hS (lv_sub hl [2, 3, 1, 0] rfl)
  unfold m_X1_withFile_B4 at hf
  refine lv_iload_n hx hb dX1_withFile_4 rfl (lv_at hl 3 rfl) ?_
  refine lv_bipush (v := (nI 16)) hx hb dX1_withFile_5 (by decide) ?_
  refine lv_icmp_ge (tgt := 116) hx hb dX1_withFile_7 (by decide) (fun hc => ?_) (fun hc => ?_)
  · have hf := ifp hf hc
    refine lv_iload_n hx hb dX1_withFile_116 rfl (lv_at hl 2 rfl) ?_
    exact fin_i hx hb hr hlk hS hP (Option.some.inj hf) dX1_withFile_117
  · have hf := ifn hf hc
    refine lv_aload_n hx hb dX1_withFile_10 rfl (lv_at hl 0 rfl) ?_
    refine va_get (D := D) (ci := 1) (v := .ref (ad (2 * 1))) (C := RX1) (T := TX1) (N := 2) hx hb hts hin1 hown hK hP 28 (cw_o28 (S := S)) rfl 0 (by decide) hfl20 (fun _ h9 => h9) rfl dX1_withFile_11 ?_
    refine lv_iload_n hx hb dX1_withFile_14 rfl (lv_at hl 3 rfl) ?_
    refine lv_iconst (v := (nI 4)) hx hb dX1_withFile_15 (by decide) ?_
    obtain ⟨x3, hc16, hf⟩ := zo_k hf
    refine cal_i (rnV (As := [.int x2, .int (nI 4)]) (rest := []) ⟨hx, hb, hml, hown, hts⟩ (c_X4_get hAd (by decide) hc16) (cwV 2 hts gX1_withFile_X4_get rfl rfl rfl cdV_X4_get ⟨Nat.le_of_ble_eq_true rfl, Nat.le_of_ble_eq_true rfl⟩) hP hK hN (cw_ro (S := S) (k := 1) (by decide)) rfl rfl hl.1 rfl (Nat.le_of_ble_eq_true rfl) dX1_withFile_16 ⟨Nat.zero_le _, Nat.zero_le _⟩) hS (fun H locs hP hS => ?_)
    refine lv_istore (lv' := [(4, .int x3), (0, .ref (ad 28)), (1, .int p1), (2, .int x1), (3, .int x2)]) hx hb dX1_withFile_19 hl (by decide) rfl (fun ls hl => ?_)
    refine lv_iconst (v := (nI 0)) hx hb dX1_withFile_21 (by decide) ?_
    refine lv_istore (lv' := [(5, .int (nI 0)), (4, .int x3), (0, .ref (ad 28)), (1, .int p1), (2, .int x1), (3, .int x2)]) hx hb dX1_withFile_22 hl (by decide) rfl (fun ls hl => ?_)
    refine zl2_ind (F := (m_X1_withFile_B24 x3 x2 rec4 S p1)) (R := r) (P := fun x4 x5 => ∀ (H : Heap) (locs : List Loc) (ls : Array Slot), va_P D vwCl (cw cyI ad S) H → va_S (CA ad) s.heap H locs → lv_has ls 8 [(4, .int x3), (0, .ref (ad 28)), (1, .int p1), (3, .int x2), (2, .int x4), (5, .int x5)] → W p l e rl_X1_withFile s m args below meth c H locs 0 0 (MQ below (PoI D (cw cyI ad S) (CA ad) r) args s 0 0 (CA ad)) (F0 m 24 ls [])) (fun rec24 ih24 x4 x5 hf H locs ls hP hS hl => ?_) FU x1 (nI 0) hf _ _ _ hP hS (lv_sub hl [1, 2, 3, 5, 4, 0] rfl)
    unfold m_X1_withFile_B24 at hf
    refine lv_iload hx hb dX1_withFile_24 (lv_at hl 5 rfl) ?_
    refine lv_iload hx hb dX1_withFile_26 (lv_at hl 0 rfl) ?_
    have hJ110 : m_X1_withFile_J110 x2 rec4 x4 = some r → ∀ (H : Heap) (locs : List Loc) (ls : Array Slot), va_P D vwCl (cw cyI ad S) H → va_S (CA ad) s.heap H locs → lv_has ls 8 [(0, .ref (ad 28)), (1, .int p1), (3, .int x2), (2, .int x4)] → W p l e rl_X1_withFile s m args below meth c H locs 0 0 (MQ below (PoI D (cw cyI ad S) (CA ad) r) args s 0 0 (CA ad)) (F0 m 110 ls []) := by
      intro  hf H locs ls hP hS hl
      unfold m_X1_withFile_J110 at hf
      obtain ⟨x6, ex6, hf⟩ := zb_k hf
      refine lv_iinc (v := x6) (lv' := [(3, .int x6), (0, .ref (ad 28)), (1, .int p1), (2, .int x4)]) hx hb dX1_withFile_110 hl (k := 2) rfl (by rw [ex6]; rfl) (by decide) rfl (fun ls hl => ?_)
      refine lv_goto (tgt := 4) hx hb dX1_withFile_113 (by decide) ?_
      exact ih4 x4 x6 hf _ _ _ hP hS (lv_sub hl [1, 2, 3, 0] rfl)
    refine lv_icmp_ge (tgt := 110) hx hb dX1_withFile_28 (by decide) (fun hc => ?_) (fun hc => ?_)
    · have hf := ifp hf hc
      exact hJ110  hf _ _ _ hP hS (lv_sub hl [1, 2, 3, 4] rfl)
    · have hf := ifn hf hc
      refine lv_iload hx hb dX1_withFile_31 (lv_at hl 5 rfl) ?_
      refine lv_iconst (v := (nI 4)) hx hb dX1_withFile_33 (by decide) ?_
      refine lv_icmp_ge (tgt := 110) hx hb dX1_withFile_34 (by decide) (fun hc => ?_) (fun hc => ?_)
      · have hf := ifp hf hc
        exact hJ110  hf _ _ _ hP hS (lv_sub hl [1, 2, 3, 4] rfl)
      · have hf := ifn hf hc
        refine lv_aload_n hx hb dX1_withFile_37 rfl (lv_at hl 1 rfl) ?_
        refine va_get (D := D) (ci := 1) (v := .ref (ad (2 * 1))) (C := RX1) (T := TX1) (N := 2) hx hb hts hin1 hown hK hP 28 (cw_o28 (S := S)) rfl 0 (by decide) hfl20 (fun _ h9 => h9) rfl dX1_withFile_38 ?_
        refine lv_iload_n hx hb dX1_withFile_41 rfl (lv_at hl 3 rfl) ?_
        refine lv_iconst (v := (nI 5)) hx hb dX1_withFile_42 (by decide) ?_
        refine lv_iload hx hb dX1_withFile_43 (lv_at hl 5 rfl) ?_
        refine lv_iconst (v := (nI 2)) hx hb dX1_withFile_45 (by decide) ?_
        refine lv_imul hx hb dX1_withFile_46 ?_
        refine lv_iadd hx hb dX1_withFile_47 ?_
        refine lv_iconst (v := (nI 0)) hx hb dX1_withFile_48 (by decide) ?_
        refine lv_iadd hx hb dX1_withFile_49 ?_
        obtain ⟨x7, hc50, hf⟩ := zo_k hf
        refine cal_i (rnV (As := [.int x2, .int (((nI 5) + (x5 * (nI 2))) + (nI 0))]) (rest := []) ⟨hx, hb, hml, hown, hts⟩ (c_X4_get hAd (by decide) hc50) (cwV 2 hts gX1_withFile_X4_get rfl rfl rfl cdV_X4_get ⟨Nat.le_of_ble_eq_true rfl, Nat.le_of_ble_eq_true rfl⟩) hP hK hN (cw_ro (S := S) (k := 1) (by decide)) rfl rfl hl.1 rfl (Nat.le_of_ble_eq_true rfl) dX1_withFile_50 ⟨Nat.zero_le _, Nat.zero_le _⟩) hS (fun H locs hP hS => ?_)
        refine lv_istore (lv' := [(6, .int x7), (4, .int x3), (0, .ref (ad 28)), (1, .int p1), (3, .int x2), (2, .int x4), (5, .int x5)]) hx hb dX1_withFile_53 hl (by decide) rfl (fun ls hl => ?_)
        refine lv_aload_n hx hb dX1_withFile_55 rfl (lv_at hl 2 rfl) ?_
        refine va_get (D := D) (ci := 1) (v := .ref (ad (2 * 1))) (C := RX1) (T := TX1) (N := 2) hx hb hts hin1 hown hK hP 28 (cw_o28 (S := S)) rfl 0 (by decide) hfl20 (fun _ h9 => h9) rfl dX1_withFile_56 ?_
        refine lv_iload_n hx hb dX1_withFile_59 rfl (lv_at hl 4 rfl) ?_
        refine lv_iconst (v := (nI 5)) hx hb dX1_withFile_60 (by decide) ?_
        refine lv_iload hx hb dX1_withFile_61 (lv_at hl 6 rfl) ?_
        refine lv_iconst (v := (nI 2)) hx hb dX1_withFile_63 (by decide) ?_
        refine lv_imul hx hb dX1_withFile_64 ?_
        refine lv_iadd hx hb dX1_withFile_65 ?_
        refine lv_iconst (v := (nI 1)) hx hb dX1_withFile_66 (by decide) ?_
        refine lv_iadd hx hb dX1_withFile_67 ?_
        obtain ⟨x8, hc68, hf⟩ := zo_k hf
        refine cal_i (rnV (As := [.int x2, .int (((nI 5) + (x5 * (nI 2))) + (nI 1))]) (rest := []) ⟨hx, hb, hml, hown, hts⟩ (c_X4_get hAd (by decide) hc68) (cwV 2 hts gX1_withFile_X4_get rfl rfl rfl cdV_X4_get ⟨Nat.le_of_ble_eq_true rfl, Nat.le_of_ble_eq_true rfl⟩) hP hK hN (cw_ro (S := S) (k := 1) (by decide)) rfl rfl hl.1 rfl (Nat.le_of_ble_eq_true rfl) dX1_withFile_68 ⟨Nat.zero_le _, Nat.zero_le _⟩) hS (fun H locs hP hS => ?_)
        refine lv_istore (lv' := [(7, .int x8), (6, .int x7), (4, .int x3), (0, .ref (ad 28)), (1, .int p1), (3, .int x2), (2, .int x4), (5, .int x5)]) hx hb dX1_withFile_71 hl (by decide) rfl (fun ls hl => ?_)
        refine lv_iload hx hb dX1_withFile_73 (lv_at hl 1 rfl) ?_
        have hJ104 : ∀ (x9 : Int32), m_X1_withFile_J104 x5 rec24 x9 = some r → ∀ (H : Heap) (locs : List Loc) (ls : Array Slot), va_P D vwCl (cw cyI ad S) H → va_S (CA ad) s.heap H locs → lv_has ls 8 [(4, .int x3), (0, .ref (ad 28)), (1, .int p1), (3, .int x2), (5, .int x5), (2, .int x9)] → W p l e rl_X1_withFile s m args below meth c H locs 0 0 (MQ below (PoI D (cw cyI ad S) (CA ad) r) args s 0 0 (CA ad)) (F0 m 104 ls []) := by
          intro x9 hf H locs ls hP hS hl
          unfold m_X1_withFile_J104 at hf
          obtain ⟨x10, ex10, hf⟩ := zb_k hf
          refine lv_iinc (v := x10) (lv' := [(5, .int x10), (4, .int x3), (0, .ref (ad 28)), (1, .int p1), (3, .int x2), (2, .int x9)]) hx hb dX1_withFile_104 hl (k := 4) rfl (by rw [ex10]; rfl) (by decide) rfl (fun ls hl => ?_)
          refine lv_goto (tgt := 24) hx hb dX1_withFile_107 (by decide) ?_
          exact ih24 x9 x10 hf _ _ _ hP hS (lv_sub hl [1, 2, 3, 4, 5, 0] rfl)
        have hJ98 : m_X1_withFile_J98 x4 x2 x5 rec24 = some r → ∀ (H : Heap) (locs : List Loc) (ls : Array Slot), va_P D vwCl (cw cyI ad S) H → va_S (CA ad) s.heap H locs → lv_has ls 8 [(4, .int x3), (0, .ref (ad 28)), (1, .int p1), (3, .int x2), (2, .int x4), (5, .int x5)] → W p l e rl_X1_withFile s m args below meth c H locs 0 0 (MQ below (PoI D (cw cyI ad S) (CA ad) r) args s 0 0 (CA ad)) (F0 m 98 ls []) := by
          intro  hf H locs ls hP hS hl
          unfold m_X1_withFile_J98 at hf
          refine lv_iload_n hx hb dX1_withFile_98 rfl (lv_at hl 4 rfl) ?_
          refine lv_iconst (v := (nI 1)) hx hb dX1_withFile_99 (by decide) ?_
          refine lv_iload_n hx hb dX1_withFile_100 rfl (lv_at hl 3 rfl) ?_
          refine lv_ishl hx hb dX1_withFile_101 ?_
          refine lv_ior hx hb dX1_withFile_102 ?_
          refine lv_topi (fun x11 ex11 => ?_)
          have hf := zb_x hf ex11
          refine lv_istore_n (lv' := [(2, .int x11), (4, .int x3), (0, .ref (ad 28)), (1, .int p1), (3, .int x2), (5, .int x5)]) hx hb dX1_withFile_103 rfl hl (by decide) rfl (fun ls hl => ?_)
          exact hJ104 x11 hf _ _ _ hP hS (lv_sub hl [1, 2, 3, 4, 5, 0] rfl)
        have hJ84 : m_X1_withFile_J84 x7 x8 p1 x4 x2 x5 rec24 = some r → ∀ (H : Heap) (locs : List Loc) (ls : Array Slot), va_P D vwCl (cw cyI ad S) H → va_S (CA ad) s.heap H locs → lv_has ls 8 [(7, .int x8), (6, .int x7), (4, .int x3), (0, .ref (ad 28)), (1, .int p1), (3, .int x2), (2, .int x4), (5, .int x5)] → W p l e rl_X1_withFile s m args below meth c H locs 0 0 (MQ below (PoI D (cw cyI ad S) (CA ad) r) args s 0 0 (CA ad)) (F0 m 84 ls []) := by
          intro  hf H locs ls hP hS hl
          unfold m_X1_withFile_J84 at hf
          refine lv_iload hx hb dX1_withFile_84 (lv_at hl 1 rfl) ?_
          refine lv_iconst (v := (nI 1)) hx hb dX1_withFile_86 (by decide) ?_
          refine lv_icmp_ne (tgt := 104) hx hb dX1_withFile_87 (by decide) (fun hc => ?_) (fun hc => ?_)
          · have hf := ifn hf hc
            exact hJ104 x4 hf _ _ _ hP hS (lv_sub hl [2, 3, 4, 5, 7, 6] rfl)
          · have hf := ifp hf hc
            refine lv_iload hx hb dX1_withFile_90 (lv_at hl 0 rfl) ?_
            refine lv_iload_n hx hb dX1_withFile_92 rfl (lv_at hl 4 rfl) ?_
            refine lv_iconst (v := (nI 5)) hx hb dX1_withFile_93 (by decide) ?_
            refine lv_idiv hx hb dX1_withFile_94 (by decide) ?_
            refine lv_icmp_ne (tgt := 104) hx hb dX1_withFile_95 (by decide) (fun hc => ?_) (fun hc => ?_)
            · have hf := ifn hf hc
              exact hJ104 x4 hf _ _ _ hP hS (lv_sub hl [2, 3, 4, 5, 7, 6] rfl)
            · have hf := ifp hf hc
              exact hJ98  hf _ _ _ hP hS (lv_sub hl [2, 3, 4, 5, 6, 7] rfl)
        refine lv_if_ne (tgt := 84) hx hb dX1_withFile_75 (by decide) (fun hc => ?_) (fun hc => ?_)
        · have hf := ifn hf hc
          exact hJ84  hf _ _ _ hP hS (lv_sub hl [0, 1, 2, 3, 4, 5, 6, 7] rfl)
        · have hf := ifp hf hc
          refine lv_iload hx hb dX1_withFile_78 (lv_at hl 0 rfl) ?_
          refine lv_iload_n hx hb dX1_withFile_80 rfl (lv_at hl 4 rfl) ?_
          refine lv_icmp_eq (tgt := 98) hx hb dX1_withFile_81 (by decide) (fun hc => ?_) (fun hc => ?_)
          · have hf := ifp hf hc
            exact hJ98  hf _ _ _ hP hS (lv_sub hl [2, 3, 4, 5, 6, 7] rfl)
          · have hf := ifn hf hc
            exact hJ84  hf _ _ _ hP hS (lv_sub hl [0, 1, 2, 3, 4, 5, 6, 7] rfl)
