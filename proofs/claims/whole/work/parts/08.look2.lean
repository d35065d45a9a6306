set_option maxHeartbeats 4000000 in
set_option maxRecDepth 100000 in
theorem c_X2_valueNow {l : Launch} {D : va_G} {cyI cyJ cyZ : ClassId} {ad : Nat → Nat} {LK : St → Int32 → Int32 → Option (Int32 × St)} {b : Nat} {rf rl : Nat} (hLK : ∀ (S : St) (p1 p2 : Int32) (r : Int32) (SZ : St), LK S p1 p2 = some (r, SZ) → Met l yX2_look wsX2_look ({ frames := rf, cells := 0, slots := 0, locals := rl }) (PreW D [(cyI, .int), (cyJ, .long), (cyZ, .boolean)] (cw cyI ad S) [.ref (ad (26 + b)), .int p1, .int p2]) (PoI D (cw cyI ad SZ) (CA ad) r) 0 0 (CA ad)) (hAd : AdOK 31 ad) (hb2 : b < 2) {S : St} {p1 : Int32} {p2 : Int32} {p3 : Int32} {p4 : Int32} {r : Int32} {SZ : St} (hf : m_X2_valueNow LK b S p1 p2 p3 p4 = some (r, SZ)) : Met l yX2_valueNow wsX2_valueNow (rl_X2_valueNow rf rl) (PreW D [(cyI, .int), (cyJ, .long), (cyZ, .boolean)] (cw cyI ad S) [.ref (ad (26 + b)), .int p1, .int p2, .int p3, .int p4]) (PoI D (cw cyI ad SZ) (CA ad) r) 0 0 (CA ad) := by
  refine met_go (cc := cX2_valueNow) (maxL := 6) (ret := (some .int)) (by decide) rfl (Nat.le_of_ble_eq_true rfl) ?_
  intro p e s m args below meth c ls hx hb hr hml hts hown hlk hP hK hN hl
  have hown : s.vm.findClass RX2 = some m.cls := hown
  have hS : va_S (CA ad) s.heap s.heap [] := va_S.rf
  have hl : lv_has ls 6 [(0, .ref (ad (26 + b))), (1, .int p1), (2, .int p2), (3, .int p3), (4, .int p4)] := hl
  have hin2 : ∀ w ∈ wsX20, w ∈ wsX2_valueNow := by decide +kernel
  have hfl23 := hts (.fieldLink RX2 23 "Makewheel$Looker" "files" "LMakewheel$Rows;") (by decide +kernel)
  unfold m_X2_valueNow at hf
  refine lv_iload_n hx hb dX2_valueNow_0 rfl (lv_at hl 2 rfl) ?_
  refine lv_if_eq (tgt := 9) hx hb dX2_valueNow_1 (by decide) (fun hc => ?_) (fun hc => ?_)
  · have hf := ifp hf hc
    refine lv_aload_n hx hb dX2_valueNow_9 rfl (lv_at hl 0 rfl) ?_
    refine va_get (D := D) (ci := 2) (v := .ref (ad (2 * 0))) (C := RX2) (T := TX2) (N := 10) hx hb hts hin2 hown hK hP (26 + b) (cw_lo (S := S) (b := b) hb2) rfl 0 (by decide) hfl23 (fun _ h9 => h9) rfl dX2_valueNow_10 ?_
    refine lv_iload_n hx hb dX2_valueNow_13 rfl (lv_at hl 3 rfl) ?_
    obtain ⟨x1, hc14, hf⟩ := zo_k hf
    refine cal_i (rnSN (As := [.ref (ad (2 * 0)), .int p3]) (rest := []) ⟨hx, hb, hml, hown, hts⟩ (c_X6_contentOf hAd (by decide) hc14) ⟨va_cnB 2 hts gX2_valueNow_X6_contentOf_n126 rfl rfl rfl hN.n2_126 (hts (.initialized RX6) (by decide +kernel)) cdS_X6_contentOf ⟨by simp only [rl_X2_valueNow, rl_X6_contentOf]; omega, by simp only [rl_X2_valueNow, rl_X6_contentOf]; omega⟩, hts (.static yX6_contentOf) (by decide +kernel), trivial⟩ hP hK hN rfl hl.1 rfl (Nat.le_of_ble_eq_true rfl) dX2_valueNow_14 ⟨Nat.zero_le _, Nat.zero_le _⟩) hS (fun H locs hP hS => ?_)
    refine lv_istore (lv' := [(5, .int x1), (0, .ref (ad (26 + b))), (1, .int p1), (2, .int p2), (3, .int p3), (4, .int p4)]) hx hb dX2_valueNow_17 hl (by decide) rfl (fun ls hl => ?_)
    refine lv_iload hx hb dX2_valueNow_19 (lv_at hl 0 rfl) ?_
    refine lv_iconst (v := (-1)) hx hb dX2_valueNow_21 (by decide) ?_
    refine lv_icmp_ne (tgt := 34) hx hb dX2_valueNow_22 (by decide) (fun hc => ?_) (fun hc => ?_)
    · have hf := ifn hf hc
      refine lv_iload hx hb dX2_valueNow_34 (lv_at hl 0 rfl) ?_
      cases Option.some.inj hf
      exact fin_i hx hb hr hlk hS hP rfl dX2_valueNow_36
    · have hf := ifp hf hc
      refine lv_iload_n hx hb dX2_valueNow_25 rfl (lv_at hl 3 rfl) ?_
      refine lv_if_ne (tgt := 34) hx hb dX2_valueNow_26 (by decide) (fun hc => ?_) (fun hc => ?_)
      · have hf := ifn hf hc
        refine lv_iload hx hb dX2_valueNow_34 (lv_at hl 0 rfl) ?_
        cases Option.some.inj hf
        exact fin_i hx hb hr hlk hS hP rfl dX2_valueNow_36
      · have hf := ifp hf hc
        refine lv_bipush (v := (-3)) hx hb dX2_valueNow_29 (by decide) ?_
        refine lv_goto (tgt := 36) hx hb dX2_valueNow_31 (by decide) ?_
        cases Option.some.inj hf
        exact fin_i hx hb hr hlk hS hP rfl dX2_valueNow_36
  · have hf := ifn hf hc
    refine lv_iload_n hx hb dX2_valueNow_4 rfl (lv_at hl 2 rfl) ?_
    refine lv_iconst (v := (nI 4)) hx hb dX2_valueNow_5 (by decide) ?_
    refine lv_icmp_ne (tgt := 37) hx hb dX2_valueNow_6 (by decide) (fun hc => ?_) (fun hc => ?_)
    · have hf := ifn hf hc
      refine lv_aload_n hx hb dX2_valueNow_37 rfl (lv_at hl 0 rfl) ?_
      refine lv_iload_n hx hb dX2_valueNow_38 rfl (lv_at hl 1 rfl) ?_
      refine lv_iload_n hx hb dX2_valueNow_39 rfl (lv_at hl 2 rfl) ?_
      refine lv_iload_n hx hb dX2_valueNow_40 rfl (lv_at hl 3 rfl) ?_
      obtain ⟨x2, hc41, hf⟩ := zo_k hf
      refine cal_i (rnSN (As := [.int p1, .int p2, .int p3]) (rest := [.ref (ad (26 + b))]) ⟨hx, hb, hml, hown, hts⟩ (c_X6_nodeRead hAd  hc41) ⟨va_cnB 3 hts gX2_valueNow_X6_nodeRead_n130 rfl rfl rfl hN.n2_130 (hts (.initialized RX6) (by decide +kernel)) cdS_X6_nodeRead ⟨by simp only [rl_X2_valueNow, rl_X6_nodeRead]; omega, by simp only [rl_X2_valueNow, rl_X6_nodeRead]; omega⟩, hts (.static yX6_nodeRead) (by decide +kernel), trivial⟩ hP hK hN rfl hl.1 rfl (Nat.le_of_ble_eq_true rfl) dX2_valueNow_41 ⟨Nat.zero_le _, Nat.zero_le _⟩) hS (fun H locs hP hS => ?_)
      refine lv_iload hx hb dX2_valueNow_44 (lv_at hl 4 rfl) ?_
      refine lv_iconst (v := (nI 1)) hx hb dX2_valueNow_46 (by decide) ?_
      refine lv_iadd hx hb dX2_valueNow_47 ?_
      obtain ⟨x3, S4, hc48, hf⟩ := zo2_k hf
      refine cal_i (rnV (As := [.int x2, .int (p4 + (nI 1))]) (rest := []) ⟨hx, hb, hml, hown, hts⟩ (hLK S x2 (p4 + (nI 1)) x3 S4 hc48) (cwV 2 hts gX2_valueNow_X2_look rfl rfl rfl cdV_X2_look ⟨by simp only [rl_X2_valueNow]; omega, by simp only [rl_X2_valueNow]; omega⟩) hP hK hN (cw_lo (S := S) (b := b) hb2) rfl rfl hl.1 rfl (Nat.le_of_ble_eq_true rfl) dX2_valueNow_48 ⟨Nat.zero_le _, Nat.zero_le _⟩) hS (fun H locs hP hS => ?_)
      cases Option.some.inj hf
      exact fin_i hx hb hr hlk hS hP rfl dX2_valueNow_51
    · have hf := ifp hf hc
      refine lv_aload_n hx hb dX2_valueNow_9 rfl (lv_at hl 0 rfl) ?_
      refine va_get (D := D) (ci := 2) (v := .ref (ad (2 * 0))) (C := RX2) (T := TX2) (N := 10) hx hb hts hin2 hown hK hP (26 + b) (cw_lo (S := S) (b := b) hb2) rfl 0 (by decide) hfl23 (fun _ h9 => h9) rfl dX2_valueNow_10 ?_
      refine lv_iload_n hx hb dX2_valueNow_13 rfl (lv_at hl 3 rfl) ?_
      obtain ⟨x5, hc14, hf⟩ := zo_k hf
      refine cal_i (rnSN (As := [.ref (ad (2 * 0)), .int p3]) (rest := []) ⟨hx, hb, hml, hown, hts⟩ (c_X6_contentOf hAd (by decide) hc14) ⟨va_cnB 2 hts gX2_valueNow_X6_contentOf_n126 rfl rfl rfl hN.n2_126 (hts (.initialized RX6) (by decide +kernel)) cdS_X6_contentOf ⟨by simp only [rl_X2_valueNow, rl_X6_contentOf]; omega, by simp only [rl_X2_valueNow, rl_X6_contentOf]; omega⟩, hts (.static yX6_contentOf) (by decide +kernel), trivial⟩ hP hK hN rfl hl.1 rfl (Nat.le_of_ble_eq_true rfl) dX2_valueNow_14 ⟨Nat.zero_le _, Nat.zero_le _⟩) hS (fun H locs hP hS => ?_)
      refine lv_istore (lv' := [(5, .int x5), (0, .ref (ad (26 + b))), (1, .int p1), (2, .int p2), (3, .int p3), (4, .int p4)]) hx hb dX2_valueNow_17 hl (by decide) rfl (fun ls hl => ?_)
      refine lv_iload hx hb dX2_valueNow_19 (lv_at hl 0 rfl) ?_
      refine lv_iconst (v := (-1)) hx hb dX2_valueNow_21 (by decide) ?_
      refine lv_icmp_ne (tgt := 34) hx hb dX2_valueNow_22 (by decide) (fun hc => ?_) (fun hc => ?_)
      · have hf := ifn hf hc
        refine lv_iload hx hb dX2_valueNow_34 (lv_at hl 0 rfl) ?_
        cases Option.some.inj hf
        exact fin_i hx hb hr hlk hS hP rfl dX2_valueNow_36
      · have hf := ifp hf hc
        refine lv_iload_n hx hb dX2_valueNow_25 rfl (lv_at hl 3 rfl) ?_
        refine lv_if_ne (tgt := 34) hx hb dX2_valueNow_26 (by decide) (fun hc => ?_) (fun hc => ?_)
        · have hf := ifn hf hc
          refine lv_iload hx hb dX2_valueNow_34 (lv_at hl 0 rfl) ?_
          cases Option.some.inj hf
          exact fin_i hx hb hr hlk hS hP rfl dX2_valueNow_36
        · have hf := ifp hf hc
          refine lv_bipush (v := (-3)) hx hb dX2_valueNow_29 (by decide) ?_
          refine lv_goto (tgt := 36) hx hb dX2_valueNow_31 (by decide) ?_
          cases Option.some.inj hf
          exact fin_i hx hb hr hlk hS hP rfl dX2_valueNow_36
set_option maxHeartbeats 4000000 in
set_option maxRecDepth 100000 in
theorem c_X2_isAsItWas {l : Launch} {D : va_G} {cyI cyJ cyZ : ClassId} {ad : Nat → Nat} {LK : St → Int32 → Int32 → Option (Int32 × St)} {b : Nat} {rf rl : Nat} (hLK : ∀ (S : St) (p1 p2 : Int32) (r : Int32) (SZ : St), LK S p1 p2 = some (r, SZ) → Met l yX2_look wsX2_look ({ frames := rf, cells := 0, slots := 0, locals := rl }) (PreW D [(cyI, .int), (cyJ, .long), (cyZ, .boolean)] (cw cyI ad S) [.ref (ad (26 + b)), .int p1, .int p2]) (PoI D (cw cyI ad SZ) (CA ad) r) 0 0 (CA ad)) (hAd : AdOK 31 ad) (hb2 : b < 2) {S : St} {p1 : Int32} {p2 : Int32} {p3 : Int32} {r : Int32} {SZ : St} (hf : m_X2_isAsItWas LK b S p1 p2 p3 = some (r, SZ)) : Met l yX2_isAsItWas wsX2_isAsItWas (rl_X2_isAsItWas rf rl) (PreW D [(cyI, .int), (cyJ, .long), (cyZ, .boolean)] (cw cyI ad S) [.ref (ad (26 + b)), .int p1, .int p2, .int p3]) (PoI D (cw cyI ad SZ) (CA ad) r) 0 0 (CA ad) := by
  refine met_go (cc := cX2_isAsItWas) (maxL := 7) (ret := (some .boolean)) (by decide) rfl (Nat.le_of_ble_eq_true rfl) ?_
  intro p e s m args below meth c ls hx hb hr hml hts hown hlk hP hK hN hl
  have hown : s.vm.findClass RX2 = some m.cls := hown
  have hS : va_S (CA ad) s.heap s.heap [] := va_S.rf
  have hl : lv_has ls 7 [(0, .ref (ad (26 + b))), (1, .int p1), (2, .int p2), (3, .int p3)] := hl
  have hin2 : ∀ w ∈ wsX20, w ∈ wsX2_isAsItWas := by decide +kernel
  have hfl29 := hts (.fieldLink RX2 29 "Makewheel$Looker" "kept" "LMakewheel$Rows;") (by decide +kernel)
  have hfl23 := hts (.fieldLink RX2 23 "Makewheel$Looker" "files" "LMakewheel$Rows;") (by decide +kernel)
  unfold m_X2_isAsItWas at hf
  refine lv_aload_n hx hb dX2_isAsItWas_0 rfl (lv_at hl 0 rfl) ?_
  refine va_get (D := D) (ci := 2) (v := .ref (ad (2 * 2))) (C := RX2) (T := TX2) (N := 10) hx hb hts hin2 hown hK hP (26 + b) (cw_lo (S := S) (b := b) hb2) rfl 2 (by decide) hfl29 (fun _ h9 => h9) rfl dX2_isAsItWas_1 ?_
  refine lv_iload_n hx hb dX2_isAsItWas_4 rfl (lv_at hl 1 rfl) ?_
  refine lv_iload_n hx hb dX2_isAsItWas_5 rfl (lv_at hl 2 rfl) ?_
  refine lv_iconst (v := (nI 0)) hx hb dX2_isAsItWas_6 (by decide) ?_
  refine lv_iadd hx hb dX2_isAsItWas_7 ?_
  obtain ⟨x1, hc8, hf⟩ := zo_k hf
  refine cal_i (rnV (As := [.int p1, .int (p2 + (nI 0))]) (rest := []) ⟨hx, hb, hml, hown, hts⟩ (c_X4_get hAd (by decide) hc8) (cwV 2 hts gX2_isAsItWas_X4_get rfl rfl rfl cdV_X4_get ⟨by simp only [rl_X2_isAsItWas, rl_X4_get]; omega, by simp only [rl_X2_isAsItWas, rl_X4_get]; omega⟩) hP hK hN (cw_ro (S := S) (k := 2) (by decide)) rfl rfl hl.1 rfl (Nat.le_of_ble_eq_true rfl) dX2_isAsItWas_8 ⟨Nat.zero_le _, Nat.zero_le _⟩) hS (fun H locs hP hS => ?_)
  refine lv_istore (lv' := [(4, .int x1), (0, .ref (ad (26 + b))), (1, .int p1), (2, .int p2), (3, .int p3)]) hx hb dX2_isAsItWas_11 hl (by decide) rfl (fun ls hl => ?_)
  refine lv_aload_n hx hb dX2_isAsItWas_13 rfl (lv_at hl 1 rfl) ?_
  refine va_get (D := D) (ci := 2) (v := .ref (ad (2 * 2))) (C := RX2) (T := TX2) (N := 10) hx hb hts hin2 hown hK hP (26 + b) (cw_lo (S := S) (b := b) hb2) rfl 2 (by decide) hfl29 (fun _ h9 => h9) rfl dX2_isAsItWas_14 ?_
  refine lv_iload_n hx hb dX2_isAsItWas_17 rfl (lv_at hl 2 rfl) ?_
  refine lv_iload_n hx hb dX2_isAsItWas_18 rfl (lv_at hl 3 rfl) ?_
  refine lv_iconst (v := (nI 1)) hx hb dX2_isAsItWas_19 (by decide) ?_
  refine lv_iadd hx hb dX2_isAsItWas_20 ?_
  obtain ⟨x2, hc21, hf⟩ := zo_k hf
  refine cal_i (rnV (As := [.int p1, .int (p2 + (nI 1))]) (rest := []) ⟨hx, hb, hml, hown, hts⟩ (c_X4_get hAd (by decide) hc21) (cwV 2 hts gX2_isAsItWas_X4_get rfl rfl rfl cdV_X4_get ⟨by simp only [rl_X2_isAsItWas, rl_X4_get]; omega, by simp only [rl_X2_isAsItWas, rl_X4_get]; omega⟩) hP hK hN (cw_ro (S := S) (k := 2) (by decide)) rfl rfl hl.1 rfl (Nat.le_of_ble_eq_true rfl) dX2_isAsItWas_21 ⟨Nat.zero_le _, Nat.zero_le _⟩) hS (fun H locs hP hS => ?_)
  refine lv_istore (lv' := [(5, .int x2), (4, .int x1), (0, .ref (ad (26 + b))), (1, .int p1), (2, .int p2), (3, .int p3)]) hx hb dX2_isAsItWas_24 hl (by decide) rfl (fun ls hl => ?_)
  refine lv_iload hx hb dX2_isAsItWas_26 (lv_at hl 1 rfl) ?_
  refine lv_iconst (v := (nI 1)) hx hb dX2_isAsItWas_28 (by decide) ?_
  refine lv_icmp_eq (tgt := 62) hx hb dX2_isAsItWas_29 (by decide) (fun hc => ?_) (fun hc => ?_)
  · have hf := ifp hf hc
    refine lv_iconst (v := (nI 0)) hx hb dX2_isAsItWas_62 (by decide) ?_
    refine lv_istore (lv' := [(6, .int (nI 0)), (5, .int x2), (4, .int x1), (0, .ref (ad (26 + b))), (1, .int p1), (2, .int p2), (3, .int p3)]) hx hb dX2_isAsItWas_63 hl (by decide) rfl (fun ls hl => ?_)
    refine zl1_ind (F := (m_X2_isAsItWas_B65 S x2 p1 p2)) (R := (r, SZ)) (P := fun x3 => ∀ (H : Heap) (locs : List Loc) (ls : Array Slot), va_P D vwCl (cw cyI ad S) H → va_S (CA ad) s.heap H locs → lv_has ls 7 [(5, .int x2), (0, .ref (ad (26 + b))), (1, .int p1), (2, .int p2), (6, .int x3)] → W p l e (rl_X2_isAsItWas rf rl) s m args below meth c H locs 0 0 (MQ below (PoI D (cw cyI ad SZ) (CA ad) r) args s 0 0 (CA ad)) (F0 m 65 ls [])) (fun rec65 ih65 x3 hf H locs ls hP hS hl => ?_) FU (nI 0) hf _ _ _ hP hS (lv_sub hl [1, 3, 4, 5, 0] rfl)
    unfold m_X2_isAsItWas_B65 at hf
    refine lv_iload hx hb dX2_isAsItWas_65 (lv_at hl 4 rfl) ?_
    refine lv_iconst (v := (nI 5)) hx hb dX2_isAsItWas_67 (by decide) ?_
    refine lv_icmp_ge (tgt := 107) hx hb dX2_isAsItWas_68 (by decide) (fun hc => ?_) (fun hc => ?_)
    · have hf := ifp hf hc
      refine lv_iconst (v := (nI 1)) hx hb dX2_isAsItWas_107 (by decide) ?_
      cases Option.some.inj hf
      exact fin_z hx hb hr hlk hS hP rfl rfl dX2_isAsItWas_108
    · have hf := ifn hf hc
      refine lv_aload_n hx hb dX2_isAsItWas_71 rfl (lv_at hl 1 rfl) ?_
      refine va_get (D := D) (ci := 2) (v := .ref (ad (2 * 0))) (C := RX2) (T := TX2) (N := 10) hx hb hts hin2 hown hK hP (26 + b) (cw_lo (S := S) (b := b) hb2) rfl 0 (by decide) hfl23 (fun _ h9 => h9) rfl dX2_isAsItWas_72 ?_
      refine lv_iload hx hb dX2_isAsItWas_75 (lv_at hl 0 rfl) ?_
      refine lv_iload hx hb dX2_isAsItWas_77 (lv_at hl 4 rfl) ?_
      obtain ⟨x4, hc79, hf⟩ := zo_k hf
      refine cal_i (rnV (As := [.int x2, .int x3]) (rest := []) ⟨hx, hb, hml, hown, hts⟩ (c_X4_get hAd (by decide) hc79) (cwV 2 hts gX2_isAsItWas_X4_get rfl rfl rfl cdV_X4_get ⟨by simp only [rl_X2_isAsItWas, rl_X4_get]; omega, by simp only [rl_X2_isAsItWas, rl_X4_get]; omega⟩) hP hK hN (cw_ro (S := S) (k := 0) (by decide)) rfl rfl hl.1 rfl (Nat.le_of_ble_eq_true rfl) dX2_isAsItWas_79 ⟨Nat.zero_le _, Nat.zero_le _⟩) hS (fun H locs hP hS => ?_)
      refine lv_aload_n hx hb dX2_isAsItWas_82 rfl (lv_at hl 1 rfl) ?_
      refine va_get (D := D) (ci := 2) (v := .ref (ad (2 * 2))) (C := RX2) (T := TX2) (N := 10) hx hb hts hin2 hown hK hP (26 + b) (cw_lo (S := S) (b := b) hb2) rfl 2 (by decide) hfl29 (fun _ h9 => h9) rfl dX2_isAsItWas_83 ?_
      refine lv_iload_n hx hb dX2_isAsItWas_86 rfl (lv_at hl 2 rfl) ?_
      refine lv_iload_n hx hb dX2_isAsItWas_87 rfl (lv_at hl 3 rfl) ?_
      refine lv_iconst (v := (nI 2)) hx hb dX2_isAsItWas_88 (by decide) ?_
      refine lv_iadd hx hb dX2_isAsItWas_89 ?_
      refine lv_iload hx hb dX2_isAsItWas_90 (lv_at hl 4 rfl) ?_
      refine lv_iadd hx hb dX2_isAsItWas_92 ?_
      obtain ⟨x5, hc93, hf⟩ := zo_k hf
      refine cal_i (rnV (As := [.int p1, .int ((p2 + (nI 2)) + x3)]) (rest := [.int x4]) ⟨hx, hb, hml, hown, hts⟩ (c_X4_get hAd (by decide) hc93) (cwV 2 hts gX2_isAsItWas_X4_get rfl rfl rfl cdV_X4_get ⟨by simp only [rl_X2_isAsItWas, rl_X4_get]; omega, by simp only [rl_X2_isAsItWas, rl_X4_get]; omega⟩) hP hK hN (cw_ro (S := S) (k := 2) (by decide)) rfl rfl hl.1 rfl (Nat.le_of_ble_eq_true rfl) dX2_isAsItWas_93 ⟨Nat.zero_le _, Nat.zero_le _⟩) hS (fun H locs hP hS => ?_)
      refine lv_icmp_eq (tgt := 101) hx hb dX2_isAsItWas_96 (by decide) (fun hc => ?_) (fun hc => ?_)
      · have hf := ifp hf hc
        obtain ⟨x6, ex6, hf⟩ := zb_k hf
        refine lv_iinc (v := x6) (lv' := [(6, .int x6), (5, .int x2), (0, .ref (ad (26 + b))), (1, .int p1), (2, .int p2)]) hx hb dX2_isAsItWas_101 hl (k := 4) rfl (by rw [ex6]; rfl) (by decide) rfl (fun ls hl => ?_)
        refine lv_goto (tgt := 65) hx hb dX2_isAsItWas_104 (by decide) ?_
        exact ih65 x6 hf _ _ _ hP hS (lv_sub hl [1, 2, 3, 4, 0] rfl)
      · have hf := ifn hf hc
        refine lv_iconst (v := (nI 0)) hx hb dX2_isAsItWas_99 (by decide) ?_
        cases Option.some.inj hf
        exact fin_z hx hb hr hlk hS hP rfl rfl dX2_isAsItWas_100
  · have hf := ifn hf hc
    refine lv_aload_n hx hb dX2_isAsItWas_32 rfl (lv_at hl 2 rfl) ?_
    refine lv_iload_n hx hb dX2_isAsItWas_33 rfl (lv_at hl 3 rfl) ?_
    refine lv_iload hx hb dX2_isAsItWas_34 (lv_at hl 1 rfl) ?_
    refine lv_iload hx hb dX2_isAsItWas_36 (lv_at hl 0 rfl) ?_
    refine lv_iload_n hx hb dX2_isAsItWas_38 rfl (lv_at hl 5 rfl) ?_
    obtain ⟨x7, S8, hc39, hf⟩ := zo2_k hf
    refine cal_i (rnV (As := [.int p1, .int x1, .int x2, .int p3]) (rest := []) ⟨hx, hb, hml, hown, hts⟩ (c_X2_valueNow hLK hAd hb2 hc39) (cwV 4 hts gX2_isAsItWas_X2_valueNow rfl rfl rfl cdV_X2_valueNow ⟨by simp only [rl_X2_isAsItWas, rl_X2_valueNow]; omega, by simp only [rl_X2_isAsItWas, rl_X2_valueNow]; omega⟩) hP hK hN (cw_lo (S := S) (b := b) hb2) rfl rfl hl.1 rfl (Nat.le_of_ble_eq_true rfl) dX2_isAsItWas_39 ⟨Nat.zero_le _, Nat.zero_le _⟩) hS (fun H locs hP hS => ?_)
    refine lv_aload_n hx hb dX2_isAsItWas_42 rfl (lv_at hl 2 rfl) ?_
    refine va_get (D := D) (ci := 2) (v := .ref (ad (2 * 2))) (C := RX2) (T := TX2) (N := 10) hx hb hts hin2 hown hK hP (26 + b) (cw_lo (S := S8) (b := b) hb2) rfl 2 (by decide) hfl29 (fun _ h9 => h9) rfl dX2_isAsItWas_43 ?_
    refine lv_iload_n hx hb dX2_isAsItWas_46 rfl (lv_at hl 3 rfl) ?_
    refine lv_iload_n hx hb dX2_isAsItWas_47 rfl (lv_at hl 4 rfl) ?_
    refine lv_iconst (v := (nI 2)) hx hb dX2_isAsItWas_48 (by decide) ?_
    refine lv_iadd hx hb dX2_isAsItWas_49 ?_
    obtain ⟨x9, hc50, hf⟩ := zo_k hf
    refine cal_i (rnV (As := [.int p1, .int (p2 + (nI 2))]) (rest := [.int x7]) ⟨hx, hb, hml, hown, hts⟩ (c_X4_get hAd (by decide) hc50) (cwV 2 hts gX2_isAsItWas_X4_get rfl rfl rfl cdV_X4_get ⟨by simp only [rl_X2_isAsItWas, rl_X4_get]; omega, by simp only [rl_X2_isAsItWas, rl_X4_get]; omega⟩) hP hK hN (cw_ro (S := S8) (k := 2) (by decide)) rfl rfl hl.1 rfl (Nat.le_of_ble_eq_true rfl) dX2_isAsItWas_50 ⟨Nat.zero_le _, Nat.zero_le _⟩) hS (fun H locs hP hS => ?_)
    refine lv_icmp_ne (tgt := 60) hx hb dX2_isAsItWas_53 (by decide) (fun hc => ?_) (fun hc => ?_)
    · have hf := ifn hf hc
      refine lv_iconst (v := (nI 0)) hx hb dX2_isAsItWas_60 (by decide) ?_
      cases Option.some.inj hf
      exact fin_z hx hb hr hlk hS hP rfl rfl dX2_isAsItWas_61
    · have hf := ifp hf hc
      refine lv_iconst (v := (nI 1)) hx hb dX2_isAsItWas_56 (by decide) ?_
      refine lv_goto (tgt := 61) hx hb dX2_isAsItWas_57 (by decide) ?_
      cases Option.some.inj hf
      exact fin_z hx hb hr hlk hS hP rfl rfl dX2_isAsItWas_61
set_option maxHeartbeats 4000000 in
set_option maxRecDepth 100000 in
theorem c_X2_whyNotReused {l : Launch} {D : va_G} {cyI cyJ cyZ : ClassId} {ad : Nat → Nat} {LK : St → Int32 → Int32 → Option (Int32 × St)} {b : Nat} {rf rl : Nat} (hLK : ∀ (S : St) (p1 p2 : Int32) (r : Int32) (SZ : St), LK S p1 p2 = some (r, SZ) → Met l yX2_look wsX2_look ({ frames := rf, cells := 0, slots := 0, locals := rl }) (PreW D [(cyI, .int), (cyJ, .long), (cyZ, .boolean)] (cw cyI ad S) [.ref (ad (26 + b)), .int p1, .int p2]) (PoI D (cw cyI ad SZ) (CA ad) r) 0 0 (CA ad)) (hAd : AdOK 31 ad) (hb2 : b < 2) {S : St} {p1 : Int32} {p2 : Int32} {r : Int32} {SZ : St} (hf : m_X2_whyNotReused LK b S p1 p2 = some (r, SZ)) : Met l yX2_whyNotReused wsX2_whyNotReused (rl_X2_whyNotReused rf rl) (PreW D [(cyI, .int), (cyJ, .long), (cyZ, .boolean)] (cw cyI ad S) [.ref (ad (26 + b)), .int p1, .int p2]) (PoI D (cw cyI ad SZ) (CA ad) r) 0 0 (CA ad) := by
  refine met_go (cc := cX2_whyNotReused) (maxL := 5) (ret := (some .int)) (by decide) rfl (Nat.le_of_ble_eq_true rfl) ?_
  intro p e s m args below meth c ls hx hb hr hml hts hown hlk hP hK hN hl
  have hown : s.vm.findClass RX2 = some m.cls := hown
  have hS : va_S (CA ad) s.heap s.heap [] := va_S.rf
  have hl : lv_has ls 5 [(0, .ref (ad (26 + b))), (1, .int p1), (2, .int p2)] := hl
  have hin2 : ∀ w ∈ wsX20, w ∈ wsX2_whyNotReused := by decide +kernel
  have hfl29 := hts (.fieldLink RX2 29 "Makewheel$Looker" "kept" "LMakewheel$Rows;") (by decide +kernel)
  have hfl26 := hts (.fieldLink RX2 26 "Makewheel$Looker" "rules" "LMakewheel$Rows;") (by decide +kernel)
  unfold m_X2_whyNotReused at hf
  refine lv_aload_n hx hb dX2_whyNotReused_0 rfl (lv_at hl 0 rfl) ?_
  refine va_get (D := D) (ci := 2) (v := .ref (ad (2 * 2))) (C := RX2) (T := TX2) (N := 10) hx hb hts hin2 hown hK hP (26 + b) (cw_lo (S := S) (b := b) hb2) rfl 2 (by decide) hfl29 (fun _ h9 => h9) rfl dX2_whyNotReused_1 ?_
  refine lv_iload_n hx hb dX2_whyNotReused_4 rfl (lv_at hl 1 rfl) ?_
  refine lv_iconst (v := (nI 1)) hx hb dX2_whyNotReused_5 (by decide) ?_
  obtain ⟨x1, hc6, hf⟩ := zo_k hf
  refine cal_i (rnV (As := [.int p1, .int (nI 1)]) (rest := []) ⟨hx, hb, hml, hown, hts⟩ (c_X4_get hAd (by decide) hc6) (cwV 2 hts gX2_whyNotReused_X4_get rfl rfl rfl cdV_X4_get ⟨by simp only [rl_X2_whyNotReused, rl_X4_get]; omega, by simp only [rl_X2_whyNotReused, rl_X4_get]; omega⟩) hP hK hN (cw_ro (S := S) (k := 2) (by decide)) rfl rfl hl.1 rfl (Nat.le_of_ble_eq_true rfl) dX2_whyNotReused_6 ⟨Nat.zero_le _, Nat.zero_le _⟩) hS (fun H locs hP hS => ?_)
  refine lv_iconst (v := (-1)) hx hb dX2_whyNotReused_9 (by decide) ?_
  refine lv_icmp_ne (tgt := 15) hx hb dX2_whyNotReused_10 (by decide) (fun hc => ?_) (fun hc => ?_)
  · have hf := ifn hf hc
    refine lv_aload_n hx hb dX2_whyNotReused_15 rfl (lv_at hl 0 rfl) ?_
    refine va_get (D := D) (ci := 2) (v := .ref (ad (2 * 2))) (C := RX2) (T := TX2) (N := 10) hx hb hts hin2 hown hK hP (26 + b) (cw_lo (S := S) (b := b) hb2) rfl 2 (by decide) hfl29 (fun _ h9 => h9) rfl dX2_whyNotReused_16 ?_
    refine lv_iload_n hx hb dX2_whyNotReused_19 rfl (lv_at hl 1 rfl) ?_
    refine lv_aload_n hx hb dX2_whyNotReused_20 rfl (lv_at hl 0 rfl) ?_
    refine va_get (D := D) (ci := 2) (v := .ref (ad (2 * 1))) (C := RX2) (T := TX2) (N := 10) hx hb hts hin2 hown hK hP (26 + b) (cw_lo (S := S) (b := b) hb2) rfl 1 (by decide) hfl26 (fun _ h9 => h9) rfl dX2_whyNotReused_21 ?_
    refine lv_iload_n hx hb dX2_whyNotReused_24 rfl (lv_at hl 1 rfl) ?_
    refine lv_iconst (v := (nI 2)) hx hb dX2_whyNotReused_25 (by decide) ?_
    refine lv_idiv hx hb dX2_whyNotReused_26 (by decide) ?_
    refine lv_iconst (v := (nI 0)) hx hb dX2_whyNotReused_27 (by decide) ?_
    refine lv_bipush (v := (nI 13)) hx hb dX2_whyNotReused_28 (by decide) ?_
    obtain ⟨x2, hc30, hf⟩ := zo_k hf
    refine cal_i (rnV (As := [.int p1, .ref (ad (2 * 1)), .int (p1 / (nI 2)), .int (nI 0), .int (nI 13)]) (rest := []) ⟨hx, hb, hml, hown, hts⟩ (c_X4_isSame hAd (by decide) (by decide) hc30) (cwV 5 hts gX2_whyNotReused_X4_isSame rfl rfl rfl cdV_X4_isSame ⟨by simp only [rl_X2_whyNotReused, rl_X4_isSame]; omega, by simp only [rl_X2_whyNotReused, rl_X4_isSame]; omega⟩) hP hK hN (cw_ro (S := S) (k := 2) (by decide)) rfl rfl hl.1 rfl (Nat.le_of_ble_eq_true rfl) dX2_whyNotReused_30 ⟨Nat.zero_le _, Nat.zero_le _⟩) hS (fun H locs hP hS => ?_)
    refine lv_if_ne (tgt := 38) hx hb dX2_whyNotReused_33 (by decide) (fun hc => ?_) (fun hc => ?_)
    · have hf := ifn hf hc
      refine lv_aload_n hx hb dX2_whyNotReused_38 rfl (lv_at hl 0 rfl) ?_
      refine va_get (D := D) (ci := 2) (v := .ref (ad (2 * 2))) (C := RX2) (T := TX2) (N := 10) hx hb hts hin2 hown hK hP (26 + b) (cw_lo (S := S) (b := b) hb2) rfl 2 (by decide) hfl29 (fun _ h9 => h9) rfl dX2_whyNotReused_39 ?_
      refine lv_iload_n hx hb dX2_whyNotReused_42 rfl (lv_at hl 1 rfl) ?_
      refine lv_bipush (v := (nI 14)) hx hb dX2_whyNotReused_43 (by decide) ?_
      obtain ⟨x3, hc45, hf⟩ := zo_k hf
      refine cal_i (rnV (As := [.int p1, .int (nI 14)]) (rest := []) ⟨hx, hb, hml, hown, hts⟩ (c_X4_get hAd (by decide) hc45) (cwV 2 hts gX2_whyNotReused_X4_get rfl rfl rfl cdV_X4_get ⟨by simp only [rl_X2_whyNotReused, rl_X4_get]; omega, by simp only [rl_X2_whyNotReused, rl_X4_get]; omega⟩) hP hK hN (cw_ro (S := S) (k := 2) (by decide)) rfl rfl hl.1 rfl (Nat.le_of_ble_eq_true rfl) dX2_whyNotReused_45 ⟨Nat.zero_le _, Nat.zero_le _⟩) hS (fun H locs hP hS => ?_)
      refine lv_istore_n (lv' := [(3, .int x3), (0, .ref (ad (26 + b))), (1, .int p1), (2, .int p2)]) hx hb dX2_whyNotReused_48 rfl hl (by decide) rfl (fun ls hl => ?_)
      refine lv_iconst (v := (nI 0)) hx hb dX2_whyNotReused_49 (by decide) ?_
      refine lv_istore (lv' := [(4, .int (nI 0)), (3, .int x3), (0, .ref (ad (26 + b))), (1, .int p1), (2, .int p2)]) hx hb dX2_whyNotReused_50 hl (by decide) rfl (fun ls hl => ?_)
      refine zl2_ind (F := (m_X2_whyNotReused_B52 x3 LK b p1 p2)) (R := (r, SZ)) (P := fun S4 x5 => ∀ (H : Heap) (locs : List Loc) (ls : Array Slot), va_P D vwCl (cw cyI ad S4) H → va_S (CA ad) s.heap H locs → lv_has ls 5 [(3, .int x3), (0, .ref (ad (26 + b))), (1, .int p1), (2, .int p2), (4, .int x5)] → W p l e (rl_X2_whyNotReused rf rl) s m args below meth c H locs 0 0 (MQ below (PoI D (cw cyI ad SZ) (CA ad) r) args s 0 0 (CA ad)) (F0 m 52 ls [])) (fun rec52 ih52 S4 x5 hf H locs ls hP hS hl => ?_) FU S (nI 0) hf _ _ _ hP hS (lv_sub hl [1, 2, 3, 4, 0] rfl)
      unfold m_X2_whyNotReused_B52 at hf
      refine lv_iload hx hb dX2_whyNotReused_52 (lv_at hl 4 rfl) ?_
      refine lv_iload_n hx hb dX2_whyNotReused_54 rfl (lv_at hl 0 rfl) ?_
      refine lv_icmp_ge (tgt := 93) hx hb dX2_whyNotReused_55 (by decide) (fun hc => ?_) (fun hc => ?_)
      · have hf := ifp hf hc
        refine lv_iconst (v := (nI 0)) hx hb dX2_whyNotReused_93 (by decide) ?_
        cases Option.some.inj hf
        exact fin_i hx hb hr hlk hS hP rfl dX2_whyNotReused_94
      · have hf := ifn hf hc
        refine lv_iload hx hb dX2_whyNotReused_58 (lv_at hl 4 rfl) ?_
        refine lv_iconst (v := (nI 5)) hx hb dX2_whyNotReused_60 (by decide) ?_
        refine lv_icmp_ge (tgt := 93) hx hb dX2_whyNotReused_61 (by decide) (fun hc => ?_) (fun hc => ?_)
        · have hf := ifp hf hc
          refine lv_iconst (v := (nI 0)) hx hb dX2_whyNotReused_93 (by decide) ?_
          cases Option.some.inj hf
          exact fin_i hx hb hr hlk hS hP rfl dX2_whyNotReused_94
        · have hf := ifn hf hc
          refine lv_aload_n hx hb dX2_whyNotReused_64 rfl (lv_at hl 1 rfl) ?_
          refine lv_iload_n hx hb dX2_whyNotReused_65 rfl (lv_at hl 2 rfl) ?_
          refine lv_bipush (v := (nI 15)) hx hb dX2_whyNotReused_66 (by decide) ?_
          refine lv_iload hx hb dX2_whyNotReused_68 (lv_at hl 4 rfl) ?_
          refine lv_bipush (v := (nI 7)) hx hb dX2_whyNotReused_70 (by decide) ?_
          refine lv_imul hx hb dX2_whyNotReused_72 ?_
          refine lv_iadd hx hb dX2_whyNotReused_73 ?_
          refine lv_iload_n hx hb dX2_whyNotReused_74 rfl (lv_at hl 3 rfl) ?_
          obtain ⟨x6, S7, hc75, hf⟩ := zo2_k hf
          refine cal_i (rnV (As := [.int p1, .int ((nI 15) + (x5 * (nI 7))), .int p2]) (rest := []) ⟨hx, hb, hml, hown, hts⟩ (c_X2_isAsItWas hLK hAd hb2 hc75) (cwV 3 hts gX2_whyNotReused_X2_isAsItWas rfl rfl rfl cdV_X2_isAsItWas ⟨by simp only [rl_X2_whyNotReused, rl_X2_isAsItWas]; omega, by simp only [rl_X2_whyNotReused, rl_X2_isAsItWas]; omega⟩) hP hK hN (cw_lo (S := S4) (b := b) hb2) rfl rfl hl.1 rfl (Nat.le_of_ble_eq_true rfl) dX2_whyNotReused_75 ⟨Nat.zero_le _, Nat.zero_le _⟩) hS (fun H locs hP hS => ?_)
          refine lv_if_ne (tgt := 87) hx hb dX2_whyNotReused_78 (by decide) (fun hc => ?_) (fun hc => ?_)
          · have hf := ifn hf hc
            obtain ⟨x8, ex8, hf⟩ := zb_k hf
            refine lv_iinc (v := x8) (lv' := [(4, .int x8), (3, .int x3), (0, .ref (ad (26 + b))), (1, .int p1), (2, .int p2)]) hx hb dX2_whyNotReused_87 hl (k := 4) rfl (by rw [ex8]; rfl) (by decide) rfl (fun ls hl => ?_)
            refine lv_goto (tgt := 52) hx hb dX2_whyNotReused_90 (by decide) ?_
            exact ih52 S7 x8 hf _ _ _ hP hS (lv_sub hl [1, 2, 3, 4, 0] rfl)
          · have hf := ifp hf hc
            refine lv_bipush (v := (nI 10)) hx hb dX2_whyNotReused_81 (by decide) ?_
            refine lv_iload hx hb dX2_whyNotReused_83 (lv_at hl 4 rfl) ?_
            refine lv_iadd hx hb dX2_whyNotReused_85 ?_
            cases Option.some.inj hf
            exact fin_i hx hb hr hlk hS hP rfl dX2_whyNotReused_86
    · have hf := ifp hf hc
      refine lv_iconst (v := (nI 2)) hx hb dX2_whyNotReused_36 (by decide) ?_
      cases Option.some.inj hf
      exact fin_i hx hb hr hlk hS hP rfl dX2_whyNotReused_37
  · have hf := ifp hf hc
    refine lv_iconst (v := (nI 1)) hx hb dX2_whyNotReused_13 (by decide) ?_
    cases Option.some.inj hf
    exact fin_i hx hb hr hlk hS hP rfl dX2_whyNotReused_14
set_option maxHeartbeats 4000000 in
set_option maxRecDepth 100000 in
theorem c_X2_read {l : Launch} {D : va_G} {cyI cyJ cyZ : ClassId} {ad : Nat → Nat} {LK : St → Int32 → Int32 → Option (Int32 × St)} {b : Nat} {rf rl : Nat} (hLK : ∀ (S : St) (p1 p2 : Int32) (r : Int32) (SZ : St), LK S p1 p2 = some (r, SZ) → Met l yX2_look wsX2_look ({ frames := rf, cells := 0, slots := 0, locals := rl }) (PreW D [(cyI, .int), (cyJ, .long), (cyZ, .boolean)] (cw cyI ad S) [.ref (ad (26 + b)), .int p1, .int p2]) (PoI D (cw cyI ad SZ) (CA ad) r) 0 0 (CA ad)) (hAd : AdOK 31 ad) (hb2 : b < 2) {S : St} {p1 : Int32} {p2 : Int32} {p3 : Int32} {p4 : Int32} {r : Int32} {SZ : St} (hf : m_X2_read LK b S p1 p2 p3 p4 = some (r, SZ)) : Met l yX2_read wsX2_read (rl_X2_read rf rl) (PreW D [(cyI, .int), (cyJ, .long), (cyZ, .boolean)] (cw cyI ad S) [.ref (ad (26 + b)), .int p1, .int p2, .int p3, .int p4]) (PoI D (cw cyI ad SZ) (CA ad) r) 0 0 (CA ad) := by
  refine met_go (cc := cX2_read) (maxL := 8) (ret := (some .int)) (by decide) rfl (Nat.le_of_ble_eq_true rfl) ?_
  intro p e s m args below meth c ls hx hb hr hml hts hown hlk hP hK hN hl
  have hown : s.vm.findClass RX2 = some m.cls := hown
  have hS : va_S (CA ad) s.heap s.heap [] := va_S.rf
  have hl : lv_has ls 8 [(0, .ref (ad (26 + b))), (1, .int p1), (2, .int p2), (3, .int p3), (4, .int p4)] := hl
  have hin2 : ∀ w ∈ wsX20, w ∈ wsX2_read := by decide +kernel
  have hfl20 := hts (.fieldLink RX2 20 "Makewheel$Looker" "fresh" "LMakewheel$Rows;") (by decide +kernel)
  have hfl23 := hts (.fieldLink RX2 23 "Makewheel$Looker" "files" "LMakewheel$Rows;") (by decide +kernel)
  unfold m_X2_read at hf
  refine lv_aload_n hx hb dX2_read_0 rfl (lv_at hl 0 rfl) ?_
  refine va_get (D := D) (ci := 2) (v := .ref (ad (2 * (9 + 2 * b)))) (C := RX2) (T := TX2) (N := 10) hx hb hts hin2 hown hK hP (26 + b) (cw_lo (S := S) (b := b) hb2) rfl 7 (by decide) hfl20 (fun _ h9 => h9) rfl dX2_read_1 ?_
  refine lv_iload_n hx hb dX2_read_4 rfl (lv_at hl 1 rfl) ?_
  refine lv_bipush (v := (nI 14)) hx hb dX2_read_5 (by decide) ?_
  obtain ⟨x1, hc7, hf⟩ := zo_k hf
  refine cal_i (rnV (As := [.int p1, .int (nI 14)]) (rest := []) ⟨hx, hb, hml, hown, hts⟩ (c_X4_get hAd (by omega) hc7) (cwV 2 hts gX2_read_X4_get rfl rfl rfl cdV_X4_get ⟨by simp only [rl_X2_read, rl_X4_get]; omega, by simp only [rl_X2_read, rl_X4_get]; omega⟩) hP hK hN (cw_ro (S := S) (k := (9 + 2 * b)) (by omega)) rfl rfl hl.1 rfl (Nat.le_of_ble_eq_true rfl) dX2_read_7 ⟨Nat.zero_le _, Nat.zero_le _⟩) hS (fun H locs hP hS => ?_)
  refine lv_istore (lv' := [(5, .int x1), (0, .ref (ad (26 + b))), (1, .int p1), (2, .int p2), (3, .int p3), (4, .int p4)]) hx hb dX2_read_10 hl (by decide) rfl (fun ls hl => ?_)
  refine lv_bipush (v := (nI 15)) hx hb dX2_read_12 (by decide) ?_
  refine lv_iload hx hb dX2_read_14 (lv_at hl 0 rfl) ?_
  refine lv_bipush (v := (nI 7)) hx hb dX2_read_16 (by decide) ?_
  refine lv_imul hx hb dX2_read_18 ?_
  refine lv_iadd hx hb dX2_read_19 ?_
  refine lv_topi (fun x2 ex2 => ?_)
  have hf := zb_x hf ex2
  refine lv_istore (lv' := [(6, .int x2), (5, .int x1), (0, .ref (ad (26 + b))), (1, .int p1), (2, .int p2), (3, .int p3), (4, .int p4)]) hx hb dX2_read_20 hl (by decide) rfl (fun ls hl => ?_)
  refine lv_aload_n hx hb dX2_read_22 rfl (lv_at hl 2 rfl) ?_
  refine va_get (D := D) (ci := 2) (v := .ref (ad (2 * (9 + 2 * b)))) (C := RX2) (T := TX2) (N := 10) hx hb hts hin2 hown hK hP (26 + b) (cw_lo (S := S) (b := b) hb2) rfl 7 (by decide) hfl20 (fun _ h9 => h9) rfl dX2_read_23 ?_
  refine lv_iload_n hx hb dX2_read_26 rfl (lv_at hl 3 rfl) ?_
  refine lv_bipush (v := (nI 14)) hx hb dX2_read_27 (by decide) ?_
  refine lv_iload hx hb dX2_read_29 (lv_at hl 1 rfl) ?_
  refine lv_iconst (v := (nI 1)) hx hb dX2_read_31 (by decide) ?_
  refine lv_iadd hx hb dX2_read_32 ?_
  obtain ⟨S3, hc33, hf⟩ := zo_k hf
  refine cal_v (rnV (As := [.int p1, .int (nI 14), .int (x1 + (nI 1))]) (rest := []) ⟨hx, hb, hml, hown, hts⟩ (c_X4_set hAd (by omega) hc33) (cwV 3 hts gX2_read_X4_set rfl rfl rfl cdV_X4_set ⟨by simp only [rl_X2_read, rl_X4_set]; omega, by simp only [rl_X2_read, rl_X4_set]; omega⟩) hP hK hN (cw_ro (S := S) (k := (9 + 2 * b)) (by omega)) rfl rfl hl.1 rfl (Nat.le_of_ble_eq_true rfl) dX2_read_33 ⟨Nat.zero_le _, Nat.zero_le _⟩) hS (fun H locs hP hS => ?_)
  refine lv_aload_n hx hb dX2_read_36 rfl (lv_at hl 2 rfl) ?_
  refine va_get (D := D) (ci := 2) (v := .ref (ad (2 * (9 + 2 * b)))) (C := RX2) (T := TX2) (N := 10) hx hb hts hin2 hown hK hP (26 + b) (cw_lo (S := S3) (b := b) hb2) rfl 7 (by decide) hfl20 (fun _ h9 => h9) rfl dX2_read_37 ?_
  refine lv_iload_n hx hb dX2_read_40 rfl (lv_at hl 3 rfl) ?_
  refine lv_iload hx hb dX2_read_41 (lv_at hl 0 rfl) ?_
  refine lv_iconst (v := (nI 0)) hx hb dX2_read_43 (by decide) ?_
  refine lv_iadd hx hb dX2_read_44 ?_
  refine lv_iload_n hx hb dX2_read_45 rfl (lv_at hl 4 rfl) ?_
  obtain ⟨S4, hc46, hf⟩ := zo_k hf
  refine cal_v (rnV (As := [.int p1, .int (x2 + (nI 0)), .int p2]) (rest := []) ⟨hx, hb, hml, hown, hts⟩ (c_X4_set hAd (by omega) hc46) (cwV 3 hts gX2_read_X4_set rfl rfl rfl cdV_X4_set ⟨by simp only [rl_X2_read, rl_X4_set]; omega, by simp only [rl_X2_read, rl_X4_set]; omega⟩) hP hK hN (cw_ro (S := S3) (k := (9 + 2 * b)) (by omega)) rfl rfl hl.1 rfl (Nat.le_of_ble_eq_true rfl) dX2_read_46 ⟨Nat.zero_le _, Nat.zero_le _⟩) hS (fun H locs hP hS => ?_)
  refine lv_aload_n hx hb dX2_read_49 rfl (lv_at hl 2 rfl) ?_
  refine va_get (D := D) (ci := 2) (v := .ref (ad (2 * (9 + 2 * b)))) (C := RX2) (T := TX2) (N := 10) hx hb hts hin2 hown hK hP (26 + b) (cw_lo (S := S4) (b := b) hb2) rfl 7 (by decide) hfl20 (fun _ h9 => h9) rfl dX2_read_50 ?_
  refine lv_iload_n hx hb dX2_read_53 rfl (lv_at hl 3 rfl) ?_
  refine lv_iload hx hb dX2_read_54 (lv_at hl 0 rfl) ?_
  refine lv_iconst (v := (nI 1)) hx hb dX2_read_56 (by decide) ?_
  refine lv_iadd hx hb dX2_read_57 ?_
  refine lv_iload_n hx hb dX2_read_58 rfl (lv_at hl 5 rfl) ?_
  obtain ⟨S5, hc59, hf⟩ := zo_k hf
  refine cal_v (rnV (As := [.int p1, .int (x2 + (nI 1)), .int p3]) (rest := []) ⟨hx, hb, hml, hown, hts⟩ (c_X4_set hAd (by omega) hc59) (cwV 3 hts gX2_read_X4_set rfl rfl rfl cdV_X4_set ⟨by simp only [rl_X2_read, rl_X4_set]; omega, by simp only [rl_X2_read, rl_X4_set]; omega⟩) hP hK hN (cw_ro (S := S4) (k := (9 + 2 * b)) (by omega)) rfl rfl hl.1 rfl (Nat.le_of_ble_eq_true rfl) dX2_read_59 ⟨Nat.zero_le _, Nat.zero_le _⟩) hS (fun H locs hP hS => ?_)
  refine lv_iload_n hx hb dX2_read_62 rfl (lv_at hl 4 rfl) ?_
  refine lv_iconst (v := (nI 1)) hx hb dX2_read_63 (by decide) ?_
  refine lv_icmp_eq (tgt := 105) hx hb dX2_read_64 (by decide) (fun hc => ?_) (fun hc => ?_)
  · have hf := ifp hf hc
    refine lv_iconst (v := (nI 0)) hx hb dX2_read_105 (by decide) ?_
    refine lv_istore (lv' := [(7, .int (nI 0)), (6, .int x2), (5, .int x1), (0, .ref (ad (26 + b))), (1, .int p1), (2, .int p2), (3, .int p3), (4, .int p4)]) hx hb dX2_read_106 hl (by decide) rfl (fun ls hl => ?_)
    refine zl2_ind (F := (m_X2_read_B108 p3 b p1 x2)) (R := (r, SZ)) (P := fun S6 x7 => ∀ (H : Heap) (locs : List Loc) (ls : Array Slot), va_P D vwCl (cw cyI ad S6) H → va_S (CA ad) s.heap H locs → lv_has ls 8 [(6, .int x2), (0, .ref (ad (26 + b))), (1, .int p1), (3, .int p3), (7, .int x7)] → W p l e (rl_X2_read rf rl) s m args below meth c H locs 0 0 (MQ below (PoI D (cw cyI ad SZ) (CA ad) r) args s 0 0 (CA ad)) (F0 m 108 ls [])) (fun rec108 ih108 S6 x7 hf H locs ls hP hS hl => ?_) FU S5 (nI 0) hf _ _ _ hP hS (lv_sub hl [1, 3, 4, 6, 0] rfl)
    unfold m_X2_read_B108 at hf
    refine lv_iload hx hb dX2_read_108 (lv_at hl 4 rfl) ?_
    refine lv_iconst (v := (nI 5)) hx hb dX2_read_110 (by decide) ?_
    refine lv_icmp_ge (tgt := 145) hx hb dX2_read_111 (by decide) (fun hc => ?_) (fun hc => ?_)
    · have hf := ifp hf hc
      refine lv_iconst (v := (nI 0)) hx hb dX2_read_145 (by decide) ?_
      cases Option.some.inj hf
      exact fin_i hx hb hr hlk hS hP rfl dX2_read_146
    · have hf := ifn hf hc
      refine lv_aload_n hx hb dX2_read_114 rfl (lv_at hl 1 rfl) ?_
      refine va_get (D := D) (ci := 2) (v := .ref (ad (2 * (9 + 2 * b)))) (C := RX2) (T := TX2) (N := 10) hx hb hts hin2 hown hK hP (26 + b) (cw_lo (S := S6) (b := b) hb2) rfl 7 (by decide) hfl20 (fun _ h9 => h9) rfl dX2_read_115 ?_
      refine lv_iload_n hx hb dX2_read_118 rfl (lv_at hl 2 rfl) ?_
      refine lv_iload hx hb dX2_read_119 (lv_at hl 0 rfl) ?_
      refine lv_iconst (v := (nI 2)) hx hb dX2_read_121 (by decide) ?_
      refine lv_iadd hx hb dX2_read_122 ?_
      refine lv_iload hx hb dX2_read_123 (lv_at hl 4 rfl) ?_
      refine lv_iadd hx hb dX2_read_125 ?_
      refine lv_aload_n hx hb dX2_read_126 rfl (lv_at hl 1 rfl) ?_
      refine va_get (D := D) (ci := 2) (v := .ref (ad (2 * 0))) (C := RX2) (T := TX2) (N := 10) hx hb hts hin2 hown hK hP (26 + b) (cw_lo (S := S6) (b := b) hb2) rfl 0 (by decide) hfl23 (fun _ h9 => h9) rfl dX2_read_127 ?_
      refine lv_iload_n hx hb dX2_read_130 rfl (lv_at hl 3 rfl) ?_
      refine lv_iload hx hb dX2_read_131 (lv_at hl 4 rfl) ?_
      obtain ⟨x8, hc133, hf⟩ := zo_k hf
      refine cal_i (rnV (As := [.int p3, .int x7]) (rest := [.int ((x2 + (nI 2)) + x7), .int p1, .ref (ad (2 * (9 + 2 * b)))]) ⟨hx, hb, hml, hown, hts⟩ (c_X4_get hAd (by decide) hc133) (cwV 2 hts gX2_read_X4_get rfl rfl rfl cdV_X4_get ⟨by simp only [rl_X2_read, rl_X4_get]; omega, by simp only [rl_X2_read, rl_X4_get]; omega⟩) hP hK hN (cw_ro (S := S6) (k := 0) (by decide)) rfl rfl hl.1 rfl (Nat.le_of_ble_eq_true rfl) dX2_read_133 ⟨Nat.zero_le _, Nat.zero_le _⟩) hS (fun H locs hP hS => ?_)
      obtain ⟨S9, hc136, hf⟩ := zo_k hf
      refine cal_v (rnV (As := [.int p1, .int ((x2 + (nI 2)) + x7), .int x8]) (rest := []) ⟨hx, hb, hml, hown, hts⟩ (c_X4_set hAd (by omega) hc136) (cwV 3 hts gX2_read_X4_set rfl rfl rfl cdV_X4_set ⟨by simp only [rl_X2_read, rl_X4_set]; omega, by simp only [rl_X2_read, rl_X4_set]; omega⟩) hP hK hN (cw_ro (S := S6) (k := (9 + 2 * b)) (by omega)) rfl rfl hl.1 rfl (Nat.le_of_ble_eq_true rfl) dX2_read_136 ⟨Nat.zero_le _, Nat.zero_le _⟩) hS (fun H locs hP hS => ?_)
      obtain ⟨x10, ex10, hf⟩ := zb_k hf
      refine lv_iinc (v := x10) (lv' := [(7, .int x10), (6, .int x2), (0, .ref (ad (26 + b))), (1, .int p1), (3, .int p3)]) hx hb dX2_read_139 hl (k := 4) rfl (by rw [ex10]; rfl) (by decide) rfl (fun ls hl => ?_)
      refine lv_goto (tgt := 108) hx hb dX2_read_142 (by decide) ?_
      exact ih108 S9 x10 hf _ _ _ hP hS (lv_sub hl [1, 2, 3, 4, 0] rfl)
  · have hf := ifn hf hc
    refine lv_aload_n hx hb dX2_read_67 rfl (lv_at hl 2 rfl) ?_
    refine lv_iload_n hx hb dX2_read_68 rfl (lv_at hl 3 rfl) ?_
    refine lv_iload_n hx hb dX2_read_69 rfl (lv_at hl 4 rfl) ?_
    refine lv_iload_n hx hb dX2_read_70 rfl (lv_at hl 5 rfl) ?_
    refine lv_iload hx hb dX2_read_71 (lv_at hl 6 rfl) ?_
    obtain ⟨x11, S12, hc73, hf⟩ := zo2_k hf
    refine cal_i (rnV (As := [.int p1, .int p2, .int p3, .int p4]) (rest := []) ⟨hx, hb, hml, hown, hts⟩ (c_X2_valueNow hLK hAd hb2 hc73) (cwV 4 hts gX2_read_X2_valueNow rfl rfl rfl cdV_X2_valueNow ⟨by simp only [rl_X2_read, rl_X2_valueNow]; omega, by simp only [rl_X2_read, rl_X2_valueNow]; omega⟩) hP hK hN (cw_lo (S := S5) (b := b) hb2) rfl rfl hl.1 rfl (Nat.le_of_ble_eq_true rfl) dX2_read_73 ⟨Nat.zero_le _, Nat.zero_le _⟩) hS (fun H locs hP hS => ?_)
    refine lv_istore (lv' := [(7, .int x11), (6, .int x2), (5, .int x1), (0, .ref (ad (26 + b))), (1, .int p1), (2, .int p2), (3, .int p3), (4, .int p4)]) hx hb dX2_read_76 hl (by decide) rfl (fun ls hl => ?_)
    refine lv_aload_n hx hb dX2_read_78 rfl (lv_at hl 3 rfl) ?_
    refine va_get (D := D) (ci := 2) (v := .ref (ad (2 * (9 + 2 * b)))) (C := RX2) (T := TX2) (N := 10) hx hb hts hin2 hown hK hP (26 + b) (cw_lo (S := S12) (b := b) hb2) rfl 7 (by decide) hfl20 (fun _ h9 => h9) rfl dX2_read_79 ?_
    refine lv_iload_n hx hb dX2_read_82 rfl (lv_at hl 4 rfl) ?_
    refine lv_iload hx hb dX2_read_83 (lv_at hl 1 rfl) ?_
    refine lv_iconst (v := (nI 2)) hx hb dX2_read_85 (by decide) ?_
    refine lv_iadd hx hb dX2_read_86 ?_
    refine lv_iload hx hb dX2_read_87 (lv_at hl 0 rfl) ?_
    obtain ⟨S13, hc89, hf⟩ := zo_k hf
    refine cal_v (rnV (As := [.int p1, .int (x2 + (nI 2)), .int x11]) (rest := []) ⟨hx, hb, hml, hown, hts⟩ (c_X4_set hAd (by omega) hc89) (cwV 3 hts gX2_read_X4_set rfl rfl rfl cdV_X4_set ⟨by simp only [rl_X2_read, rl_X4_set]; omega, by simp only [rl_X2_read, rl_X4_set]; omega⟩) hP hK hN (cw_ro (S := S12) (k := (9 + 2 * b)) (by omega)) rfl rfl hl.1 rfl (Nat.le_of_ble_eq_true rfl) dX2_read_89 ⟨Nat.zero_le _, Nat.zero_le _⟩) hS (fun H locs hP hS => ?_)
    refine lv_iload hx hb dX2_read_92 (lv_at hl 0 rfl) ?_
    refine lv_iconst (v := (-1)) hx hb dX2_read_94 (by decide) ?_
    refine lv_icmp_ge (tgt := 103) hx hb dX2_read_95 (by decide) (fun hc => ?_) (fun hc => ?_)
    · have hf := ifp hf hc
      refine lv_iconst (v := (nI 0)) hx hb dX2_read_103 (by decide) ?_
      cases Option.some.inj hf
      exact fin_i hx hb hr hlk hS hP rfl dX2_read_104
    · have hf := ifn hf hc
      refine lv_iload hx hb dX2_read_98 (lv_at hl 0 rfl) ?_
      refine lv_goto (tgt := 104) hx hb dX2_read_100 (by decide) ?_
      cases Option.some.inj hf
      exact fin_i hx hb hr hlk hS hP rfl dX2_read_104
set_option maxHeartbeats 4000000 in
set_option maxRecDepth 100000 in
theorem c_X2_readInputs {l : Launch} {D : va_G} {cyI cyJ cyZ : ClassId} {ad : Nat → Nat} {LK : St → Int32 → Int32 → Option (Int32 × St)} {b : Nat} {rf rl : Nat} (hLK : ∀ (S : St) (p1 p2 : Int32) (r : Int32) (SZ : St), LK S p1 p2 = some (r, SZ) → Met l yX2_look wsX2_look ({ frames := rf, cells := 0, slots := 0, locals := rl }) (PreW D [(cyI, .int), (cyJ, .long), (cyZ, .boolean)] (cw cyI ad S) [.ref (ad (26 + b)), .int p1, .int p2]) (PoI D (cw cyI ad SZ) (CA ad) r) 0 0 (CA ad)) (hAd : AdOK 31 ad) (hb2 : b < 2) {S : St} {p1 : Int32} {p2 : Int32} {r : Int32} {SZ : St} (hf : m_X2_readInputs LK b S p1 p2 = some (r, SZ)) : Met l yX2_readInputs wsX2_readInputs (rl_X2_readInputs rf rl) (PreW D [(cyI, .int), (cyJ, .long), (cyZ, .boolean)] (cw cyI ad S) [.ref (ad (26 + b)), .int p1, .int p2]) (PoI D (cw cyI ad SZ) (CA ad) r) 0 0 (CA ad) := by
  refine met_go (cc := cX2_readInputs) (maxL := 11) (ret := (some .int)) (by decide) rfl (Nat.le_of_ble_eq_true rfl) ?_
  intro p e s m args below meth c ls hx hb hr hml hts hown hlk hP hK hN hl
  have hown : s.vm.findClass RX2 = some m.cls := hown
  have hS : va_S (CA ad) s.heap s.heap [] := va_S.rf
  have hl : lv_has ls 11 [(0, .ref (ad (26 + b))), (1, .int p1), (2, .int p2)] := hl
  have hin2 : ∀ w ∈ wsX20, w ∈ wsX2_readInputs := by decide +kernel
  have hfl20 := hts (.fieldLink RX2 20 "Makewheel$Looker" "fresh" "LMakewheel$Rows;") (by decide +kernel)
  have hfl26 := hts (.fieldLink RX2 26 "Makewheel$Looker" "rules" "LMakewheel$Rows;") (by decide +kernel)
  unfold m_X2_readInputs at hf
  refine lv_aload_n hx hb dX2_readInputs_0 rfl (lv_at hl 0 rfl) ?_
  refine va_get (D := D) (ci := 2) (v := .ref (ad (2 * (9 + 2 * b)))) (C := RX2) (T := TX2) (N := 10) hx hb hts hin2 hown hK hP (26 + b) (cw_lo (S := S) (b := b) hb2) rfl 7 (by decide) hfl20 (fun _ h9 => h9) rfl dX2_readInputs_1 ?_
  refine lv_iload_n hx hb dX2_readInputs_4 rfl (lv_at hl 1 rfl) ?_
  obtain ⟨S1, hc5, hf⟩ := zo_k hf
  refine cal_v (rnV (As := [.int p1]) (rest := []) ⟨hx, hb, hml, hown, hts⟩ (c_X4_clear hAd (by omega) hc5) (cwV 1 hts gX2_readInputs_X4_clear rfl rfl rfl cdV_X4_clear ⟨by simp only [rl_X2_readInputs, rl_X4_clear]; omega, by simp only [rl_X2_readInputs, rl_X4_clear]; omega⟩) hP hK hN (cw_ro (S := S) (k := (9 + 2 * b)) (by omega)) rfl rfl hl.1 rfl (Nat.le_of_ble_eq_true rfl) dX2_readInputs_5 ⟨Nat.zero_le _, Nat.zero_le _⟩) hS (fun H locs hP hS => ?_)
  refine lv_aload_n hx hb dX2_readInputs_8 rfl (lv_at hl 0 rfl) ?_
  refine va_get (D := D) (ci := 2) (v := .ref (ad (2 * (9 + 2 * b)))) (C := RX2) (T := TX2) (N := 10) hx hb hts hin2 hown hK hP (26 + b) (cw_lo (S := S1) (b := b) hb2) rfl 7 (by decide) hfl20 (fun _ h9 => h9) rfl dX2_readInputs_9 ?_
  refine lv_iload_n hx hb dX2_readInputs_12 rfl (lv_at hl 1 rfl) ?_
  refine lv_aload_n hx hb dX2_readInputs_13 rfl (lv_at hl 0 rfl) ?_
  refine va_get (D := D) (ci := 2) (v := .ref (ad (2 * 1))) (C := RX2) (T := TX2) (N := 10) hx hb hts hin2 hown hK hP (26 + b) (cw_lo (S := S1) (b := b) hb2) rfl 1 (by decide) hfl26 (fun _ h9 => h9) rfl dX2_readInputs_14 ?_
  refine lv_iload_n hx hb dX2_readInputs_17 rfl (lv_at hl 1 rfl) ?_
  refine lv_iconst (v := (nI 2)) hx hb dX2_readInputs_18 (by decide) ?_
  refine lv_idiv hx hb dX2_readInputs_19 (by decide) ?_
  obtain ⟨S2, hc20, hf⟩ := zo_k hf
  refine cal_v (rnV (As := [.int p1, .ref (ad (2 * 1)), .int (p1 / (nI 2))]) (rest := []) ⟨hx, hb, hml, hown, hts⟩ (c_X4_copy hAd (by omega) (by decide) hc20) (cwV 3 hts gX2_readInputs_X4_copy rfl rfl rfl cdV_X4_copy ⟨by simp only [rl_X2_readInputs, rl_X4_copy]; omega, by simp only [rl_X2_readInputs, rl_X4_copy]; omega⟩) hP hK hN (cw_ro (S := S1) (k := (9 + 2 * b)) (by omega)) rfl rfl hl.1 rfl (Nat.le_of_ble_eq_true rfl) dX2_readInputs_20 ⟨Nat.zero_le _, Nat.zero_le _⟩) hS (fun H locs hP hS => ?_)
  refine lv_aload_n hx hb dX2_readInputs_23 rfl (lv_at hl 0 rfl) ?_
  refine va_get (D := D) (ci := 2) (v := .ref (ad (2 * (9 + 2 * b)))) (C := RX2) (T := TX2) (N := 10) hx hb hts hin2 hown hK hP (26 + b) (cw_lo (S := S2) (b := b) hb2) rfl 7 (by decide) hfl20 (fun _ h9 => h9) rfl dX2_readInputs_24 ?_
  refine lv_iload_n hx hb dX2_readInputs_27 rfl (lv_at hl 1 rfl) ?_
  refine lv_iconst (v := (nI 1)) hx hb dX2_readInputs_28 (by decide) ?_
  obtain ⟨x3, hc29, hf⟩ := zo_k hf
  refine cal_i (rnV (As := [.int p1, .int (nI 1)]) (rest := []) ⟨hx, hb, hml, hown, hts⟩ (c_X4_get hAd (by omega) hc29) (cwV 2 hts gX2_readInputs_X4_get rfl rfl rfl cdV_X4_get ⟨by simp only [rl_X2_readInputs, rl_X4_get]; omega, by simp only [rl_X2_readInputs, rl_X4_get]; omega⟩) hP hK hN (cw_ro (S := S2) (k := (9 + 2 * b)) (by omega)) rfl rfl hl.1 rfl (Nat.le_of_ble_eq_true rfl) dX2_readInputs_29 ⟨Nat.zero_le _, Nat.zero_le _⟩) hS (fun H locs hP hS => ?_)
  refine lv_istore_n (lv' := [(3, .int x3), (0, .ref (ad (26 + b))), (1, .int p1), (2, .int p2)]) hx hb dX2_readInputs_32 rfl hl (by decide) rfl (fun ls hl => ?_)
  refine lv_iload_n hx hb dX2_readInputs_33 rfl (lv_at hl 0 rfl) ?_
  refine lv_iconst (v := (-1)) hx hb dX2_readInputs_34 (by decide) ?_
  refine lv_icmp_ne (tgt := 41) hx hb dX2_readInputs_35 (by decide) (fun hc => ?_) (fun hc => ?_)
  · have hf := ifn hf hc
    refine lv_iload_n hx hb dX2_readInputs_41 rfl (lv_at hl 2 rfl) ?_
    refine lv_iconst (v := (nI 2)) hx hb dX2_readInputs_42 (by decide) ?_
    refine lv_irem hx hb dX2_readInputs_43 (by decide) ?_
    refine lv_topi (fun x4 ex4 => ?_)
    have hf := zb_x hf ex4
    refine lv_istore (lv' := [(4, .int x4), (3, .int x3), (0, .ref (ad (26 + b))), (1, .int p1), (2, .int p2)]) hx hb dX2_readInputs_44 hl (by decide) rfl (fun ls hl => ?_)
    refine lv_aload_n hx hb dX2_readInputs_46 rfl (lv_at hl 2 rfl) ?_
    refine va_get (D := D) (ci := 2) (v := .ref (ad (2 * (9 + 2 * b)))) (C := RX2) (T := TX2) (N := 10) hx hb hts hin2 hown hK hP (26 + b) (cw_lo (S := S2) (b := b) hb2) rfl 7 (by decide) hfl20 (fun _ h9 => h9) rfl dX2_readInputs_47 ?_
    refine lv_iload_n hx hb dX2_readInputs_50 rfl (lv_at hl 3 rfl) ?_
    refine lv_bipush (v := (nI 13)) hx hb dX2_readInputs_51 (by decide) ?_
    refine lv_iload hx hb dX2_readInputs_53 (lv_at hl 0 rfl) ?_
    obtain ⟨S5, hc55, hf⟩ := zo_k hf
    refine cal_v (rnV (As := [.int p1, .int (nI 13), .int x4]) (rest := []) ⟨hx, hb, hml, hown, hts⟩ (c_X4_set hAd (by omega) hc55) (cwV 3 hts gX2_readInputs_X4_set rfl rfl rfl cdV_X4_set ⟨by simp only [rl_X2_readInputs, rl_X4_set]; omega, by simp only [rl_X2_readInputs, rl_X4_set]; omega⟩) hP hK hN (cw_ro (S := S2) (k := (9 + 2 * b)) (by omega)) rfl rfl hl.1 rfl (Nat.le_of_ble_eq_true rfl) dX2_readInputs_55 ⟨Nat.zero_le _, Nat.zero_le _⟩) hS (fun H locs hP hS => ?_)
    refine lv_aload_n hx hb dX2_readInputs_58 rfl (lv_at hl 2 rfl) ?_
    refine va_get (D := D) (ci := 2) (v := .ref (ad (2 * (9 + 2 * b)))) (C := RX2) (T := TX2) (N := 10) hx hb hts hin2 hown hK hP (26 + b) (cw_lo (S := S5) (b := b) hb2) rfl 7 (by decide) hfl20 (fun _ h9 => h9) rfl dX2_readInputs_59 ?_
    refine lv_iload_n hx hb dX2_readInputs_62 rfl (lv_at hl 3 rfl) ?_
    refine lv_bipush (v := (nI 14)) hx hb dX2_readInputs_63 (by decide) ?_
    refine lv_iconst (v := (nI 0)) hx hb dX2_readInputs_65 (by decide) ?_
    obtain ⟨S6, hc66, hf⟩ := zo_k hf
    refine cal_v (rnV (As := [.int p1, .int (nI 14), .int (nI 0)]) (rest := []) ⟨hx, hb, hml, hown, hts⟩ (c_X4_set hAd (by omega) hc66) (cwV 3 hts gX2_readInputs_X4_set rfl rfl rfl cdV_X4_set ⟨by simp only [rl_X2_readInputs, rl_X4_set]; omega, by simp only [rl_X2_readInputs, rl_X4_set]; omega⟩) hP hK hN (cw_ro (S := S5) (k := (9 + 2 * b)) (by omega)) rfl rfl hl.1 rfl (Nat.le_of_ble_eq_true rfl) dX2_readInputs_66 ⟨Nat.zero_le _, Nat.zero_le _⟩) hS (fun H locs hP hS => ?_)
    refine lv_aload_n hx hb dX2_readInputs_69 rfl (lv_at hl 2 rfl) ?_
    refine va_get (D := D) (ci := 2) (v := .ref (ad (2 * (9 + 2 * b)))) (C := RX2) (T := TX2) (N := 10) hx hb hts hin2 hown hK hP (26 + b) (cw_lo (S := S6) (b := b) hb2) rfl 7 (by decide) hfl20 (fun _ h9 => h9) rfl dX2_readInputs_70 ?_
    refine lv_iload_n hx hb dX2_readInputs_73 rfl (lv_at hl 3 rfl) ?_
    refine lv_iconst (v := (nI 4)) hx hb dX2_readInputs_74 (by decide) ?_
    obtain ⟨x7, hc75, hf⟩ := zo_k hf
    refine cal_i (rnV (As := [.int p1, .int (nI 4)]) (rest := []) ⟨hx, hb, hml, hown, hts⟩ (c_X4_get hAd (by omega) hc75) (cwV 2 hts gX2_readInputs_X4_get rfl rfl rfl cdV_X4_get ⟨by simp only [rl_X2_readInputs, rl_X4_get]; omega, by simp only [rl_X2_readInputs, rl_X4_get]; omega⟩) hP hK hN (cw_ro (S := S6) (k := (9 + 2 * b)) (by omega)) rfl rfl hl.1 rfl (Nat.le_of_ble_eq_true rfl) dX2_readInputs_75 ⟨Nat.zero_le _, Nat.zero_le _⟩) hS (fun H locs hP hS => ?_)
    refine lv_istore (lv' := [(5, .int x7), (4, .int x4), (3, .int x3), (0, .ref (ad (26 + b))), (1, .int p1), (2, .int p2)]) hx hb dX2_readInputs_78 hl (by decide) rfl (fun ls hl => ?_)
    refine lv_iload_n hx hb dX2_readInputs_80 rfl (lv_at hl 2 rfl) ?_
    refine lv_iconst (v := (nI 2)) hx hb dX2_readInputs_81 (by decide) ?_
    have hJ91 : ∀ (t8 : Int32), m_X2_readInputs_J91 x3 x7 b p1 LK p2 S6 t8 = some (r, SZ) → ∀ (H : Heap) (locs : List Loc) (ls : Array Slot), va_P D vwCl (cw cyI ad S6) H → va_S (CA ad) s.heap H locs → lv_has ls 11 [(5, .int x7), (3, .int x3), (0, .ref (ad (26 + b))), (1, .int p1), (2, .int p2)] → W p l e (rl_X2_readInputs rf rl) s m args below meth c H locs 0 0 (MQ below (PoI D (cw cyI ad SZ) (CA ad) r) args s 0 0 (CA ad)) (F0 m 91 ls [.int t8]) := by
      intro t8 hf H locs ls hP hS hl
      unfold m_X2_readInputs_J91 at hf
      refine lv_istore (lv' := [(6, .int t8), (5, .int x7), (3, .int x3), (0, .ref (ad (26 + b))), (1, .int p1), (2, .int p2)]) hx hb dX2_readInputs_91 hl (by decide) rfl (fun ls hl => ?_)
      refine lv_iload_n hx hb dX2_readInputs_93 rfl (lv_at hl 2 rfl) ?_
      refine lv_iconst (v := (nI 2)) hx hb dX2_readInputs_94 (by decide) ?_
      have hJ116 : ∀ (t9 : Int32), m_X2_readInputs_J116 x3 b p1 LK p2 S6 t8 t9 = some (r, SZ) → ∀ (H : Heap) (locs : List Loc) (ls : Array Slot), va_P D vwCl (cw cyI ad S6) H → va_S (CA ad) s.heap H locs → lv_has ls 11 [(6, .int t8), (3, .int x3), (0, .ref (ad (26 + b))), (1, .int p1), (2, .int p2)] → W p l e (rl_X2_readInputs rf rl) s m args below meth c H locs 0 0 (MQ below (PoI D (cw cyI ad SZ) (CA ad) r) args s 0 0 (CA ad)) (F0 m 116 ls [.int t9]) := by
        intro t9 hf H locs ls hP hS hl
        unfold m_X2_readInputs_J116 at hf
        refine lv_istore (lv' := [(7, .int t9), (6, .int t8), (3, .int x3), (0, .ref (ad (26 + b))), (1, .int p1), (2, .int p2)]) hx hb dX2_readInputs_116 hl (by decide) rfl (fun ls hl => ?_)
        refine lv_iload hx hb dX2_readInputs_118 (lv_at hl 1 rfl) ?_
        refine lv_istore (lv' := [(8, .int t8), (7, .int t9), (6, .int t8), (3, .int x3), (0, .ref (ad (26 + b))), (1, .int p1), (2, .int p2)]) hx hb dX2_readInputs_120 hl (by decide) rfl (fun ls hl => ?_)
        refine zl2_ind (F := (m_X2_readInputs_B122 t9 x3 b p1 LK p2)) (R := (r, SZ)) (P := fun S10 x11 => ∀ (H : Heap) (locs : List Loc) (ls : Array Slot), va_P D vwCl (cw cyI ad S10) H → va_S (CA ad) s.heap H locs → lv_has ls 11 [(7, .int t9), (3, .int x3), (0, .ref (ad (26 + b))), (1, .int p1), (2, .int p2), (8, .int x11)] → W p l e (rl_X2_readInputs rf rl) s m args below meth c H locs 0 0 (MQ below (PoI D (cw cyI ad SZ) (CA ad) r) args s 0 0 (CA ad)) (F0 m 122 ls [])) (fun rec122 ih122 S10 x11 hf H locs ls hP hS hl => ?_) FU S6 t8 hf _ _ _ hP hS (lv_sub hl [1, 3, 4, 5, 6, 0] rfl)
        unfold m_X2_readInputs_B122 at hf
        refine lv_iload hx hb dX2_readInputs_122 (lv_at hl 5 rfl) ?_
        refine lv_iload hx hb dX2_readInputs_124 (lv_at hl 0 rfl) ?_
        refine lv_icmp_ge (tgt := 189) hx hb dX2_readInputs_126 (by decide) (fun hc => ?_) (fun hc => ?_)
        · have hf := ifp hf hc
          refine lv_iload_n hx hb dX2_readInputs_189 rfl (lv_at hl 1 rfl) ?_
          refine lv_iconst (v := (nI 3)) hx hb dX2_readInputs_190 (by decide) ?_
          refine lv_icmp_ne (tgt := 212) hx hb dX2_readInputs_191 (by decide) (fun hc => ?_) (fun hc => ?_)
          · have hf := ifn hf hc
            refine lv_iconst (v := (nI 0)) hx hb dX2_readInputs_212 (by decide) ?_
            cases Option.some.inj hf
            exact fin_i hx hb hr hlk hS hP rfl dX2_readInputs_213
          · have hf := ifp hf hc
            refine lv_aload_n hx hb dX2_readInputs_194 rfl (lv_at hl 2 rfl) ?_
            refine lv_iload_n hx hb dX2_readInputs_195 rfl (lv_at hl 3 rfl) ?_
            refine lv_iconst (v := (nI 4)) hx hb dX2_readInputs_196 (by decide) ?_
            refine lv_aload_n hx hb dX2_readInputs_197 rfl (lv_at hl 2 rfl) ?_
            refine lv_iload_n hx hb dX2_readInputs_198 rfl (lv_at hl 3 rfl) ?_
            obtain ⟨x12, hc199, hf⟩ := zo_k hf
            refine cal_i (rnV (As := [.int p1]) (rest := [.int (nI 4), .int p1, .ref (ad (26 + b))]) ⟨hx, hb, hml, hown, hts⟩ (c_X2_sumOfReads hAd hb2 hc199) (cwV 1 hts gX2_readInputs_X2_sumOfReads rfl rfl rfl cdV_X2_sumOfReads ⟨by simp only [rl_X2_readInputs, rl_X2_sumOfReads]; omega, by simp only [rl_X2_readInputs, rl_X2_sumOfReads]; omega⟩) hP hK hN (cw_lo (S := S10) (b := b) hb2) rfl rfl hl.1 rfl (Nat.le_of_ble_eq_true rfl) dX2_readInputs_199 ⟨Nat.zero_le _, Nat.zero_le _⟩) hS (fun H locs hP hS => ?_)
            refine lv_bipush (v := (nI 20)) hx hb dX2_readInputs_202 (by decide) ?_
            refine lv_irem hx hb dX2_readInputs_204 (by decide) ?_
            refine lv_iload_n hx hb dX2_readInputs_205 rfl (lv_at hl 4 rfl) ?_
            obtain ⟨x13, S14, hc206, hf⟩ := zo2_k hf
            refine cal_i (rnV (As := [.int p1, .int (nI 4), .int (irm x12 (nI 20)), .int p2]) (rest := []) ⟨hx, hb, hml, hown, hts⟩ (c_X2_read hLK hAd hb2 hc206) (cwV 4 hts gX2_readInputs_X2_read rfl rfl rfl cdV_X2_read ⟨by simp only [rl_X2_readInputs, rl_X2_read]; omega, by simp only [rl_X2_readInputs, rl_X2_read]; omega⟩) hP hK hN (cw_lo (S := S10) (b := b) hb2) rfl rfl hl.1 rfl (Nat.le_of_ble_eq_true rfl) dX2_readInputs_206 ⟨Nat.zero_le _, Nat.zero_le _⟩) hS (fun H locs hP hS => ?_)
            refine lv_goto (tgt := 213) hx hb dX2_readInputs_209 (by decide) ?_
            cases Option.some.inj hf
            exact fin_i hx hb hr hlk hS hP rfl dX2_readInputs_213
        · have hf := ifn hf hc
          refine lv_iload hx hb dX2_readInputs_129 (lv_at hl 5 rfl) ?_
          refine lv_iconst (v := (nI 4)) hx hb dX2_readInputs_131 (by decide) ?_
          refine lv_icmp_ge (tgt := 189) hx hb dX2_readInputs_132 (by decide) (fun hc => ?_) (fun hc => ?_)
          · have hf := ifp hf hc
            refine lv_iload_n hx hb dX2_readInputs_189 rfl (lv_at hl 1 rfl) ?_
            refine lv_iconst (v := (nI 3)) hx hb dX2_readInputs_190 (by decide) ?_
            refine lv_icmp_ne (tgt := 212) hx hb dX2_readInputs_191 (by decide) (fun hc => ?_) (fun hc => ?_)
            · have hf := ifn hf hc
              refine lv_iconst (v := (nI 0)) hx hb dX2_readInputs_212 (by decide) ?_
              cases Option.some.inj hf
              exact fin_i hx hb hr hlk hS hP rfl dX2_readInputs_213
            · have hf := ifp hf hc
              refine lv_aload_n hx hb dX2_readInputs_194 rfl (lv_at hl 2 rfl) ?_
              refine lv_iload_n hx hb dX2_readInputs_195 rfl (lv_at hl 3 rfl) ?_
              refine lv_iconst (v := (nI 4)) hx hb dX2_readInputs_196 (by decide) ?_
              refine lv_aload_n hx hb dX2_readInputs_197 rfl (lv_at hl 2 rfl) ?_
              refine lv_iload_n hx hb dX2_readInputs_198 rfl (lv_at hl 3 rfl) ?_
              obtain ⟨x15, hc199, hf⟩ := zo_k hf
              refine cal_i (rnV (As := [.int p1]) (rest := [.int (nI 4), .int p1, .ref (ad (26 + b))]) ⟨hx, hb, hml, hown, hts⟩ (c_X2_sumOfReads hAd hb2 hc199) (cwV 1 hts gX2_readInputs_X2_sumOfReads rfl rfl rfl cdV_X2_sumOfReads ⟨by simp only [rl_X2_readInputs, rl_X2_sumOfReads]; omega, by simp only [rl_X2_readInputs, rl_X2_sumOfReads]; omega⟩) hP hK hN (cw_lo (S := S10) (b := b) hb2) rfl rfl hl.1 rfl (Nat.le_of_ble_eq_true rfl) dX2_readInputs_199 ⟨Nat.zero_le _, Nat.zero_le _⟩) hS (fun H locs hP hS => ?_)
              refine lv_bipush (v := (nI 20)) hx hb dX2_readInputs_202 (by decide) ?_
              refine lv_irem hx hb dX2_readInputs_204 (by decide) ?_
              refine lv_iload_n hx hb dX2_readInputs_205 rfl (lv_at hl 4 rfl) ?_
              obtain ⟨x16, S17, hc206, hf⟩ := zo2_k hf
              refine cal_i (rnV (As := [.int p1, .int (nI 4), .int (irm x15 (nI 20)), .int p2]) (rest := []) ⟨hx, hb, hml, hown, hts⟩ (c_X2_read hLK hAd hb2 hc206) (cwV 4 hts gX2_readInputs_X2_read rfl rfl rfl cdV_X2_read ⟨by simp only [rl_X2_readInputs, rl_X2_read]; omega, by simp only [rl_X2_readInputs, rl_X2_read]; omega⟩) hP hK hN (cw_lo (S := S10) (b := b) hb2) rfl rfl hl.1 rfl (Nat.le_of_ble_eq_true rfl) dX2_readInputs_206 ⟨Nat.zero_le _, Nat.zero_le _⟩) hS (fun H locs hP hS => ?_)
              refine lv_goto (tgt := 213) hx hb dX2_readInputs_209 (by decide) ?_
              cases Option.some.inj hf
              exact fin_i hx hb hr hlk hS hP rfl dX2_readInputs_213
          · have hf := ifn hf hc
            refine lv_iconst (v := (nI 5)) hx hb dX2_readInputs_135 (by decide) ?_
            refine lv_iload hx hb dX2_readInputs_136 (lv_at hl 5 rfl) ?_
            refine lv_iconst (v := (nI 2)) hx hb dX2_readInputs_138 (by decide) ?_
            refine lv_imul hx hb dX2_readInputs_139 ?_
            refine lv_iadd hx hb dX2_readInputs_140 ?_
            refine lv_topi (fun x18 ex18 => ?_)
            have hf := zb_x hf ex18
            refine lv_istore (lv' := [(9, .int x18), (7, .int t9), (3, .int x3), (0, .ref (ad (26 + b))), (1, .int p1), (2, .int p2), (8, .int x11)]) hx hb dX2_readInputs_141 hl (by decide) rfl (fun ls hl => ?_)
            refine lv_aload_n hx hb dX2_readInputs_143 rfl (lv_at hl 3 rfl) ?_
            refine lv_iload_n hx hb dX2_readInputs_144 rfl (lv_at hl 4 rfl) ?_
            refine lv_aload_n hx hb dX2_readInputs_145 rfl (lv_at hl 3 rfl) ?_
            refine va_get (D := D) (ci := 2) (v := .ref (ad (2 * (9 + 2 * b)))) (C := RX2) (T := TX2) (N := 10) hx hb hts hin2 hown hK hP (26 + b) (cw_lo (S := S10) (b := b) hb2) rfl 7 (by decide) hfl20 (fun _ h9 => h9) rfl dX2_readInputs_146 ?_
            refine lv_iload_n hx hb dX2_readInputs_149 rfl (lv_at hl 4 rfl) ?_
            refine lv_iload hx hb dX2_readInputs_150 (lv_at hl 0 rfl) ?_
            refine lv_iconst (v := (nI 0)) hx hb dX2_readInputs_152 (by decide) ?_
            refine lv_iadd hx hb dX2_readInputs_153 ?_
            obtain ⟨x19, hc154, hf⟩ := zo_k hf
            refine cal_i (rnV (As := [.int p1, .int (x18 + (nI 0))]) (rest := [.int p1, .ref (ad (26 + b))]) ⟨hx, hb, hml, hown, hts⟩ (c_X4_get hAd (by omega) hc154) (cwV 2 hts gX2_readInputs_X4_get rfl rfl rfl cdV_X4_get ⟨by simp only [rl_X2_readInputs, rl_X4_get]; omega, by simp only [rl_X2_readInputs, rl_X4_get]; omega⟩) hP hK hN (cw_ro (S := S10) (k := (9 + 2 * b)) (by omega)) rfl rfl hl.1 rfl (Nat.le_of_ble_eq_true rfl) dX2_readInputs_154 ⟨Nat.zero_le _, Nat.zero_le _⟩) hS (fun H locs hP hS => ?_)
            refine lv_aload_n hx hb dX2_readInputs_157 rfl (lv_at hl 3 rfl) ?_
            refine va_get (D := D) (ci := 2) (v := .ref (ad (2 * (9 + 2 * b)))) (C := RX2) (T := TX2) (N := 10) hx hb hts hin2 hown hK hP (26 + b) (cw_lo (S := S10) (b := b) hb2) rfl 7 (by decide) hfl20 (fun _ h9 => h9) rfl dX2_readInputs_158 ?_
            refine lv_iload_n hx hb dX2_readInputs_161 rfl (lv_at hl 4 rfl) ?_
            refine lv_iload hx hb dX2_readInputs_162 (lv_at hl 0 rfl) ?_
            refine lv_iconst (v := (nI 1)) hx hb dX2_readInputs_164 (by decide) ?_
            refine lv_iadd hx hb dX2_readInputs_165 ?_
            obtain ⟨x20, hc166, hf⟩ := zo_k hf
            refine cal_i (rnV (As := [.int p1, .int (x18 + (nI 1))]) (rest := [.int x19, .int p1, .ref (ad (26 + b))]) ⟨hx, hb, hml, hown, hts⟩ (c_X4_get hAd (by omega) hc166) (cwV 2 hts gX2_readInputs_X4_get rfl rfl rfl cdV_X4_get ⟨by simp only [rl_X2_readInputs, rl_X4_get]; omega, by simp only [rl_X2_readInputs, rl_X4_get]; omega⟩) hP hK hN (cw_ro (S := S10) (k := (9 + 2 * b)) (by omega)) rfl rfl hl.1 rfl (Nat.le_of_ble_eq_true rfl) dX2_readInputs_166 ⟨Nat.zero_le _, Nat.zero_le _⟩) hS (fun H locs hP hS => ?_)
            refine lv_iload_n hx hb dX2_readInputs_169 rfl (lv_at hl 5 rfl) ?_
            obtain ⟨x21, S22, hc170, hf⟩ := zo2_k hf
            refine cal_i (rnV (As := [.int p1, .int x19, .int x20, .int p2]) (rest := []) ⟨hx, hb, hml, hown, hts⟩ (c_X2_read hLK hAd hb2 hc170) (cwV 4 hts gX2_readInputs_X2_read rfl rfl rfl cdV_X2_read ⟨by simp only [rl_X2_readInputs, rl_X2_read]; omega, by simp only [rl_X2_readInputs, rl_X2_read]; omega⟩) hP hK hN (cw_lo (S := S10) (b := b) hb2) rfl rfl hl.1 rfl (Nat.le_of_ble_eq_true rfl) dX2_readInputs_170 ⟨Nat.zero_le _, Nat.zero_le _⟩) hS (fun H locs hP hS => ?_)
            refine lv_istore (lv' := [(10, .int x21), (9, .int x18), (7, .int t9), (3, .int x3), (0, .ref (ad (26 + b))), (1, .int p1), (2, .int p2), (8, .int x11)]) hx hb dX2_readInputs_173 hl (by decide) rfl (fun ls hl => ?_)
            refine lv_iload hx hb dX2_readInputs_175 (lv_at hl 0 rfl) ?_
            refine lv_if_ge (tgt := 183) hx hb dX2_readInputs_177 (by decide) (fun hc => ?_) (fun hc => ?_)
            · have hf := ifp hf hc
              obtain ⟨x23, ex23, hf⟩ := zb_k hf
              refine lv_iinc (v := x23) (lv' := [(8, .int x23), (10, .int x21), (9, .int x18), (7, .int t9), (3, .int x3), (0, .ref (ad (26 + b))), (1, .int p1), (2, .int p2)]) hx hb dX2_readInputs_183 hl (k := 7) rfl (by rw [ex23]; rfl) (by decide) rfl (fun ls hl => ?_)
              refine lv_goto (tgt := 122) hx hb dX2_readInputs_186 (by decide) ?_
              exact ih122 S22 x23 hf _ _ _ hP hS (lv_sub hl [3, 4, 5, 6, 7, 0] rfl)
            · have hf := ifn hf hc
              refine lv_iload hx hb dX2_readInputs_180 (lv_at hl 0 rfl) ?_
              cases Option.some.inj hf
              exact fin_i hx hb hr hlk hS hP rfl dX2_readInputs_182
      have hJ114 : m_X2_readInputs_J114 x3 b p1 LK p2 S6 t8 x7 = some (r, SZ) → ∀ (H : Heap) (locs : List Loc) (ls : Array Slot), va_P D vwCl (cw cyI ad S6) H → va_S (CA ad) s.heap H locs → lv_has ls 11 [(6, .int t8), (5, .int x7), (3, .int x3), (0, .ref (ad (26 + b))), (1, .int p1), (2, .int p2)] → W p l e (rl_X2_readInputs rf rl) s m args below meth c H locs 0 0 (MQ below (PoI D (cw cyI ad SZ) (CA ad) r) args s 0 0 (CA ad)) (F0 m 114 ls []) := by
        intro  hf H locs ls hP hS hl
        unfold m_X2_readInputs_J114 at hf
        refine lv_iload hx hb dX2_readInputs_114 (lv_at hl 1 rfl) ?_
        exact hJ116 x7 hf _ _ _ hP hS (lv_sub hl [0, 2, 3, 4, 5] rfl)
      refine lv_icmp_ne (tgt := 114) hx hb dX2_readInputs_95 (by decide) (fun hc => ?_) (fun hc => ?_)
      · have hf := ifn hf hc
        exact hJ114  hf _ _ _ hP hS (lv_sub hl [0, 1, 2, 3, 4, 5] rfl)
      · have hf := ifp hf hc
        refine lv_iload hx hb dX2_readInputs_98 (lv_at hl 1 rfl) ?_
        refine lv_iload hx hb dX2_readInputs_100 (lv_at hl 0 rfl) ?_
        refine lv_iconst (v := (nI 1)) hx hb dX2_readInputs_102 (by decide) ?_
        refine lv_iadd hx hb dX2_readInputs_103 ?_
        refine lv_icmp_le (tgt := 114) hx hb dX2_readInputs_104 (by decide) (fun hc => ?_) (fun hc => ?_)
        · have hf := ifp hf hc
          exact hJ114  hf _ _ _ hP hS (lv_sub hl [0, 1, 2, 3, 4, 5] rfl)
        · have hf := ifn hf hc
          refine lv_iload hx hb dX2_readInputs_107 (lv_at hl 0 rfl) ?_
          refine lv_iconst (v := (nI 1)) hx hb dX2_readInputs_109 (by decide) ?_
          refine lv_iadd hx hb dX2_readInputs_110 ?_
          refine lv_goto (tgt := 116) hx hb dX2_readInputs_111 (by decide) ?_
          exact hJ116 (t8 + (nI 1)) hf _ _ _ hP hS (lv_sub hl [0, 2, 3, 4, 5] rfl)
    refine lv_icmp_ne (tgt := 90) hx hb dX2_readInputs_82 (by decide) (fun hc => ?_) (fun hc => ?_)
    · have hf := ifn hf hc
      refine lv_iconst (v := (nI 0)) hx hb dX2_readInputs_90 (by decide) ?_
      exact hJ91 (nI 0) hf _ _ _ hP hS (lv_sub hl [0, 2, 3, 4, 5] rfl)
    · have hf := ifp hf hc
      refine lv_iload hx hb dX2_readInputs_85 (lv_at hl 1 rfl) ?_
      refine lv_goto (tgt := 91) hx hb dX2_readInputs_87 (by decide) ?_
      exact hJ91 x4 hf _ _ _ hP hS (lv_sub hl [0, 2, 3, 4, 5] rfl)
  · have hf := ifp hf hc
    refine lv_bipush (v := (-2)) hx hb dX2_readInputs_38 (by decide) ?_
    cases Option.some.inj hf
    exact fin_i hx hb hr hlk hS hP rfl dX2_readInputs_40
set_option maxHeartbeats 4000000 in
set_option maxRecDepth 100000 in
theorem c_X2_answerPlainly {l : Launch} {D : va_G} {cyI cyJ cyZ : ClassId} {ad : Nat → Nat} {LK : St → Int32 → Int32 → Option (Int32 × St)} {b : Nat} {rf rl : Nat} (hLK : ∀ (S : St) (p1 p2 : Int32) (r : Int32) (SZ : St), LK S p1 p2 = some (r, SZ) → Met l yX2_look wsX2_look ({ frames := rf, cells := 0, slots := 0, locals := rl }) (PreW D [(cyI, .int), (cyJ, .long), (cyZ, .boolean)] (cw cyI ad S) [.ref (ad (26 + b)), .int p1, .int p2]) (PoI D (cw cyI ad SZ) (CA ad) r) 0 0 (CA ad)) (hAd : AdOK 31 ad) (hb2 : b < 2) {S : St} {p1 : Int32} {p2 : Int32} {r : Int32} {SZ : St} (hf : m_X2_answerPlainly LK b S p1 p2 = some (r, SZ)) : Met l yX2_answerPlainly wsX2_answerPlainly (rl_X2_answerPlainly rf rl) (PreW D [(cyI, .int), (cyJ, .long), (cyZ, .boolean)] (cw cyI ad S) [.ref (ad (26 + b)), .int p1, .int p2]) (PoI D (cw cyI ad SZ) (CA ad) r) 0 0 (CA ad) := by
  refine met_go (cc := cX2_answerPlainly) (maxL := 4) (ret := (some .int)) (by decide) rfl (Nat.le_of_ble_eq_true rfl) ?_
  intro p e s m args below meth c ls hx hb hr hml hts hown hlk hP hK hN hl
  have hown : s.vm.findClass RX2 = some m.cls := hown
  have hS : va_S (CA ad) s.heap s.heap [] := va_S.rf
  have hl : lv_has ls 4 [(0, .ref (ad (26 + b))), (1, .int p1), (2, .int p2)] := hl
  unfold m_X2_answerPlainly at hf
  refine lv_aload_n hx hb dX2_answerPlainly_0 rfl (lv_at hl 0 rfl) ?_
  refine lv_iload_n hx hb dX2_answerPlainly_1 rfl (lv_at hl 1 rfl) ?_
  refine lv_iload_n hx hb dX2_answerPlainly_2 rfl (lv_at hl 2 rfl) ?_
  obtain ⟨x1, S2, hc3, hf⟩ := zo2_k hf
  refine cal_i (rnV (As := [.int p1, .int p2]) (rest := []) ⟨hx, hb, hml, hown, hts⟩ (c_X2_readInputs hLK hAd hb2 hc3) (cwV 2 hts gX2_answerPlainly_X2_readInputs rfl rfl rfl cdV_X2_readInputs ⟨by simp only [rl_X2_answerPlainly, rl_X2_readInputs]; omega, by simp only [rl_X2_answerPlainly, rl_X2_readInputs]; omega⟩) hP hK hN (cw_lo (S := S) (b := b) hb2) rfl rfl hl.1 rfl (Nat.le_of_ble_eq_true rfl) dX2_answerPlainly_3 ⟨Nat.zero_le _, Nat.zero_le _⟩) hS (fun H locs hP hS => ?_)
  refine lv_istore_n (lv' := [(3, .int x1), (0, .ref (ad (26 + b))), (1, .int p1), (2, .int p2)]) hx hb dX2_answerPlainly_6 rfl hl (by decide) rfl (fun ls hl => ?_)
  refine lv_iload_n hx hb dX2_answerPlainly_7 rfl (lv_at hl 0 rfl) ?_
  refine lv_if_ge (tgt := 21) hx hb dX2_answerPlainly_8 (by decide) (fun hc => ?_) (fun hc => ?_)
  · have hf := ifp hf hc
    refine lv_aload_n hx hb dX2_answerPlainly_21 rfl (lv_at hl 1 rfl) ?_
    refine lv_iload_n hx hb dX2_answerPlainly_22 rfl (lv_at hl 2 rfl) ?_
    refine lv_iconst (v := (nI 3)) hx hb dX2_answerPlainly_23 (by decide) ?_
    refine lv_aload_n hx hb dX2_answerPlainly_24 rfl (lv_at hl 1 rfl) ?_
    refine lv_iload_n hx hb dX2_answerPlainly_25 rfl (lv_at hl 2 rfl) ?_
    obtain ⟨x3, hc26, hf⟩ := zo_k hf
    refine cal_i (rnV (As := [.int p1]) (rest := [.int (nI 3), .int p1, .ref (ad (26 + b))]) ⟨hx, hb, hml, hown, hts⟩ (c_X2_resultOf hAd hb2 hc26) (cwV 1 hts gX2_answerPlainly_X2_resultOf rfl rfl rfl cdV_X2_resultOf ⟨by simp only [rl_X2_answerPlainly, rl_X2_resultOf]; omega, by simp only [rl_X2_answerPlainly, rl_X2_resultOf]; omega⟩) hP hK hN (cw_lo (S := S2) (b := b) hb2) rfl rfl hl.1 rfl (Nat.le_of_ble_eq_true rfl) dX2_answerPlainly_26 ⟨Nat.zero_le _, Nat.zero_le _⟩) hS (fun H locs hP hS => ?_)
    obtain ⟨x4, S5, hc29, hf⟩ := zo2_k hf
    refine cal_i (rnV (As := [.int p1, .int (nI 3), .int x3]) (rest := []) ⟨hx, hb, hml, hown, hts⟩ (c_X2_end hAd hb2 hc29) (cwV 3 hts gX2_answerPlainly_X2_end rfl rfl rfl cdV_X2_end ⟨by simp only [rl_X2_answerPlainly, rl_X2_end]; omega, by simp only [rl_X2_answerPlainly, rl_X2_end]; omega⟩) hP hK hN (cw_lo (S := S2) (b := b) hb2) rfl rfl hl.1 rfl (Nat.le_of_ble_eq_true rfl) dX2_answerPlainly_29 ⟨Nat.zero_le _, Nat.zero_le _⟩) hS (fun H locs hP hS => ?_)
    cases Option.some.inj hf
    exact fin_i hx hb hr hlk hS hP rfl dX2_answerPlainly_32
  · have hf := ifn hf hc
    refine lv_aload_n hx hb dX2_answerPlainly_11 rfl (lv_at hl 1 rfl) ?_
    refine lv_iload_n hx hb dX2_answerPlainly_12 rfl (lv_at hl 2 rfl) ?_
    refine lv_iconst (v := (nI 4)) hx hb dX2_answerPlainly_13 (by decide) ?_
    refine lv_iload_n hx hb dX2_answerPlainly_14 rfl (lv_at hl 0 rfl) ?_
    obtain ⟨x6, S7, hc15, hf⟩ := zo2_k hf
    refine cal_i (rnV (As := [.int p1, .int (nI 4), .int x1]) (rest := []) ⟨hx, hb, hml, hown, hts⟩ (c_X2_end hAd hb2 hc15) (cwV 3 hts gX2_answerPlainly_X2_end rfl rfl rfl cdV_X2_end ⟨by simp only [rl_X2_answerPlainly, rl_X2_end]; omega, by simp only [rl_X2_answerPlainly, rl_X2_end]; omega⟩) hP hK hN (cw_lo (S := S2) (b := b) hb2) rfl rfl hl.1 rfl (Nat.le_of_ble_eq_true rfl) dX2_answerPlainly_15 ⟨Nat.zero_le _, Nat.zero_le _⟩) hS (fun H locs hP hS => ?_)
    refine lv_goto (tgt := 32) hx hb dX2_answerPlainly_18 (by decide) ?_
    cases Option.some.inj hf
    exact fin_i hx hb hr hlk hS hP rfl dX2_answerPlainly_32
set_option maxHeartbeats 4000000 in
set_option maxRecDepth 100000 in
theorem c_X2_answerByKept {l : Launch} {D : va_G} {cyI cyJ cyZ : ClassId} {ad : Nat → Nat} {LK : St → Int32 → Int32 → Option (Int32 × St)} {b : Nat} {rf rl : Nat} (hLK : ∀ (S : St) (p1 p2 : Int32) (r : Int32) (SZ : St), LK S p1 p2 = some (r, SZ) → Met l yX2_look wsX2_look ({ frames := rf, cells := 0, slots := 0, locals := rl }) (PreW D [(cyI, .int), (cyJ, .long), (cyZ, .boolean)] (cw cyI ad S) [.ref (ad (26 + b)), .int p1, .int p2]) (PoI D (cw cyI ad SZ) (CA ad) r) 0 0 (CA ad)) (hAd : AdOK 31 ad) (hb2 : b < 2) {S : St} {p1 : Int32} {p2 : Int32} {r : Int32} {SZ : St} (hf : m_X2_answerByKept LK b S p1 p2 = some (r, SZ)) : Met l yX2_answerByKept wsX2_answerByKept (rl_X2_answerByKept rf rl) (PreW D [(cyI, .int), (cyJ, .long), (cyZ, .boolean)] (cw cyI ad S) [.ref (ad (26 + b)), .int p1, .int p2]) (PoI D (cw cyI ad SZ) (CA ad) r) 0 0 (CA ad) := by
  refine met_go (cc := cX2_answerByKept) (maxL := 6) (ret := (some .int)) (by decide) rfl (Nat.le_of_ble_eq_true rfl) ?_
  intro p e s m args below meth c ls hx hb hr hml hts hown hlk hP hK hN hl
  have hown : s.vm.findClass RX2 = some m.cls := hown
  have hS : va_S (CA ad) s.heap s.heap [] := va_S.rf
  have hl : lv_has ls 6 [(0, .ref (ad (26 + b))), (1, .int p1), (2, .int p2)] := hl
  have hin2 : ∀ w ∈ wsX20, w ∈ wsX2_answerByKept := by decide +kernel
  have hfl14 := hts (.fieldLink RX2 14 "Makewheel$Looker" "seen" "LMakewheel$Rows;") (by decide +kernel)
  have hfl32 := hts (.fieldLink RX2 32 "Makewheel$Looker" "cache" "LMakewheel$Cache;") (by decide +kernel)
  have hfl20 := hts (.fieldLink RX2 20 "Makewheel$Looker" "fresh" "LMakewheel$Rows;") (by decide +kernel)
  have hfl29 := hts (.fieldLink RX2 29 "Makewheel$Looker" "kept" "LMakewheel$Rows;") (by decide +kernel)
  unfold m_X2_answerByKept at hf
  refine lv_aload_n hx hb dX2_answerByKept_0 rfl (lv_at hl 0 rfl) ?_
  refine lv_iload_n hx hb dX2_answerByKept_1 rfl (lv_at hl 1 rfl) ?_
  refine lv_iload_n hx hb dX2_answerByKept_2 rfl (lv_at hl 2 rfl) ?_
  obtain ⟨x1, S2, hc3, hf⟩ := zo2_k hf
  refine cal_i (rnV (As := [.int p1, .int p2]) (rest := []) ⟨hx, hb, hml, hown, hts⟩ (c_X2_whyNotReused hLK hAd hb2 hc3) (cwV 2 hts gX2_answerByKept_X2_whyNotReused rfl rfl rfl cdV_X2_whyNotReused ⟨by simp only [rl_X2_answerByKept, rl_X2_whyNotReused]; omega, by simp only [rl_X2_answerByKept, rl_X2_whyNotReused]; omega⟩) hP hK hN (cw_lo (S := S) (b := b) hb2) rfl rfl hl.1 rfl (Nat.le_of_ble_eq_true rfl) dX2_answerByKept_3 ⟨Nat.zero_le _, Nat.zero_le _⟩) hS (fun H locs hP hS => ?_)
  refine lv_istore_n (lv' := [(3, .int x1), (0, .ref (ad (26 + b))), (1, .int p1), (2, .int p2)]) hx hb dX2_answerByKept_6 rfl hl (by decide) rfl (fun ls hl => ?_)
  refine lv_aload_n hx hb dX2_answerByKept_7 rfl (lv_at hl 1 rfl) ?_
  refine va_get (D := D) (ci := 2) (v := .ref (ad (2 * (8 + 2 * b)))) (C := RX2) (T := TX2) (N := 10) hx hb hts hin2 hown hK hP (26 + b) (cw_lo (S := S2) (b := b) hb2) rfl 6 (by decide) hfl14 (fun _ h9 => h9) rfl dX2_answerByKept_8 ?_
  refine lv_iload_n hx hb dX2_answerByKept_11 rfl (lv_at hl 2 rfl) ?_
  refine lv_iconst (v := (nI 2)) hx hb dX2_answerByKept_12 (by decide) ?_
  refine lv_iload_n hx hb dX2_answerByKept_13 rfl (lv_at hl 0 rfl) ?_
  obtain ⟨S3, hc14, hf⟩ := zo_k hf
  refine cal_v (rnV (As := [.int p1, .int (nI 2), .int x1]) (rest := []) ⟨hx, hb, hml, hown, hts⟩ (c_X4_set hAd (by omega) hc14) (cwV 3 hts gX2_answerByKept_X4_set rfl rfl rfl cdV_X4_set ⟨by simp only [rl_X2_answerByKept, rl_X4_set]; omega, by simp only [rl_X2_answerByKept, rl_X4_set]; omega⟩) hP hK hN (cw_ro (S := S2) (k := (8 + 2 * b)) (by omega)) rfl rfl hl.1 rfl (Nat.le_of_ble_eq_true rfl) dX2_answerByKept_14 ⟨Nat.zero_le _, Nat.zero_le _⟩) hS (fun H locs hP hS => ?_)
  refine lv_iload_n hx hb dX2_answerByKept_17 rfl (lv_at hl 0 rfl) ?_
  refine lv_if_ne (tgt := 38) hx hb dX2_answerByKept_18 (by decide) (fun hc => ?_) (fun hc => ?_)
  · have hf := ifn hf hc
    refine lv_aload_n hx hb dX2_answerByKept_38 rfl (lv_at hl 1 rfl) ?_
    refine lv_iload_n hx hb dX2_answerByKept_39 rfl (lv_at hl 2 rfl) ?_
    refine lv_iload_n hx hb dX2_answerByKept_40 rfl (lv_at hl 3 rfl) ?_
    obtain ⟨x4, S5, hc41, hf⟩ := zo2_k hf
    refine cal_i (rnV (As := [.int p1, .int p2]) (rest := []) ⟨hx, hb, hml, hown, hts⟩ (c_X2_readInputs hLK hAd hb2 hc41) (cwV 2 hts gX2_answerByKept_X2_readInputs rfl rfl rfl cdV_X2_readInputs ⟨by simp only [rl_X2_answerByKept, rl_X2_readInputs]; omega, by simp only [rl_X2_answerByKept, rl_X2_readInputs]; omega⟩) hP hK hN (cw_lo (S := S3) (b := b) hb2) rfl rfl hl.1 rfl (Nat.le_of_ble_eq_true rfl) dX2_answerByKept_41 ⟨Nat.zero_le _, Nat.zero_le _⟩) hS (fun H locs hP hS => ?_)
    refine lv_istore (lv' := [(4, .int x4), (3, .int x1), (0, .ref (ad (26 + b))), (1, .int p1), (2, .int p2)]) hx hb dX2_answerByKept_44 hl (by decide) rfl (fun ls hl => ?_)
    refine lv_iload hx hb dX2_answerByKept_46 (lv_at hl 0 rfl) ?_
    refine lv_if_ge (tgt := 59) hx hb dX2_answerByKept_48 (by decide) (fun hc => ?_) (fun hc => ?_)
    · have hf := ifp hf hc
      refine lv_aload_n hx hb dX2_answerByKept_59 rfl (lv_at hl 2 rfl) ?_
      refine lv_iload_n hx hb dX2_answerByKept_60 rfl (lv_at hl 3 rfl) ?_
      obtain ⟨S6, hc61, hf⟩ := zo_k hf
      refine cal_v (rnV (As := [.int p1]) (rest := []) ⟨hx, hb, hml, hown, hts⟩ (c_X2_noteLeak hAd hb2 hc61) (cwV 1 hts gX2_answerByKept_X2_noteLeak rfl rfl rfl cdV_X2_noteLeak ⟨by simp only [rl_X2_answerByKept, rl_X2_noteLeak]; omega, by simp only [rl_X2_answerByKept, rl_X2_noteLeak]; omega⟩) hP hK hN (cw_lo (S := S5) (b := b) hb2) rfl rfl hl.1 rfl (Nat.le_of_ble_eq_true rfl) dX2_answerByKept_61 ⟨Nat.zero_le _, Nat.zero_le _⟩) hS (fun H locs hP hS => ?_)
      refine lv_aload_n hx hb dX2_answerByKept_64 rfl (lv_at hl 2 rfl) ?_
      refine lv_iload_n hx hb dX2_answerByKept_65 rfl (lv_at hl 3 rfl) ?_
      obtain ⟨x7, S8, hc66, hf⟩ := zo2_k hf
      refine cal_i (rnV (As := [.int p1]) (rest := []) ⟨hx, hb, hml, hown, hts⟩ (c_X2_isFetched hAd hb2 hc66) (cwV 1 hts gX2_answerByKept_X2_isFetched rfl rfl rfl cdV_X2_isFetched ⟨by simp only [rl_X2_answerByKept, rl_X2_isFetched]; omega, by simp only [rl_X2_answerByKept, rl_X2_isFetched]; omega⟩) hP hK hN (cw_lo (S := S6) (b := b) hb2) rfl rfl hl.1 rfl (Nat.le_of_ble_eq_true rfl) dX2_answerByKept_66 ⟨Nat.zero_le _, Nat.zero_le _⟩) hS (fun H locs hP hS => ?_)
      refine lv_if_eq (tgt := 79) hx hb dX2_answerByKept_69 (by decide) (fun hc => ?_) (fun hc => ?_)
      · have hf := ifp hf hc
        refine lv_aload_n hx hb dX2_answerByKept_79 rfl (lv_at hl 2 rfl) ?_
        refine lv_iload_n hx hb dX2_answerByKept_80 rfl (lv_at hl 3 rfl) ?_
        obtain ⟨x9, S10, hc81, hf⟩ := zo2_k hf
        refine cal_i (rnV (As := [.int p1]) (rest := []) ⟨hx, hb, hml, hown, hts⟩ (c_X2_runUntilGood hAd hb2 hc81) (cwV 1 hts gX2_answerByKept_X2_runUntilGood rfl rfl rfl cdV_X2_runUntilGood ⟨by simp only [rl_X2_answerByKept, rl_X2_runUntilGood]; omega, by simp only [rl_X2_answerByKept, rl_X2_runUntilGood]; omega⟩) hP hK hN (cw_lo (S := S8) (b := b) hb2) rfl rfl hl.1 rfl (Nat.le_of_ble_eq_true rfl) dX2_answerByKept_81 ⟨Nat.zero_le _, Nat.zero_le _⟩) hS (fun H locs hP hS => ?_)
        refine lv_istore (lv' := [(5, .int x9), (4, .int x4), (3, .int x1), (0, .ref (ad (26 + b))), (1, .int p1), (2, .int p2)]) hx hb dX2_answerByKept_84 hl (by decide) rfl (fun ls hl => ?_)
        refine lv_iload hx hb dX2_answerByKept_86 (lv_at hl 0 rfl) ?_
        refine lv_iconst (v := (-1)) hx hb dX2_answerByKept_88 (by decide) ?_
        refine lv_icmp_ne (tgt := 100) hx hb dX2_answerByKept_89 (by decide) (fun hc => ?_) (fun hc => ?_)
        · have hf := ifn hf hc
          refine lv_aload_n hx hb dX2_answerByKept_100 rfl (lv_at hl 3 rfl) ?_
          refine lv_iload_n hx hb dX2_answerByKept_101 rfl (lv_at hl 4 rfl) ?_
          refine lv_iload hx hb dX2_answerByKept_102 (lv_at hl 0 rfl) ?_
          refine lv_aload_n hx hb dX2_answerByKept_104 rfl (lv_at hl 3 rfl) ?_
          refine lv_iload_n hx hb dX2_answerByKept_105 rfl (lv_at hl 4 rfl) ?_
          obtain ⟨x11, hc106, hf⟩ := zo_k hf
          refine cal_i (rnV (As := [.int p1]) (rest := [.int x9, .int p1, .ref (ad (26 + b))]) ⟨hx, hb, hml, hown, hts⟩ (c_X2_resultOf hAd hb2 hc106) (cwV 1 hts gX2_answerByKept_X2_resultOf rfl rfl rfl cdV_X2_resultOf ⟨by simp only [rl_X2_answerByKept, rl_X2_resultOf]; omega, by simp only [rl_X2_answerByKept, rl_X2_resultOf]; omega⟩) hP hK hN (cw_lo (S := S10) (b := b) hb2) rfl rfl hl.1 rfl (Nat.le_of_ble_eq_true rfl) dX2_answerByKept_106 ⟨Nat.zero_le _, Nat.zero_le _⟩) hS (fun H locs hP hS => ?_)
          obtain ⟨S12, hc109, hf⟩ := zo_k hf
          refine cal_v (rnV (As := [.int p1, .int x9, .int x11]) (rest := []) ⟨hx, hb, hml, hown, hts⟩ (c_X2_tell hAd hb2 hc109) (cwV 3 hts gX2_answerByKept_X2_tell rfl rfl rfl cdV_X2_tell ⟨by simp only [rl_X2_answerByKept, rl_X2_tell]; omega, by simp only [rl_X2_answerByKept, rl_X2_tell]; omega⟩) hP hK hN (cw_lo (S := S10) (b := b) hb2) rfl rfl hl.1 rfl (Nat.le_of_ble_eq_true rfl) dX2_answerByKept_109 ⟨Nat.zero_le _, Nat.zero_le _⟩) hS (fun H locs hP hS => ?_)
          refine lv_aload_n hx hb dX2_answerByKept_112 rfl (lv_at hl 3 rfl) ?_
          refine va_get (D := D) (ci := 2) (v := .ref (ad 24)) (C := RX2) (T := TX2) (N := 10) hx hb hts hin2 hown hK hP (26 + b) (cw_lo (S := S12) (b := b) hb2) rfl 3 (by decide) hfl32 (fun _ h9 => h9) rfl dX2_answerByKept_113 ?_
          refine lv_aload_n hx hb dX2_answerByKept_116 rfl (lv_at hl 3 rfl) ?_
          refine va_get (D := D) (ci := 2) (v := .ref (ad (2 * (9 + 2 * b)))) (C := RX2) (T := TX2) (N := 10) hx hb hts hin2 hown hK hP (26 + b) (cw_lo (S := S12) (b := b) hb2) rfl 7 (by decide) hfl20 (fun _ h9 => h9) rfl dX2_answerByKept_117 ?_
          refine lv_iload_n hx hb dX2_answerByKept_120 rfl (lv_at hl 4 rfl) ?_
          obtain ⟨S13, hc121, hf⟩ := zo_k hf
          refine cal_v (rnV (As := [.ref (ad (2 * (9 + 2 * b))), .int p1]) (rest := []) ⟨hx, hb, hml, hown, hts⟩ (c_X0_add hAd (by omega) hc121) (cwV 2 hts gX2_answerByKept_X0_add rfl rfl rfl cdV_X0_add ⟨by simp only [rl_X2_answerByKept, rl_X0_add]; omega, by simp only [rl_X2_answerByKept, rl_X0_add]; omega⟩) hP hK hN (cw_o24 (S := S12)) rfl rfl hl.1 rfl (Nat.le_of_ble_eq_true rfl) dX2_answerByKept_121 ⟨Nat.zero_le _, Nat.zero_le _⟩) hS (fun H locs hP hS => ?_)
          refine lv_aload_n hx hb dX2_answerByKept_124 rfl (lv_at hl 3 rfl) ?_
          refine lv_iload_n hx hb dX2_answerByKept_125 rfl (lv_at hl 4 rfl) ?_
          refine lv_iconst (v := (nI 3)) hx hb dX2_answerByKept_126 (by decide) ?_
          obtain ⟨x14, S15, hc127, hf⟩ := zo2_k hf
          refine cal_i (rnV (As := [.int p1, .int (nI 3)]) (rest := []) ⟨hx, hb, hml, hown, hts⟩ (c_X2_keep hAd hb2 hc127) (cwV 2 hts gX2_answerByKept_X2_keep rfl rfl rfl cdV_X2_keep ⟨by simp only [rl_X2_answerByKept, rl_X2_keep]; omega, by simp only [rl_X2_answerByKept, rl_X2_keep]; omega⟩) hP hK hN (cw_lo (S := S13) (b := b) hb2) rfl rfl hl.1 rfl (Nat.le_of_ble_eq_true rfl) dX2_answerByKept_127 ⟨Nat.zero_le _, Nat.zero_le _⟩) hS (fun H locs hP hS => ?_)
          cases Option.some.inj hf
          exact fin_i hx hb hr hlk hS hP rfl dX2_answerByKept_130
        · have hf := ifp hf hc
          refine lv_aload_n hx hb dX2_answerByKept_92 rfl (lv_at hl 3 rfl) ?_
          refine lv_iload_n hx hb dX2_answerByKept_93 rfl (lv_at hl 4 rfl) ?_
          refine lv_bipush (v := (-5)) hx hb dX2_answerByKept_94 (by decide) ?_
          obtain ⟨x16, S17, hc96, hf⟩ := zo2_k hf
          refine cal_i (rnV (As := [.int p1, .int (-5)]) (rest := []) ⟨hx, hb, hml, hown, hts⟩ (c_X2_fail hAd hb2 hc96) (cwV 2 hts gX2_answerByKept_X2_fail rfl rfl rfl cdV_X2_fail ⟨by simp only [rl_X2_answerByKept, rl_X2_fail]; omega, by simp only [rl_X2_answerByKept, rl_X2_fail]; omega⟩) hP hK hN (cw_lo (S := S10) (b := b) hb2) rfl rfl hl.1 rfl (Nat.le_of_ble_eq_true rfl) dX2_answerByKept_96 ⟨Nat.zero_le _, Nat.zero_le _⟩) hS (fun H locs hP hS => ?_)
          cases Option.some.inj hf
          exact fin_i hx hb hr hlk hS hP rfl dX2_answerByKept_99
      · have hf := ifn hf hc
        refine lv_aload_n hx hb dX2_answerByKept_72 rfl (lv_at hl 2 rfl) ?_
        refine lv_iload_n hx hb dX2_answerByKept_73 rfl (lv_at hl 3 rfl) ?_
        refine lv_iconst (v := (nI 2)) hx hb dX2_answerByKept_74 (by decide) ?_
        obtain ⟨x18, S19, hc75, hf⟩ := zo2_k hf
        refine cal_i (rnV (As := [.int p1, .int (nI 2)]) (rest := []) ⟨hx, hb, hml, hown, hts⟩ (c_X2_keep hAd hb2 hc75) (cwV 2 hts gX2_answerByKept_X2_keep rfl rfl rfl cdV_X2_keep ⟨by simp only [rl_X2_answerByKept, rl_X2_keep]; omega, by simp only [rl_X2_answerByKept, rl_X2_keep]; omega⟩) hP hK hN (cw_lo (S := S8) (b := b) hb2) rfl rfl hl.1 rfl (Nat.le_of_ble_eq_true rfl) dX2_answerByKept_75 ⟨Nat.zero_le _, Nat.zero_le _⟩) hS (fun H locs hP hS => ?_)
        cases Option.some.inj hf
        exact fin_i hx hb hr hlk hS hP rfl dX2_answerByKept_78
    · have hf := ifn hf hc
      refine lv_aload_n hx hb dX2_answerByKept_51 rfl (lv_at hl 2 rfl) ?_
      refine lv_iload_n hx hb dX2_answerByKept_52 rfl (lv_at hl 3 rfl) ?_
      refine lv_iload hx hb dX2_answerByKept_53 (lv_at hl 0 rfl) ?_
      obtain ⟨x20, S21, hc55, hf⟩ := zo2_k hf
      refine cal_i (rnV (As := [.int p1, .int x4]) (rest := []) ⟨hx, hb, hml, hown, hts⟩ (c_X2_fail hAd hb2 hc55) (cwV 2 hts gX2_answerByKept_X2_fail rfl rfl rfl cdV_X2_fail ⟨by simp only [rl_X2_answerByKept, rl_X2_fail]; omega, by simp only [rl_X2_answerByKept, rl_X2_fail]; omega⟩) hP hK hN (cw_lo (S := S5) (b := b) hb2) rfl rfl hl.1 rfl (Nat.le_of_ble_eq_true rfl) dX2_answerByKept_55 ⟨Nat.zero_le _, Nat.zero_le _⟩) hS (fun H locs hP hS => ?_)
      cases Option.some.inj hf
      exact fin_i hx hb hr hlk hS hP rfl dX2_answerByKept_58
  · have hf := ifp hf hc
    refine lv_aload_n hx hb dX2_answerByKept_21 rfl (lv_at hl 1 rfl) ?_
    refine lv_iload_n hx hb dX2_answerByKept_22 rfl (lv_at hl 2 rfl) ?_
    refine lv_iconst (v := (nI 1)) hx hb dX2_answerByKept_23 (by decide) ?_
    refine lv_aload_n hx hb dX2_answerByKept_24 rfl (lv_at hl 1 rfl) ?_
    refine va_get (D := D) (ci := 2) (v := .ref (ad (2 * 2))) (C := RX2) (T := TX2) (N := 10) hx hb hts hin2 hown hK hP (26 + b) (cw_lo (S := S3) (b := b) hb2) rfl 2 (by decide) hfl29 (fun _ h9 => h9) rfl dX2_answerByKept_25 ?_
    refine lv_iload_n hx hb dX2_answerByKept_28 rfl (lv_at hl 2 rfl) ?_
    refine lv_bipush (v := (nI 50)) hx hb dX2_answerByKept_29 (by decide) ?_
    obtain ⟨x22, hc31, hf⟩ := zo_k hf
    refine cal_i (rnV (As := [.int p1, .int (nI 50)]) (rest := [.int (nI 1), .int p1, .ref (ad (26 + b))]) ⟨hx, hb, hml, hown, hts⟩ (c_X4_get hAd (by decide) hc31) (cwV 2 hts gX2_answerByKept_X4_get rfl rfl rfl cdV_X4_get ⟨by simp only [rl_X2_answerByKept, rl_X4_get]; omega, by simp only [rl_X2_answerByKept, rl_X4_get]; omega⟩) hP hK hN (cw_ro (S := S3) (k := 2) (by decide)) rfl rfl hl.1 rfl (Nat.le_of_ble_eq_true rfl) dX2_answerByKept_31 ⟨Nat.zero_le _, Nat.zero_le _⟩) hS (fun H locs hP hS => ?_)
    obtain ⟨x23, S24, hc34, hf⟩ := zo2_k hf
    refine cal_i (rnV (As := [.int p1, .int (nI 1), .int x22]) (rest := []) ⟨hx, hb, hml, hown, hts⟩ (c_X2_end hAd hb2 hc34) (cwV 3 hts gX2_answerByKept_X2_end rfl rfl rfl cdV_X2_end ⟨by simp only [rl_X2_answerByKept, rl_X2_end]; omega, by simp only [rl_X2_answerByKept, rl_X2_end]; omega⟩) hP hK hN (cw_lo (S := S3) (b := b) hb2) rfl rfl hl.1 rfl (Nat.le_of_ble_eq_true rfl) dX2_answerByKept_34 ⟨Nat.zero_le _, Nat.zero_le _⟩) hS (fun H locs hP hS => ?_)
    cases Option.some.inj hf
    exact fin_i hx hb hr hlk hS hP rfl dX2_answerByKept_37
set_option maxHeartbeats 4000000 in
set_option maxRecDepth 100000 in
theorem c_X2_look {l : Launch} {D : va_G} {cyI cyJ cyZ : ClassId} {ad : Nat → Nat} {LK : St → Int32 → Int32 → Option (Int32 × St)} {b : Nat} {rf rl : Nat} (hLK : ∀ (S : St) (p1 p2 : Int32) (r : Int32) (SZ : St), LK S p1 p2 = some (r, SZ) → Met l yX2_look wsX2_look ({ frames := rf, cells := 0, slots := 0, locals := rl }) (PreW D [(cyI, .int), (cyJ, .long), (cyZ, .boolean)] (cw cyI ad S) [.ref (ad (26 + b)), .int p1, .int p2]) (PoI D (cw cyI ad SZ) (CA ad) r) 0 0 (CA ad)) (hAd : AdOK 31 ad) (hb2 : b < 2) {S : St} {p1 : Int32} {p2 : Int32} {r : Int32} {SZ : St} (hf : m_X2_look LK b S p1 p2 = some (r, SZ)) : Met l yX2_look wsX2_look (rl_X2_look rf rl) (PreW D [(cyI, .int), (cyJ, .long), (cyZ, .boolean)] (cw cyI ad S) [.ref (ad (26 + b)), .int p1, .int p2]) (PoI D (cw cyI ad SZ) (CA ad) r) 0 0 (CA ad) := by
  refine met_go (cc := cX2_look) (maxL := 4) (ret := (some .int)) (by decide) rfl (Nat.le_of_ble_eq_true rfl) ?_
  intro p e s m args below meth c ls hx hb hr hml hts hown hlk hP hK hN hl
  have hown : s.vm.findClass RX2 = some m.cls := hown
  have hS : va_S (CA ad) s.heap s.heap [] := va_S.rf
  have hl : lv_has ls 4 [(0, .ref (ad (26 + b))), (1, .int p1), (2, .int p2)] := hl
  have hin2 : ∀ w ∈ wsX20, w ∈ wsX2_look := by decide +kernel
  have hfl14 := hts (.fieldLink RX2 14 "Makewheel$Looker" "seen" "LMakewheel$Rows;") (by decide +kernel)
  have hfl40 := hts (.fieldLink RX2 40 "Makewheel$Looker" "isPlain" "Z") (by decide +kernel)
  unfold m_X2_look at hf
  refine lv_aload_n hx hb dX2_look_0 rfl (lv_at hl 0 rfl) ?_
  refine va_get (D := D) (ci := 2) (v := .ref (ad (2 * (8 + 2 * b)))) (C := RX2) (T := TX2) (N := 10) hx hb hts hin2 hown hK hP (26 + b) (cw_lo (S := S) (b := b) hb2) rfl 6 (by decide) hfl14 (fun _ h9 => h9) rfl dX2_look_1 ?_
  refine lv_iload_n hx hb dX2_look_4 rfl (lv_at hl 1 rfl) ?_
  refine lv_iconst (v := (nI 0)) hx hb dX2_look_5 (by decide) ?_
  obtain ⟨x1, hc6, hf⟩ := zo_k hf
  refine cal_i (rnV (As := [.int p1, .int (nI 0)]) (rest := []) ⟨hx, hb, hml, hown, hts⟩ (c_X4_get hAd (by omega) hc6) (cwV 2 hts gX2_look_X4_get rfl rfl rfl cdV_X4_get ⟨by simp only [rl_X2_look, rl_X4_get]; omega, by simp only [rl_X2_look, rl_X4_get]; omega⟩) hP hK hN (cw_ro (S := S) (k := (8 + 2 * b)) (by omega)) rfl rfl hl.1 rfl (Nat.le_of_ble_eq_true rfl) dX2_look_6 ⟨Nat.zero_le _, Nat.zero_le _⟩) hS (fun H locs hP hS => ?_)
  refine lv_istore_n (lv' := [(3, .int x1), (0, .ref (ad (26 + b))), (1, .int p1), (2, .int p2)]) hx hb dX2_look_9 rfl hl (by decide) rfl (fun ls hl => ?_)
  refine lv_iload_n hx hb dX2_look_10 rfl (lv_at hl 0 rfl) ?_
  refine lv_iconst (v := (nI 5)) hx hb dX2_look_11 (by decide) ?_
  refine lv_icmp_eq (tgt := 21) hx hb dX2_look_12 (by decide) (fun hc => ?_) (fun hc => ?_)
  · have hf := ifp hf hc
    refine lv_bipush (v := (-4)) hx hb dX2_look_21 (by decide) ?_
    cases Option.some.inj hf
    exact fin_i hx hb hr hlk hS hP rfl dX2_look_23
  · have hf := ifn hf hc
    refine lv_iload_n hx hb dX2_look_15 rfl (lv_at hl 3 rfl) ?_
    refine lv_bipush (v := (nI 32)) hx hb dX2_look_16 (by decide) ?_
    refine lv_icmp_lt (tgt := 24) hx hb dX2_look_18 (by decide) (fun hc => ?_) (fun hc => ?_)
    · have hf := ifp hf hc
      refine lv_iload_n hx hb dX2_look_24 rfl (lv_at hl 0 rfl) ?_
      refine lv_if_eq (tgt := 38) hx hb dX2_look_25 (by decide) (fun hc => ?_) (fun hc => ?_)
      · have hf := ifp hf hc
        refine lv_aload_n hx hb dX2_look_38 rfl (lv_at hl 1 rfl) ?_
        refine va_get (D := D) (ci := 2) (v := .ref (ad (2 * (8 + 2 * b)))) (C := RX2) (T := TX2) (N := 10) hx hb hts hin2 hown hK hP (26 + b) (cw_lo (S := S) (b := b) hb2) rfl 6 (by decide) hfl14 (fun _ h9 => h9) rfl dX2_look_39 ?_
        refine lv_iload_n hx hb dX2_look_42 rfl (lv_at hl 2 rfl) ?_
        refine lv_iconst (v := (nI 0)) hx hb dX2_look_43 (by decide) ?_
        refine lv_iconst (v := (nI 5)) hx hb dX2_look_44 (by decide) ?_
        obtain ⟨S2, hc45, hf⟩ := zo_k hf
        refine cal_v (rnV (As := [.int p1, .int (nI 0), .int (nI 5)]) (rest := []) ⟨hx, hb, hml, hown, hts⟩ (c_X4_set hAd (by omega) hc45) (cwV 3 hts gX2_look_X4_set rfl rfl rfl cdV_X4_set ⟨by simp only [rl_X2_look, rl_X4_set]; omega, by simp only [rl_X2_look, rl_X4_set]; omega⟩) hP hK hN (cw_ro (S := S) (k := (8 + 2 * b)) (by omega)) rfl rfl hl.1 rfl (Nat.le_of_ble_eq_true rfl) dX2_look_45 ⟨Nat.zero_le _, Nat.zero_le _⟩) hS (fun H locs hP hS => ?_)
        refine lv_aload_n hx hb dX2_look_48 rfl (lv_at hl 1 rfl) ?_
        refine va_get (D := D) (ci := 2) (v := .int (nI b)) (C := RX2) (T := TX2) (N := 10) hx hb hts hin2 hown hK hP (26 + b) (cw_lo (S := S2) (b := b) hb2) rfl 5 (by decide) hfl40 (fun _ h9 => h9) rfl dX2_look_49 ?_
        refine lv_if_eq (tgt := 64) hx hb dX2_look_52 (by decide) (fun hc => ?_) (fun hc => ?_)
        · have hf := ifp hf hc
          refine lv_aload_n hx hb dX2_look_64 rfl (lv_at hl 1 rfl) ?_
          refine lv_iload_n hx hb dX2_look_65 rfl (lv_at hl 2 rfl) ?_
          refine lv_iload_n hx hb dX2_look_66 rfl (lv_at hl 3 rfl) ?_
          obtain ⟨x3, S4, hc67, hf⟩ := zo2_k hf
          refine cal_i (rnV (As := [.int p1, .int p2]) (rest := []) ⟨hx, hb, hml, hown, hts⟩ (c_X2_answerByKept hLK hAd hb2 hc67) (cwV 2 hts gX2_look_X2_answerByKept rfl rfl rfl cdV_X2_answerByKept ⟨by simp only [rl_X2_look, rl_X2_answerByKept]; omega, by simp only [rl_X2_look, rl_X2_answerByKept]; omega⟩) hP hK hN (cw_lo (S := S2) (b := b) hb2) rfl rfl hl.1 rfl (Nat.le_of_ble_eq_true rfl) dX2_look_67 ⟨Nat.zero_le _, Nat.zero_le _⟩) hS (fun H locs hP hS => ?_)
          cases Option.some.inj hf
          exact fin_i hx hb hr hlk hS hP rfl dX2_look_70
        · have hf := ifn hf hc
          refine lv_aload_n hx hb dX2_look_55 rfl (lv_at hl 1 rfl) ?_
          refine lv_iload_n hx hb dX2_look_56 rfl (lv_at hl 2 rfl) ?_
          refine lv_iload_n hx hb dX2_look_57 rfl (lv_at hl 3 rfl) ?_
          obtain ⟨x5, S6, hc58, hf⟩ := zo2_k hf
          refine cal_i (rnV (As := [.int p1, .int p2]) (rest := []) ⟨hx, hb, hml, hown, hts⟩ (c_X2_answerPlainly hLK hAd hb2 hc58) (cwV 2 hts gX2_look_X2_answerPlainly rfl rfl rfl cdV_X2_answerPlainly ⟨by simp only [rl_X2_look, rl_X2_answerPlainly]; omega, by simp only [rl_X2_look, rl_X2_answerPlainly]; omega⟩) hP hK hN (cw_lo (S := S2) (b := b) hb2) rfl rfl hl.1 rfl (Nat.le_of_ble_eq_true rfl) dX2_look_58 ⟨Nat.zero_le _, Nat.zero_le _⟩) hS (fun H locs hP hS => ?_)
          refine lv_goto (tgt := 70) hx hb dX2_look_61 (by decide) ?_
          cases Option.some.inj hf
          exact fin_i hx hb hr hlk hS hP rfl dX2_look_70
      · have hf := ifn hf hc
        refine lv_aload_n hx hb dX2_look_28 rfl (lv_at hl 1 rfl) ?_
        refine va_get (D := D) (ci := 2) (v := .ref (ad (2 * (8 + 2 * b)))) (C := RX2) (T := TX2) (N := 10) hx hb hts hin2 hown hK hP (26 + b) (cw_lo (S := S) (b := b) hb2) rfl 6 (by decide) hfl14 (fun _ h9 => h9) rfl dX2_look_29 ?_
        refine lv_iload_n hx hb dX2_look_32 rfl (lv_at hl 2 rfl) ?_
        refine lv_iconst (v := (nI 1)) hx hb dX2_look_33 (by decide) ?_
        obtain ⟨x7, hc34, hf⟩ := zo_k hf
        refine cal_i (rnV (As := [.int p1, .int (nI 1)]) (rest := []) ⟨hx, hb, hml, hown, hts⟩ (c_X4_get hAd (by omega) hc34) (cwV 2 hts gX2_look_X4_get rfl rfl rfl cdV_X4_get ⟨by simp only [rl_X2_look, rl_X4_get]; omega, by simp only [rl_X2_look, rl_X4_get]; omega⟩) hP hK hN (cw_ro (S := S) (k := (8 + 2 * b)) (by omega)) rfl rfl hl.1 rfl (Nat.le_of_ble_eq_true rfl) dX2_look_34 ⟨Nat.zero_le _, Nat.zero_le _⟩) hS (fun H locs hP hS => ?_)
        cases Option.some.inj hf
        exact fin_i hx hb hr hlk hS hP rfl dX2_look_37
    · have hf := ifn hf hc
      refine lv_bipush (v := (-4)) hx hb dX2_look_21 (by decide) ?_
      cases Option.some.inj hf
      exact fin_i hx hb hr hlk hS hP rfl dX2_look_23
theorem c_X2_lookN {l : Launch} {D : va_G} {cyI cyJ cyZ : ClassId} {ad : Nat → Nat} {b : Nat} (hAd : AdOK 31 ad) (hb2 : b < 2) (n : Nat) : ∀ (S : St) (p1 p2 : Int32) (r : Int32) (S9 : St), zl3 (fun LK => m_X2_look LK b) n S p1 p2 = some (r, S9) → Met l yX2_look wsX2_look (rlk n) (PreW D [(cyI, .int), (cyJ, .long), (cyZ, .boolean)] (cw cyI ad S) [.ref (ad (26 + b)), .int p1, .int p2]) (PoI D (cw cyI ad S9) (CA ad) r) 0 0 (CA ad) := by
  induction n with
  | zero => intro S p1 p2 r S9 h; cases h
  | succ n ih =>
    intro S p1 p2 r S9 h
    have h2 := c_X2_look (l := l) (D := D) (cyI := cyI) (cyJ := cyJ) (cyZ := cyZ) (ad := ad) (LK := zl3 (fun LK => m_X2_look LK b) n) (rf := n * 6) (rl := n * 152) ih hAd hb2 h
    have e : rl_X2_look (n * 6) (n * 152) = rlk (n + 1) := by simp only [rl_X2_look, rlk, Nat.succ_mul]
    rw [← e]; exact h2
theorem c_X2_lookF {l : Launch} {D : va_G} {cyI cyJ cyZ : ClassId} {ad : Nat → Nat} {b : Nat} (hAd : AdOK 31 ad) (hb2 : b < 2) {S : St} {p1 p2 r : Int32} {S9 : St} (hf : m_X2_lookF b S p1 p2 = some (r, S9)) : Met l yX2_look wsX2_look rl_X2_lookF (PreW D [(cyI, .int), (cyJ, .long), (cyZ, .boolean)] (cw cyI ad S) [.ref (ad (26 + b)), .int p1, .int p2]) (PoI D (cw cyI ad S9) (CA ad) r) 0 0 (CA ad) := c_X2_lookN hAd hb2 40 S p1 p2 r S9 hf
set_option maxHeartbeats 4000000 in
set_option maxRecDepth 100000 in
theorem c_X2_start {l : Launch} {D : va_G} {cyI cyJ cyZ : ClassId} {ad : Nat → Nat} {b : Nat} (hAd : AdOK 31 ad) (hb2 : b < 2) {S : St} {p1 : Int32} {r : Int32} {SZ : St} (hf : m_X2_start b S p1 = some (r, SZ)) : Met l yX2_start wsX2_start rl_X2_start (PreW D [(cyI, .int), (cyJ, .long), (cyZ, .boolean)] (cw cyI ad S) [.ref (ad (26 + b)), .int p1]) (PoI D (cw cyI ad SZ) (CA ad) r) 0 0 (CA ad) := by
  refine met_go (cc := cX2_start) (maxL := 3) (ret := (some .int)) (by decide) rfl (Nat.le_of_ble_eq_true rfl) ?_
  intro p e s m args below meth c ls hx hb hr hml hts hown hlk hP hK hN hl
  have hown : s.vm.findClass RX2 = some m.cls := hown
  have hS : va_S (CA ad) s.heap s.heap [] := va_S.rf
  have hl : lv_has ls 3 [(0, .ref (ad (26 + b))), (1, .int p1)] := hl
  have hin2 : ∀ w ∈ wsX20, w ∈ wsX2_start := by decide +kernel
  have hfl44 := hts (.fieldLink RX2 44 "Makewheel$Looker" "runs" "I") (by decide +kernel)
  have hfl40 := hts (.fieldLink RX2 40 "Makewheel$Looker" "isPlain" "Z") (by decide +kernel)
  have hfl14 := hts (.fieldLink RX2 14 "Makewheel$Looker" "seen" "LMakewheel$Rows;") (by decide +kernel)
  unfold m_X2_start at hf
  refine lv_aload_n hx hb dX2_start_0 rfl (lv_at hl 0 rfl) ?_
  refine lv_iconst (v := (nI 0)) hx hb dX2_start_1 (by decide) ?_
  refine va_put (D := D) (ci := 2) (v := .int (nI 0)) (ty := .int) (C := RX2) (T := TX2) (N := 10) hx hb hts hin2 tyX2 tyX2_ok nmX2 hown hK hP (cw_D hAd) hS (26 + b) (cw_lo (S := S) (b := b) hb2) rfl 8 (by decide) hfl44 (fun _ h9 => h9) rfl (by decide +kernel) rfl rfl (Nat.le_of_ble_eq_true rfl) dX2_start_2 (fun H locs hP _ hS => ?_)
  have hP : va_P D vwCl (cw cyI ad (wi S (16 + 2 * b) 0 (nI 0))) H := by rw [← cw_s16 hb2]; exact hP
  obtain ⟨S1, eS1, hf⟩ := zb_k hf
  rw [← eS1] at hP
  refine lv_iconst (v := (nI 0)) hx hb dX2_start_5 (by decide) ?_
  refine lv_istore_n (lv' := [(2, .int (nI 0)), (0, .ref (ad (26 + b))), (1, .int p1)]) hx hb dX2_start_6 rfl hl (by decide) rfl (fun ls hl => ?_)
  refine zl2_ind (F := (m_X2_start_B7 b p1)) (R := (r, SZ)) (P := fun S2 x3 => ∀ (H : Heap) (locs : List Loc) (ls : Array Slot), va_P D vwCl (cw cyI ad S2) H → va_S (CA ad) s.heap H locs → lv_has ls 3 [(0, .ref (ad (26 + b))), (1, .int p1), (2, .int x3)] → W p l e rl_X2_start s m args below meth c H locs 0 0 (MQ below (PoI D (cw cyI ad SZ) (CA ad) r) args s 0 0 (CA ad)) (F0 m 7 ls [])) (fun rec7 ih7 S2 x3 hf H locs ls hP hS hl => ?_) FU S1 (nI 0) hf _ _ _ hP hS (lv_sub hl [1, 2, 0] rfl)
  unfold m_X2_start_B7 at hf
  refine lv_iload_n hx hb dX2_start_7 rfl (lv_at hl 2 rfl) ?_
  refine lv_bipush (v := (nI 32)) hx hb dX2_start_8 (by decide) ?_
  refine lv_icmp_ge (tgt := 27) hx hb dX2_start_10 (by decide) (fun hc => ?_) (fun hc => ?_)
  · have hf := ifp hf hc
    refine lv_aload_n hx hb dX2_start_27 rfl (lv_at hl 0 rfl) ?_
    refine lv_iload_n hx hb dX2_start_28 rfl (lv_at hl 1 rfl) ?_
    refine lv_iconst (v := (nI 0)) hx hb dX2_start_29 (by decide) ?_
    obtain ⟨x4, S5, hc30, hf⟩ := zo2_k hf
    refine cal_i (rnV (As := [.int p1, .int (nI 0)]) (rest := []) ⟨hx, hb, hml, hown, hts⟩ (c_X2_lookF hAd hb2 hc30) (cwV 2 hts gX2_start_X2_look rfl rfl rfl cdV_X2_look ⟨Nat.le_of_ble_eq_true rfl, Nat.le_of_ble_eq_true rfl⟩) hP hK hN (cw_lo (S := S2) (b := b) hb2) rfl rfl hl.1 rfl (Nat.le_of_ble_eq_true rfl) dX2_start_30 ⟨Nat.zero_le _, Nat.zero_le _⟩) hS (fun H locs hP hS => ?_)
    refine lv_istore_n (lv' := [(2, .int x4), (0, .ref (ad (26 + b))), (1, .int p1)]) hx hb dX2_start_33 rfl hl (by decide) rfl (fun ls hl => ?_)
    refine lv_aload_n hx hb dX2_start_34 rfl (lv_at hl 1 rfl) ?_
    refine va_get (D := D) (ci := 2) (v := .int (nI b)) (C := RX2) (T := TX2) (N := 10) hx hb hts hin2 hown hK hP (26 + b) (cw_lo (S := S5) (b := b) hb2) rfl 5 (by decide) hfl40 (fun _ h9 => h9) rfl dX2_start_35 ?_
    refine lv_if_ne (tgt := 45) hx hb dX2_start_38 (by decide) (fun hc => ?_) (fun hc => ?_)
    · have hf := ifn hf hc
      refine lv_iload_n hx hb dX2_start_45 rfl (lv_at hl 0 rfl) ?_
      cases Option.some.inj hf
      exact fin_i hx hb hr hlk hS hP rfl dX2_start_46
    · have hf := ifp hf hc
      refine lv_aload_n hx hb dX2_start_41 rfl (lv_at hl 1 rfl) ?_
      obtain ⟨S6, hc42, hf⟩ := zo_k hf
      refine cal_v (rnV (As := []) (rest := []) ⟨hx, hb, hml, hown, hts⟩ (c_X2_loseKeptFromAway hAd hb2 hc42) (cwV 0 hts gX2_start_X2_loseKeptFromAway rfl rfl rfl cdV_X2_loseKeptFromAway ⟨Nat.le_of_ble_eq_true rfl, Nat.le_of_ble_eq_true rfl⟩) hP hK hN (cw_lo (S := S5) (b := b) hb2) rfl rfl hl.1 rfl (Nat.le_of_ble_eq_true rfl) dX2_start_42 ⟨Nat.zero_le _, Nat.zero_le _⟩) hS (fun H locs hP hS => ?_)
      refine lv_iload_n hx hb dX2_start_45 rfl (lv_at hl 0 rfl) ?_
      cases Option.some.inj hf
      exact fin_i hx hb hr hlk hS hP rfl dX2_start_46
  · have hf := ifn hf hc
    refine lv_aload_n hx hb dX2_start_13 rfl (lv_at hl 0 rfl) ?_
    refine va_get (D := D) (ci := 2) (v := .ref (ad (2 * (8 + 2 * b)))) (C := RX2) (T := TX2) (N := 10) hx hb hts hin2 hown hK hP (26 + b) (cw_lo (S := S2) (b := b) hb2) rfl 6 (by decide) hfl14 (fun _ h9 => h9) rfl dX2_start_14 ?_
    refine lv_iload_n hx hb dX2_start_17 rfl (lv_at hl 2 rfl) ?_
    obtain ⟨S7, hc18, hf⟩ := zo_k hf
    refine cal_v (rnV (As := [.int x3]) (rest := []) ⟨hx, hb, hml, hown, hts⟩ (c_X4_clear hAd (by omega) hc18) (cwV 1 hts gX2_start_X4_clear rfl rfl rfl cdV_X4_clear ⟨Nat.le_of_ble_eq_true rfl, Nat.le_of_ble_eq_true rfl⟩) hP hK hN (cw_ro (S := S2) (k := (8 + 2 * b)) (by omega)) rfl rfl hl.1 rfl (Nat.le_of_ble_eq_true rfl) dX2_start_18 ⟨Nat.zero_le _, Nat.zero_le _⟩) hS (fun H locs hP hS => ?_)
    obtain ⟨x8, ex8, hf⟩ := zb_k hf
    refine lv_iinc (v := x8) (lv' := [(2, .int x8), (0, .ref (ad (26 + b))), (1, .int p1)]) hx hb dX2_start_21 hl (k := 2) rfl (by rw [ex8]; rfl) (by decide) rfl (fun ls hl => ?_)
    refine lv_goto (tgt := 7) hx hb dX2_start_24 (by decide) ?_
    exact ih7 S7 x8 hf _ _ _ hP hS (lv_sub hl [1, 2, 0] rfl)
