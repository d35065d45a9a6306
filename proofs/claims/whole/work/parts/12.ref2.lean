set_option maxHeartbeats 4000000 in
set_option maxRecDepth 100000 in
theorem c_X7_laysKey {l : Launch} {D : va_G} {cyI cyJ cyZ : ClassId} {bd : Nat → Nat}  (hAd : AdOK 41 bd)  {S : St} {p1 : Int32} {SZ : St} (hf : m_X7_laysKey S p1 = some SZ) : Met l yX7_laysKey wsX7_laysKey rl_X7_laysKey (PreW D [(cyI, .int), (cyJ, .long), (cyZ, .boolean)] (mw cyI cyJ cyZ bd S) [.ref (bd 0), .int p1]) (PoV D (mw cyI cyJ cyZ bd SZ) (MA bd)) 0 0 (MA bd) := by
  refine met_go (cc := cX7_laysKey) (maxL := 3) (ret := none) (by decide) rfl (Nat.le_of_ble_eq_true rfl) ?_
  intro p e s m args below meth c ls hx hb hr hml hts hown hlk hP hK hN hl
  have hown : s.vm.findClass RX7 = some m.cls := hown
  have hS : va_S (MA bd) s.heap s.heap [] := va_S.rf
  have hl : lv_has ls 3 [(0, .ref (bd 0)), (1, .int p1)] := hl
  have hin7 : ∀ w ∈ wsX70, w ∈ wsX7_laysKey := by decide +kernel
  have hfl120 := hts (.fieldLink RX7 120 "MakewheelModel" "key" "[J") (by decide +kernel)
  have hfl108 := hts (.fieldLink RX7 108 "MakewheelModel" "reads" "[I") (by decide +kernel)
  have hfl117 := hts (.fieldLink RX7 117 "MakewheelModel" "readValues" "[J") (by decide +kernel)
  unfold m_X7_laysKey at hf
  refine lv_aload_n hx hb dX7_laysKey_0 rfl (lv_at hl 0 rfl) ?_
  refine va_get (D := D) (ci := 7) (v := .ref (bd 37)) (C := RX7) (T := TX7) (N := 48) hx hb hts hin7 hown hK hP 0 (mw_o (S := S)) rfl 42 (by decide) hfl120 (fun _ h9 => h9) mw_f42 dX7_laysKey_1 ?_
  refine lv_iconst (v := (nI 0)) hx hb dX7_laysKey_4 (by decide) ?_
  refine lv_ldc2 (v := 2) hx hb hown (hts (.constantLong RX7 238 2) (by decide +kernel)) dX7_laysKey_5 ?_
  refine lv_aload_n hx hb dX7_laysKey_8 rfl (lv_at hl 0 rfl) ?_
  refine lv_iload_n hx hb dX7_laysKey_9 rfl (lv_at hl 1 rfl) ?_
  refine lv_iconst (v := (nI 2)) hx hb dX7_laysKey_10 (by decide) ?_
  refine lv_idiv hx hb dX7_laysKey_11 (by decide) ?_
  obtain ⟨x1, hc12, hf⟩ := zo_k hf
  refine cal_l (rnV (As := [.int (p1 / (nI 2))]) (rest := [.long (2 : Int64), .int (nI 0), .ref (bd 37)]) ⟨hx, hb, hml, hown, hts⟩ (c_X7_ruleOf hAd  hc12) (cwV 1 hts gX7_laysKey_X7_ruleOf rfl rfl rfl cdV_X7_ruleOf ⟨Nat.le_of_ble_eq_true rfl, Nat.le_of_ble_eq_true rfl⟩) hP hK hN (mw_o (S := S)) rfl rfl hl.1 rfl (Nat.le_of_ble_eq_true rfl) dX7_laysKey_12 ⟨Nat.zero_le _, Nat.zero_le _⟩) hS (fun H locs hP hS => ?_)
  refine lv_lmul hx hb dX7_laysKey_15 ?_
  refine lv_iload_n hx hb dX7_laysKey_16 rfl (lv_at hl 1 rfl) ?_
  refine lv_iconst (v := (nI 2)) hx hb dX7_laysKey_17 (by decide) ?_
  refine lv_irem hx hb dX7_laysKey_18 (by decide) ?_
  refine lv_i2l hx hb dX7_laysKey_19 rfl ?_
  refine lv_ladd hx hb dX7_laysKey_20 ?_
  obtain ⟨hin, hf⟩ := zg_k hf
  refine va_last hx hb hK hP (mw_D hAd) hS 37 1 (mw_a42 (S := S)) rfl (inb_k hin) dX7_laysKey_21 (fun H locs hP _ hS => ?_)
  have hP : va_P D vwCl (mw cyI cyJ cyZ bd (wj S 42 (Int32.toNatClampNeg (nI 0)) (((2 : Int64) * x1) + (Int32.toInt64 (irm p1 (nI 2)))))) H := by rw [← mw_s42]; exact hP
  obtain ⟨S2, eS2, hf⟩ := zb_k hf
  rw [← eS2] at hP
  refine lv_iconst (v := (nI 0)) hx hb dX7_laysKey_22 (by decide) ?_
  refine lv_istore_n (lv' := [(2, .int (nI 0)), (0, .ref (bd 0)), (1, .int p1)]) hx hb dX7_laysKey_23 rfl hl (by decide) rfl (fun ls hl => ?_)
  refine zl2_ind (F := (m_X7_laysKey_B24 p1)) (R := SZ) (P := fun S3 x4 => ∀ (H : Heap) (locs : List Loc) (ls : Array Slot), va_P D vwCl (mw cyI cyJ cyZ bd S3) H → va_S (MA bd) s.heap H locs → lv_has ls 3 [(0, .ref (bd 0)), (1, .int p1), (2, .int x4)] → W p l e rl_X7_laysKey s m args below meth c H locs 0 0 (MQ below (PoV D (mw cyI cyJ cyZ bd SZ) (MA bd)) args s 0 0 (MA bd)) (F0 m 24 ls [])) (fun rec24 ih24 S3 x4 hf H locs ls hP hS hl => ?_) FU S2 (nI 0) hf _ _ _ hP hS (lv_sub hl [1, 2, 0] rfl)
  unfold m_X7_laysKey_B24 at hf
  refine lv_iload_n hx hb dX7_laysKey_24 rfl (lv_at hl 2 rfl) ?_
  refine lv_iconst (v := (nI 5)) hx hb dX7_laysKey_25 (by decide) ?_
  refine lv_icmp_ge (tgt := 69) hx hb dX7_laysKey_26 (by decide) (fun hc => ?_) (fun hc => ?_)
  · have hf := ifp hf hc
    cases Option.some.inj hf
    exact fin_v hx hb hr hlk hS hP dX7_laysKey_69
  · have hf := ifn hf hc
    refine lv_aload_n hx hb dX7_laysKey_29 rfl (lv_at hl 0 rfl) ?_
    refine va_get (D := D) (ci := 7) (v := .ref (bd 37)) (C := RX7) (T := TX7) (N := 48) hx hb hts hin7 hown hK hP 0 (mw_o (S := S3)) rfl 42 (by decide) hfl120 (fun _ h9 => h9) mw_f42 dX7_laysKey_30 ?_
    refine lv_iload_n hx hb dX7_laysKey_33 rfl (lv_at hl 2 rfl) ?_
    refine lv_iconst (v := (nI 1)) hx hb dX7_laysKey_34 (by decide) ?_
    refine lv_iadd hx hb dX7_laysKey_35 ?_
    refine lv_iload_n hx hb dX7_laysKey_36 rfl (lv_at hl 2 rfl) ?_
    refine lv_aload_n hx hb dX7_laysKey_37 rfl (lv_at hl 0 rfl) ?_
    refine va_get (D := D) (ci := 7) (v := .ref (bd 33)) (C := RX7) (T := TX7) (N := 48) hx hb hts hin7 hown hK hP 0 (mw_o (S := S3)) rfl 38 (by decide) hfl108 (fun _ h9 => h9) mw_f38 dX7_laysKey_38 ?_
    refine lv_iload_n hx hb dX7_laysKey_41 rfl (lv_at hl 1 rfl) ?_
    obtain ⟨hin, hf⟩ := zg_k hf
    refine va_iald hx hb hK hP 33 0 (mw_a38 (S := S3)) rfl (inb_k hin) dX7_laysKey_42 ?_
    refine lv_icmp_ge (tgt := 59) hx hb dX7_laysKey_43 (by decide) (fun hc => ?_) (fun hc => ?_)
    · have hf := ifp hf hc
      refine lv_ldc2 (v := (-2)) hx hb hown (hts (.constantLong RX7 240 (-2)) (by decide +kernel)) dX7_laysKey_59 ?_
      obtain ⟨hin, hf⟩ := zg_k hf
      refine va_last hx hb hK hP (mw_D hAd) hS 37 1 (mw_a42 (S := S3)) rfl (inb_k hin) dX7_laysKey_62 (fun H locs hP _ hS => ?_)
      have hP : va_P D vwCl (mw cyI cyJ cyZ bd (wj S3 42 (Int32.toNatClampNeg (x4 + (nI 1))) (-2 : Int64))) H := by rw [← mw_s42]; exact hP
      obtain ⟨S5, eS5, hf⟩ := zb_k hf
      rw [← eS5] at hP
      obtain ⟨x6, ex6, hf⟩ := zb_k hf
      refine lv_iinc (v := x6) (lv' := [(2, .int x6), (0, .ref (bd 0)), (1, .int p1)]) hx hb dX7_laysKey_63 hl (k := 2) rfl (by rw [ex6]; rfl) (by decide) rfl (fun ls hl => ?_)
      refine lv_goto (tgt := 24) hx hb dX7_laysKey_66 (by decide) ?_
      exact ih24 S5 x6 hf _ _ _ hP hS (lv_sub hl [1, 2, 0] rfl)
    · have hf := ifn hf hc
      refine lv_aload_n hx hb dX7_laysKey_46 rfl (lv_at hl 0 rfl) ?_
      refine va_get (D := D) (ci := 7) (v := .ref (bd 36)) (C := RX7) (T := TX7) (N := 48) hx hb hts hin7 hown hK hP 0 (mw_o (S := S3)) rfl 41 (by decide) hfl117 (fun _ h9 => h9) mw_f41 dX7_laysKey_47 ?_
      refine lv_iconst (v := (nI 5)) hx hb dX7_laysKey_50 (by decide) ?_
      refine lv_iload_n hx hb dX7_laysKey_51 rfl (lv_at hl 1 rfl) ?_
      refine lv_imul hx hb dX7_laysKey_52 ?_
      refine lv_iload_n hx hb dX7_laysKey_53 rfl (lv_at hl 2 rfl) ?_
      refine lv_iadd hx hb dX7_laysKey_54 ?_
      obtain ⟨hin, hf⟩ := zg_k hf
      refine va_lald hx hb hK hP 36 1 (mw_a41 (S := S3)) rfl (inb_k hin) dX7_laysKey_55 ?_
      refine lv_goto (tgt := 62) hx hb dX7_laysKey_56 (by decide) ?_
      obtain ⟨hin, hf⟩ := zg_k hf
      refine va_last hx hb hK hP (mw_D hAd) hS 37 1 (mw_a42 (S := S3)) rfl (inb_k hin) dX7_laysKey_62 (fun H locs hP _ hS => ?_)
      have hP : va_P D vwCl (mw cyI cyJ cyZ bd (wj S3 42 (Int32.toNatClampNeg (x4 + (nI 1))) (rj S3 41 (((nI 5) * p1) + x4)))) H := by rw [← mw_s42]; exact hP
      obtain ⟨S7, eS7, hf⟩ := zb_k hf
      rw [← eS7] at hP
      obtain ⟨x8, ex8, hf⟩ := zb_k hf
      refine lv_iinc (v := x8) (lv' := [(2, .int x8), (0, .ref (bd 0)), (1, .int p1)]) hx hb dX7_laysKey_63 hl (k := 2) rfl (by rw [ex8]; rfl) (by decide) rfl (fun ls hl => ?_)
      refine lv_goto (tgt := 24) hx hb dX7_laysKey_66 (by decide) ?_
      exact ih24 S7 x8 hf _ _ _ hP hS (lv_sub hl [1, 2, 0] rfl)
set_option maxHeartbeats 4000000 in
set_option maxRecDepth 100000 in
theorem c_X7_entryOf {l : Launch} {D : va_G} {cyI cyJ cyZ : ClassId} {bd : Nat → Nat}  (hAd : AdOK 41 bd)  {S : St}  {r : Int32} (hf : m_X7_entryOf S = some r) : Met l yX7_entryOf wsX7_entryOf rl_X7_entryOf (PreW D [(cyI, .int), (cyJ, .long), (cyZ, .boolean)] (mw cyI cyJ cyZ bd S) [.ref (bd 0)]) (PoI D (mw cyI cyJ cyZ bd S) (MA bd) r) 0 0 (MA bd) := by
  refine met_go (cc := cX7_entryOf) (maxL := 4) (ret := (some .int)) (by decide) rfl (Nat.le_of_ble_eq_true rfl) ?_
  intro p e s m args below meth c ls hx hb hr hml hts hown hlk hP hK hN hl
  have hown : s.vm.findClass RX7 = some m.cls := hown
  have hS : va_S (MA bd) s.heap s.heap [] := va_S.rf
  have hl : lv_has ls 4 [(0, .ref (bd 0))] := hl
  have hin7 : ∀ w ∈ wsX70, w ∈ wsX7_entryOf := by decide +kernel
  have hfl154 := hts (.fieldLink RX7 154 "MakewheelModel" "entries" "I") (by decide +kernel)
  have hfl75 := hts (.fieldLink RX7 75 "MakewheelModel" "cache" "[J") (by decide +kernel)
  have hfl120 := hts (.fieldLink RX7 120 "MakewheelModel" "key" "[J") (by decide +kernel)
  unfold m_X7_entryOf at hf
  refine lv_iconst (v := (nI 0)) hx hb dX7_entryOf_0 (by decide) ?_
  refine lv_istore_n (lv' := [(1, .int (nI 0)), (0, .ref (bd 0))]) hx hb dX7_entryOf_1 rfl hl (by decide) rfl (fun ls hl => ?_)
  refine zl1_ind (F := (m_X7_entryOf_B2 S)) (R := r) (P := fun x1 => ∀ (H : Heap) (locs : List Loc) (ls : Array Slot), va_P D vwCl (mw cyI cyJ cyZ bd S) H → va_S (MA bd) s.heap H locs → lv_has ls 4 [(0, .ref (bd 0)), (1, .int x1)] → W p l e rl_X7_entryOf s m args below meth c H locs 0 0 (MQ below (PoI D (mw cyI cyJ cyZ bd S) (MA bd) r) args s 0 0 (MA bd)) (F0 m 2 ls [])) (fun rec2 ih2 x1 hf H locs ls hP hS hl => ?_) FU (nI 0) hf _ _ _ hP hS (lv_sub hl [1, 0] rfl)
  unfold m_X7_entryOf_B2 at hf
  refine lv_iload_n hx hb dX7_entryOf_2 rfl (lv_at hl 1 rfl) ?_
  refine lv_aload_n hx hb dX7_entryOf_3 rfl (lv_at hl 0 rfl) ?_
  refine va_get (D := D) (ci := 7) (v := .int (S.1 25 0)) (C := RX7) (T := TX7) (N := 48) hx hb hts hin7 hown hK hP 0 (mw_o (S := S)) rfl 25 (by decide) hfl154 (fun _ h9 => h9) mw_f25 dX7_entryOf_4 ?_
  refine lv_icmp_ge (tgt := 69) hx hb dX7_entryOf_7 (by decide) (fun hc => ?_) (fun hc => ?_)
  · have hf := ifp hf hc
    refine lv_iconst (v := (-1)) hx hb dX7_entryOf_69 (by decide) ?_
    exact fin_i hx hb hr hlk hS hP (Option.some.inj hf) dX7_entryOf_70
  · have hf := ifn hf hc
    refine lv_iconst (v := (nI 1)) hx hb dX7_entryOf_10 (by decide) ?_
    refine lv_istore_n (lv' := [(2, .int (nI 1)), (0, .ref (bd 0)), (1, .int x1)]) hx hb dX7_entryOf_11 rfl hl (by decide) rfl (fun ls hl => ?_)
    refine lv_iconst (v := (nI 0)) hx hb dX7_entryOf_12 (by decide) ?_
    refine lv_istore_n (lv' := [(3, .int (nI 0)), (2, .int (nI 1)), (0, .ref (bd 0)), (1, .int x1)]) hx hb dX7_entryOf_13 rfl hl (by decide) rfl (fun ls hl => ?_)
    refine zl2_ind (F := (m_X7_entryOf_B14 x1 rec2 S)) (R := r) (P := fun x2 x3 => ∀ (H : Heap) (locs : List Loc) (ls : Array Slot), va_P D vwCl (mw cyI cyJ cyZ bd S) H → va_S (MA bd) s.heap H locs → lv_has ls 4 [(0, .ref (bd 0)), (1, .int x1), (2, .int x2), (3, .int x3)] → W p l e rl_X7_entryOf s m args below meth c H locs 0 0 (MQ below (PoI D (mw cyI cyJ cyZ bd S) (MA bd) r) args s 0 0 (MA bd)) (F0 m 14 ls [])) (fun rec14 ih14 x2 x3 hf H locs ls hP hS hl => ?_) FU (nI 1) (nI 0) hf _ _ _ hP hS (lv_sub hl [2, 3, 1, 0] rfl)
    unfold m_X7_entryOf_B14 at hf
    refine lv_iload_n hx hb dX7_entryOf_14 rfl (lv_at hl 3 rfl) ?_
    refine lv_bipush (v := (nI 6)) hx hb dX7_entryOf_15 (by decide) ?_
    have hJ57 : m_X7_entryOf_J57 x2 x1 rec2 = some r → ∀ (H : Heap) (locs : List Loc) (ls : Array Slot), va_P D vwCl (mw cyI cyJ cyZ bd S) H → va_S (MA bd) s.heap H locs → lv_has ls 4 [(0, .ref (bd 0)), (1, .int x1), (2, .int x2)] → W p l e rl_X7_entryOf s m args below meth c H locs 0 0 (MQ below (PoI D (mw cyI cyJ cyZ bd S) (MA bd) r) args s 0 0 (MA bd)) (F0 m 57 ls []) := by
      intro  hf H locs ls hP hS hl
      unfold m_X7_entryOf_J57 at hf
      refine lv_iload_n hx hb dX7_entryOf_57 rfl (lv_at hl 2 rfl) ?_
      refine lv_if_eq (tgt := 63) hx hb dX7_entryOf_58 (by decide) (fun hc => ?_) (fun hc => ?_)
      · have hf := ifp hf hc
        obtain ⟨x4, ex4, hf⟩ := zb_k hf
        refine lv_iinc (v := x4) (lv' := [(1, .int x4), (0, .ref (bd 0)), (2, .int x2)]) hx hb dX7_entryOf_63 hl (k := 1) rfl (by rw [ex4]; rfl) (by decide) rfl (fun ls hl => ?_)
        refine lv_goto (tgt := 2) hx hb dX7_entryOf_66 (by decide) ?_
        exact ih2 x4 hf _ _ _ hP hS (lv_sub hl [1, 0] rfl)
      · have hf := ifn hf hc
        refine lv_iload_n hx hb dX7_entryOf_61 rfl (lv_at hl 1 rfl) ?_
        exact fin_i hx hb hr hlk hS hP (Option.some.inj hf) dX7_entryOf_62
    refine lv_icmp_ge (tgt := 57) hx hb dX7_entryOf_17 (by decide) (fun hc => ?_) (fun hc => ?_)
    · have hf := ifp hf hc
      exact hJ57  hf _ _ _ hP hS (lv_sub hl [0, 1, 2] rfl)
    · have hf := ifn hf hc
      refine lv_iload_n hx hb dX7_entryOf_20 rfl (lv_at hl 2 rfl) ?_
      refine lv_if_eq (tgt := 57) hx hb dX7_entryOf_21 (by decide) (fun hc => ?_) (fun hc => ?_)
      · have hf := ifp hf hc
        exact hJ57  hf _ _ _ hP hS (lv_sub hl [0, 1, 2] rfl)
      · have hf := ifn hf hc
        refine lv_aload_n hx hb dX7_entryOf_24 rfl (lv_at hl 0 rfl) ?_
        refine va_get (D := D) (ci := 7) (v := .ref (bd 22)) (C := RX7) (T := TX7) (N := 48) hx hb hts hin7 hown hK hP 0 (mw_o (S := S)) rfl 26 (by decide) hfl75 (fun _ h9 => h9) mw_f26 dX7_entryOf_25 ?_
        refine lv_bipush (v := (nI 6)) hx hb dX7_entryOf_28 (by decide) ?_
        refine lv_iload_n hx hb dX7_entryOf_30 rfl (lv_at hl 1 rfl) ?_
        refine lv_imul hx hb dX7_entryOf_31 ?_
        refine lv_iload_n hx hb dX7_entryOf_32 rfl (lv_at hl 3 rfl) ?_
        refine lv_iadd hx hb dX7_entryOf_33 ?_
        obtain ⟨hin, hf⟩ := zg_k hf
        refine va_lald hx hb hK hP 22 1 (mw_a26 (S := S)) rfl (inb_k hin) dX7_entryOf_34 ?_
        refine lv_aload_n hx hb dX7_entryOf_35 rfl (lv_at hl 0 rfl) ?_
        refine va_get (D := D) (ci := 7) (v := .ref (bd 37)) (C := RX7) (T := TX7) (N := 48) hx hb hts hin7 hown hK hP 0 (mw_o (S := S)) rfl 42 (by decide) hfl120 (fun _ h9 => h9) mw_f42 dX7_entryOf_36 ?_
        refine lv_iload_n hx hb dX7_entryOf_39 rfl (lv_at hl 3 rfl) ?_
        obtain ⟨hin, hf⟩ := zg_k hf
        refine va_lald hx hb hK hP 37 1 (mw_a42 (S := S)) rfl (inb_k hin) dX7_entryOf_40 ?_
        refine W.lcmp hx hb dX7_entryOf_41 ?_
        refine lv_if_ne (tgt := 49) hx hb dX7_entryOf_42 (by decide) (fun hc => ?_) (fun hc => ?_)
        · have hf := ifn hf hc
          refine lv_iconst (v := (nI 0)) hx hb dX7_entryOf_49 (by decide) ?_
          refine lv_istore_n (lv' := [(2, .int (nI 0)), (0, .ref (bd 0)), (1, .int x1), (3, .int x3)]) hx hb dX7_entryOf_50 rfl hl (by decide) rfl (fun ls hl => ?_)
          obtain ⟨x5, ex5, hf⟩ := zb_k hf
          refine lv_iinc (v := x5) (lv' := [(3, .int x5), (2, .int (nI 0)), (0, .ref (bd 0)), (1, .int x1)]) hx hb dX7_entryOf_51 hl (k := 3) rfl (by rw [ex5]; rfl) (by decide) rfl (fun ls hl => ?_)
          refine lv_goto (tgt := 14) hx hb dX7_entryOf_54 (by decide) ?_
          exact ih14 (nI 0) x5 hf _ _ _ hP hS (lv_sub hl [2, 3, 1, 0] rfl)
        · have hf := ifp hf hc
          refine lv_iconst (v := (nI 1)) hx hb dX7_entryOf_45 (by decide) ?_
          refine lv_goto (tgt := 50) hx hb dX7_entryOf_46 (by decide) ?_
          refine lv_istore_n (lv' := [(2, .int (nI 1)), (0, .ref (bd 0)), (1, .int x1), (3, .int x3)]) hx hb dX7_entryOf_50 rfl hl (by decide) rfl (fun ls hl => ?_)
          obtain ⟨x6, ex6, hf⟩ := zb_k hf
          refine lv_iinc (v := x6) (lv' := [(3, .int x6), (2, .int (nI 1)), (0, .ref (bd 0)), (1, .int x1)]) hx hb dX7_entryOf_51 hl (k := 3) rfl (by rw [ex6]; rfl) (by decide) rfl (fun ls hl => ?_)
          refine lv_goto (tgt := 14) hx hb dX7_entryOf_54 (by decide) ?_
          exact ih14 (nI 1) x6 hf _ _ _ hP hS (lv_sub hl [2, 3, 1, 0] rfl)
set_option maxHeartbeats 4000000 in
set_option maxRecDepth 100000 in
theorem c_X7_drops {l : Launch} {D : va_G} {cyI cyJ cyZ : ClassId} {bd : Nat → Nat}  (hAd : AdOK 41 bd)  {S : St} {p1 : Int32} {SZ : St} (hf : m_X7_drops S p1 = some SZ) : Met l yX7_drops wsX7_drops rl_X7_drops (PreW D [(cyI, .int), (cyJ, .long), (cyZ, .boolean)] (mw cyI cyJ cyZ bd S) [.ref (bd 0), .int p1]) (PoV D (mw cyI cyJ cyZ bd SZ) (MA bd)) 0 0 (MA bd) := by
  refine met_go (cc := cX7_drops) (maxL := 3) (ret := none) (by decide) rfl (Nat.le_of_ble_eq_true rfl) ?_
  intro p e s m args below meth c ls hx hb hr hml hts hown hlk hP hK hN hl
  have hown : s.vm.findClass RX7 = some m.cls := hown
  have hS : va_S (MA bd) s.heap s.heap [] := va_S.rf
  have hl : lv_has ls 3 [(0, .ref (bd 0)), (1, .int p1)] := hl
  have hin7 : ∀ w ∈ wsX70, w ∈ wsX7_drops := by decide +kernel
  have hfl154 := hts (.fieldLink RX7 154 "MakewheelModel" "entries" "I") (by decide +kernel)
  have hfl78 := hts (.fieldLink RX7 78 "MakewheelModel" "cacheValue" "[I") (by decide +kernel)
  have hfl81 := hts (.fieldLink RX7 81 "MakewheelModel" "cacheFrom" "[I") (by decide +kernel)
  have hfl75 := hts (.fieldLink RX7 75 "MakewheelModel" "cache" "[J") (by decide +kernel)
  unfold m_X7_drops at hf
  refine lv_aload_n hx hb dX7_drops_0 rfl (lv_at hl 0 rfl) ?_
  refine lv_dup hx hb dX7_drops_1 rfl ?_
  refine va_get (D := D) (ci := 7) (v := .int (S.1 25 0)) (C := RX7) (T := TX7) (N := 48) hx hb hts hin7 hown hK hP 0 (mw_o (S := S)) rfl 25 (by decide) hfl154 (fun _ h9 => h9) mw_f25 dX7_drops_2 ?_
  refine lv_iconst (v := (nI 1)) hx hb dX7_drops_5 (by decide) ?_
  refine lv_isub hx hb dX7_drops_6 ?_
  refine va_put (D := D) (ci := 7) (v := .int (rs S 25 - (nI 1))) (ty := .int) (C := RX7) (T := TX7) (N := 48) hx hb hts hin7 tyX7 tyX7_ok nmX7 hown hK hP (mw_D hAd) hS 0 (mw_o (S := S)) rfl 25 (by decide) hfl154 (fun _ h9 => h9) rfl (by decide +kernel) rfl rfl (Nat.le_of_ble_eq_true rfl) dX7_drops_7 (fun H locs hP _ hS => ?_)
  have hP : va_P D vwCl (mw cyI cyJ cyZ bd (wi S 25 0 (rs S 25 - (nI 1)))) H := by rw [← mw_s25]; exact hP
  obtain ⟨S1, eS1, hf⟩ := zb_k hf
  rw [← eS1] at hP
  refine lv_bipush (v := (nI 6)) hx hb dX7_drops_10 (by decide) ?_
  refine lv_iload_n hx hb dX7_drops_12 rfl (lv_at hl 1 rfl) ?_
  refine lv_imul hx hb dX7_drops_13 ?_
  refine lv_topi (fun x2 ex2 => ?_)
  have hf := zb_x hf ex2
  refine lv_istore_n (lv' := [(2, .int x2), (0, .ref (bd 0)), (1, .int p1)]) hx hb dX7_drops_14 rfl hl (by decide) rfl (fun ls hl => ?_)
  refine zl2_ind (F := (m_X7_drops_B15 p1)) (R := SZ) (P := fun S3 x4 => ∀ (H : Heap) (locs : List Loc) (ls : Array Slot), va_P D vwCl (mw cyI cyJ cyZ bd S3) H → va_S (MA bd) s.heap H locs → lv_has ls 3 [(0, .ref (bd 0)), (1, .int p1), (2, .int x4)] → W p l e rl_X7_drops s m args below meth c H locs 0 0 (MQ below (PoV D (mw cyI cyJ cyZ bd SZ) (MA bd)) args s 0 0 (MA bd)) (F0 m 15 ls [])) (fun rec15 ih15 S3 x4 hf H locs ls hP hS hl => ?_) FU S1 x2 hf _ _ _ hP hS (lv_sub hl [1, 2, 0] rfl)
  unfold m_X7_drops_B15 at hf
  refine lv_iload_n hx hb dX7_drops_15 rfl (lv_at hl 2 rfl) ?_
  refine lv_bipush (v := (nI 6)) hx hb dX7_drops_16 (by decide) ?_
  refine lv_aload_n hx hb dX7_drops_18 rfl (lv_at hl 0 rfl) ?_
  refine va_get (D := D) (ci := 7) (v := .int (S3.1 25 0)) (C := RX7) (T := TX7) (N := 48) hx hb hts hin7 hown hK hP 0 (mw_o (S := S3)) rfl 25 (by decide) hfl154 (fun _ h9 => h9) mw_f25 dX7_drops_19 ?_
  refine lv_imul hx hb dX7_drops_22 ?_
  refine lv_icmp_ge (tgt := 47) hx hb dX7_drops_23 (by decide) (fun hc => ?_) (fun hc => ?_)
  · have hf := ifp hf hc
    refine lv_iload_n hx hb dX7_drops_47 rfl (lv_at hl 1 rfl) ?_
    refine lv_istore_n (lv' := [(2, .int p1), (0, .ref (bd 0)), (1, .int p1)]) hx hb dX7_drops_48 rfl hl (by decide) rfl (fun ls hl => ?_)
    refine zl2_ind (F := m_X7_drops_B49) (R := SZ) (P := fun S5 x6 => ∀ (H : Heap) (locs : List Loc) (ls : Array Slot), va_P D vwCl (mw cyI cyJ cyZ bd S5) H → va_S (MA bd) s.heap H locs → lv_has ls 3 [(0, .ref (bd 0)), (2, .int x6)] → W p l e rl_X7_drops s m args below meth c H locs 0 0 (MQ below (PoV D (mw cyI cyJ cyZ bd SZ) (MA bd)) args s 0 0 (MA bd)) (F0 m 49 ls [])) (fun rec49 ih49 S5 x6 hf H locs ls hP hS hl => ?_) FU S3 p1 hf _ _ _ hP hS (lv_sub hl [1, 0] rfl)
    unfold m_X7_drops_B49 at hf
    refine lv_iload_n hx hb dX7_drops_49 rfl (lv_at hl 1 rfl) ?_
    refine lv_aload_n hx hb dX7_drops_50 rfl (lv_at hl 0 rfl) ?_
    refine va_get (D := D) (ci := 7) (v := .int (S5.1 25 0)) (C := RX7) (T := TX7) (N := 48) hx hb hts hin7 hown hK hP 0 (mw_o (S := S5)) rfl 25 (by decide) hfl154 (fun _ h9 => h9) mw_f25 dX7_drops_51 ?_
    refine lv_icmp_ge (tgt := 91) hx hb dX7_drops_54 (by decide) (fun hc => ?_) (fun hc => ?_)
    · have hf := ifp hf hc
      cases Option.some.inj hf
      exact fin_v hx hb hr hlk hS hP dX7_drops_91
    · have hf := ifn hf hc
      refine lv_aload_n hx hb dX7_drops_57 rfl (lv_at hl 0 rfl) ?_
      refine va_get (D := D) (ci := 7) (v := .ref (bd 23)) (C := RX7) (T := TX7) (N := 48) hx hb hts hin7 hown hK hP 0 (mw_o (S := S5)) rfl 27 (by decide) hfl78 (fun _ h9 => h9) mw_f27 dX7_drops_58 ?_
      refine lv_iload_n hx hb dX7_drops_61 rfl (lv_at hl 1 rfl) ?_
      refine lv_aload_n hx hb dX7_drops_62 rfl (lv_at hl 0 rfl) ?_
      refine va_get (D := D) (ci := 7) (v := .ref (bd 23)) (C := RX7) (T := TX7) (N := 48) hx hb hts hin7 hown hK hP 0 (mw_o (S := S5)) rfl 27 (by decide) hfl78 (fun _ h9 => h9) mw_f27 dX7_drops_63 ?_
      refine lv_iload_n hx hb dX7_drops_66 rfl (lv_at hl 1 rfl) ?_
      refine lv_iconst (v := (nI 1)) hx hb dX7_drops_67 (by decide) ?_
      refine lv_iadd hx hb dX7_drops_68 ?_
      obtain ⟨hin, hf⟩ := zg_k hf
      refine va_iald hx hb hK hP 23 0 (mw_a27 (S := S5)) rfl (inb_k hin) dX7_drops_69 ?_
      obtain ⟨hin, hf⟩ := zg_k hf
      refine va_iast hx hb hK hP (mw_D hAd) hS 23 0 (mw_a27 (S := S5)) rfl (inb_k hin) dX7_drops_70 (fun H locs hP _ hS => ?_)
      have hP : va_P D vwCl (mw cyI cyJ cyZ bd (wi S5 27 (Int32.toNatClampNeg x6) (ri S5 27 (x6 + (nI 1))))) H := by rw [← mw_s27]; exact hP
      obtain ⟨S7, eS7, hf⟩ := zb_k hf
      rw [← eS7] at hP
      refine lv_aload_n hx hb dX7_drops_71 rfl (lv_at hl 0 rfl) ?_
      refine va_get (D := D) (ci := 7) (v := .ref (bd 24)) (C := RX7) (T := TX7) (N := 48) hx hb hts hin7 hown hK hP 0 (mw_o (S := S7)) rfl 28 (by decide) hfl81 (fun _ h9 => h9) mw_f28 dX7_drops_72 ?_
      refine lv_iload_n hx hb dX7_drops_75 rfl (lv_at hl 1 rfl) ?_
      refine lv_aload_n hx hb dX7_drops_76 rfl (lv_at hl 0 rfl) ?_
      refine va_get (D := D) (ci := 7) (v := .ref (bd 24)) (C := RX7) (T := TX7) (N := 48) hx hb hts hin7 hown hK hP 0 (mw_o (S := S7)) rfl 28 (by decide) hfl81 (fun _ h9 => h9) mw_f28 dX7_drops_77 ?_
      refine lv_iload_n hx hb dX7_drops_80 rfl (lv_at hl 1 rfl) ?_
      refine lv_iconst (v := (nI 1)) hx hb dX7_drops_81 (by decide) ?_
      refine lv_iadd hx hb dX7_drops_82 ?_
      obtain ⟨hin, hf⟩ := zg_k hf
      refine va_iald hx hb hK hP 24 0 (mw_a28 (S := S7)) rfl (inb_k hin) dX7_drops_83 ?_
      obtain ⟨hin, hf⟩ := zg_k hf
      refine va_iast hx hb hK hP (mw_D hAd) hS 24 0 (mw_a28 (S := S7)) rfl (inb_k hin) dX7_drops_84 (fun H locs hP _ hS => ?_)
      have hP : va_P D vwCl (mw cyI cyJ cyZ bd (wi S7 28 (Int32.toNatClampNeg x6) (ri S7 28 (x6 + (nI 1))))) H := by rw [← mw_s28]; exact hP
      obtain ⟨S8, eS8, hf⟩ := zb_k hf
      rw [← eS8] at hP
      obtain ⟨x9, ex9, hf⟩ := zb_k hf
      refine lv_iinc (v := x9) (lv' := [(2, .int x9), (0, .ref (bd 0))]) hx hb dX7_drops_85 hl (k := 1) rfl (by rw [ex9]; rfl) (by decide) rfl (fun ls hl => ?_)
      refine lv_goto (tgt := 49) hx hb dX7_drops_88 (by decide) ?_
      exact ih49 S8 x9 hf _ _ _ hP hS (lv_sub hl [1, 0] rfl)
  · have hf := ifn hf hc
    refine lv_aload_n hx hb dX7_drops_26 rfl (lv_at hl 0 rfl) ?_
    refine va_get (D := D) (ci := 7) (v := .ref (bd 22)) (C := RX7) (T := TX7) (N := 48) hx hb hts hin7 hown hK hP 0 (mw_o (S := S3)) rfl 26 (by decide) hfl75 (fun _ h9 => h9) mw_f26 dX7_drops_27 ?_
    refine lv_iload_n hx hb dX7_drops_30 rfl (lv_at hl 2 rfl) ?_
    refine lv_aload_n hx hb dX7_drops_31 rfl (lv_at hl 0 rfl) ?_
    refine va_get (D := D) (ci := 7) (v := .ref (bd 22)) (C := RX7) (T := TX7) (N := 48) hx hb hts hin7 hown hK hP 0 (mw_o (S := S3)) rfl 26 (by decide) hfl75 (fun _ h9 => h9) mw_f26 dX7_drops_32 ?_
    refine lv_iload_n hx hb dX7_drops_35 rfl (lv_at hl 2 rfl) ?_
    refine lv_bipush (v := (nI 6)) hx hb dX7_drops_36 (by decide) ?_
    refine lv_iadd hx hb dX7_drops_38 ?_
    obtain ⟨hin, hf⟩ := zg_k hf
    refine va_lald hx hb hK hP 22 1 (mw_a26 (S := S3)) rfl (inb_k hin) dX7_drops_39 ?_
    obtain ⟨hin, hf⟩ := zg_k hf
    refine va_last hx hb hK hP (mw_D hAd) hS 22 1 (mw_a26 (S := S3)) rfl (inb_k hin) dX7_drops_40 (fun H locs hP _ hS => ?_)
    have hP : va_P D vwCl (mw cyI cyJ cyZ bd (wj S3 26 (Int32.toNatClampNeg x4) (rj S3 26 (x4 + (nI 6))))) H := by rw [← mw_s26]; exact hP
    obtain ⟨S10, eS10, hf⟩ := zb_k hf
    rw [← eS10] at hP
    obtain ⟨x11, ex11, hf⟩ := zb_k hf
    refine lv_iinc (v := x11) (lv' := [(2, .int x11), (0, .ref (bd 0)), (1, .int p1)]) hx hb dX7_drops_41 hl (k := 2) rfl (by rw [ex11]; rfl) (by decide) rfl (fun ls hl => ?_)
    refine lv_goto (tgt := 15) hx hb dX7_drops_44 (by decide) ?_
    exact ih15 S10 x11 hf _ _ _ hP hS (lv_sub hl [1, 2, 0] rfl)
set_option maxHeartbeats 4000000 in
set_option maxRecDepth 100000 in
theorem c_X7_keeps {l : Launch} {D : va_G} {cyI cyJ cyZ : ClassId} {bd : Nat → Nat}  (hAd : AdOK 41 bd)  {S : St} {p1 : Int32} {p2 : Int32} {p3 : Int32} {SZ : St} (hf : m_X7_keeps S p1 p2 p3 = some SZ) : Met l yX7_keeps wsX7_keeps rl_X7_keeps (PreW D [(cyI, .int), (cyJ, .long), (cyZ, .boolean)] (mw cyI cyJ cyZ bd S) [.ref (bd 0), .int p1, .int p2, .int p3]) (PoV D (mw cyI cyJ cyZ bd SZ) (MA bd)) 0 0 (MA bd) := by
  refine met_go (cc := cX7_keeps) (maxL := 6) (ret := none) (by decide) rfl (Nat.le_of_ble_eq_true rfl) ?_
  intro p e s m args below meth c ls hx hb hr hml hts hown hlk hP hK hN hl
  have hown : s.vm.findClass RX7 = some m.cls := hown
  have hS : va_S (MA bd) s.heap s.heap [] := va_S.rf
  have hl : lv_has ls 6 [(0, .ref (bd 0)), (1, .int p1), (2, .int p2), (3, .int p3)] := hl
  have hin7 : ∀ w ∈ wsX70, w ∈ wsX7_keeps := by decide +kernel
  have hfl44 := hts (.fieldLink RX7 44 "MakewheelModel" "isKept" "[Z") (by decide +kernel)
  have hfl72 := hts (.fieldLink RX7 72 "MakewheelModel" "isDropped" "[Z") (by decide +kernel)
  have hfl47 := hts (.fieldLink RX7 47 "MakewheelModel" "keptRule" "[J") (by decide +kernel)
  have hfl51 := hts (.fieldLink RX7 51 "MakewheelModel" "keptTime" "[I") (by decide +kernel)
  have hfl22 := hts (.fieldLink RX7 22 "MakewheelModel" "times" "[I") (by decide +kernel)
  have hfl54 := hts (.fieldLink RX7 54 "MakewheelModel" "keptReads" "[I") (by decide +kernel)
  have hfl108 := hts (.fieldLink RX7 108 "MakewheelModel" "reads" "[I") (by decide +kernel)
  have hfl66 := hts (.fieldLink RX7 66 "MakewheelModel" "keptValue" "[I") (by decide +kernel)
  have hfl69 := hts (.fieldLink RX7 69 "MakewheelModel" "keptFrom" "[I") (by decide +kernel)
  have hfl57 := hts (.fieldLink RX7 57 "MakewheelModel" "keptSlot" "[I") (by decide +kernel)
  have hfl111 := hts (.fieldLink RX7 111 "MakewheelModel" "slots" "[I") (by decide +kernel)
  have hfl60 := hts (.fieldLink RX7 60 "MakewheelModel" "keptFile" "[I") (by decide +kernel)
  have hfl114 := hts (.fieldLink RX7 114 "MakewheelModel" "founds" "[I") (by decide +kernel)
  have hfl63 := hts (.fieldLink RX7 63 "MakewheelModel" "keptRead" "[J") (by decide +kernel)
  have hfl117 := hts (.fieldLink RX7 117 "MakewheelModel" "readValues" "[J") (by decide +kernel)
  unfold m_X7_keeps at hf
  refine lv_iload_n hx hb dX7_keeps_0 rfl (lv_at hl 1 rfl) ?_
  refine lv_iconst (v := (nI 2)) hx hb dX7_keeps_1 (by decide) ?_
  refine lv_idiv hx hb dX7_keeps_2 (by decide) ?_
  refine lv_topi (fun x1 ex1 => ?_)
  have hf := zb_x hf ex1
  refine lv_istore (lv' := [(4, .int x1), (0, .ref (bd 0)), (1, .int p1), (2, .int p2), (3, .int p3)]) hx hb dX7_keeps_3 hl (by decide) rfl (fun ls hl => ?_)
  refine lv_aload_n hx hb dX7_keeps_5 rfl (lv_at hl 1 rfl) ?_
  refine va_get (D := D) (ci := 7) (v := .ref (bd 12)) (C := RX7) (T := TX7) (N := 48) hx hb hts hin7 hown hK hP 0 (mw_o (S := S)) rfl 15 (by decide) hfl44 (fun _ h9 => h9) mw_f15 dX7_keeps_6 ?_
  refine lv_iload_n hx hb dX7_keeps_9 rfl (lv_at hl 2 rfl) ?_
  refine lv_iconst (v := (nI 1)) hx hb dX7_keeps_10 (by decide) ?_
  obtain ⟨hin, hf⟩ := zg_k hf
  refine va_zast hx hb hK hP (mw_D hAd) hS 12 2 (mw_a15 (S := S)) rfl (inb_k hin) dX7_keeps_11 (fun H locs hP _ hS => ?_)
  have hP : va_P D vwCl (mw cyI cyJ cyZ bd (wi S 15 (Int32.toNatClampNeg p1) (nI 1))) H := by rw [← mw_s15]; exact hP
  obtain ⟨S2, eS2, hf⟩ := zb_k hf
  rw [← eS2] at hP
  refine lv_aload_n hx hb dX7_keeps_12 rfl (lv_at hl 1 rfl) ?_
  refine va_get (D := D) (ci := 7) (v := .ref (bd 21)) (C := RX7) (T := TX7) (N := 48) hx hb hts hin7 hown hK hP 0 (mw_o (S := S2)) rfl 24 (by decide) hfl72 (fun _ h9 => h9) mw_f24 dX7_keeps_13 ?_
  refine lv_iload_n hx hb dX7_keeps_16 rfl (lv_at hl 2 rfl) ?_
  refine lv_iconst (v := (nI 0)) hx hb dX7_keeps_17 (by decide) ?_
  obtain ⟨hin, hf⟩ := zg_k hf
  refine va_zast hx hb hK hP (mw_D hAd) hS 21 2 (mw_a24 (S := S2)) rfl (inb_k hin) dX7_keeps_18 (fun H locs hP _ hS => ?_)
  have hP : va_P D vwCl (mw cyI cyJ cyZ bd (wi S2 24 (Int32.toNatClampNeg p1) (nI 0))) H := by rw [← mw_s24]; exact hP
  obtain ⟨S3, eS3, hf⟩ := zb_k hf
  rw [← eS3] at hP
  refine lv_aload_n hx hb dX7_keeps_19 rfl (lv_at hl 1 rfl) ?_
  refine va_get (D := D) (ci := 7) (v := .ref (bd 13)) (C := RX7) (T := TX7) (N := 48) hx hb hts hin7 hown hK hP 0 (mw_o (S := S3)) rfl 16 (by decide) hfl47 (fun _ h9 => h9) mw_f16 dX7_keeps_20 ?_
  refine lv_iload_n hx hb dX7_keeps_23 rfl (lv_at hl 2 rfl) ?_
  refine lv_aload_n hx hb dX7_keeps_24 rfl (lv_at hl 1 rfl) ?_
  refine lv_iload hx hb dX7_keeps_25 (lv_at hl 0 rfl) ?_
  obtain ⟨x4, hc27, hf⟩ := zo_k hf
  refine cal_l (rnV (As := [.int x1]) (rest := [.int p1, .ref (bd 13)]) ⟨hx, hb, hml, hown, hts⟩ (c_X7_ruleOf hAd  hc27) (cwV 1 hts gX7_keeps_X7_ruleOf rfl rfl rfl cdV_X7_ruleOf ⟨Nat.le_of_ble_eq_true rfl, Nat.le_of_ble_eq_true rfl⟩) hP hK hN (mw_o (S := S3)) rfl rfl hl.1 rfl (Nat.le_of_ble_eq_true rfl) dX7_keeps_27 ⟨Nat.zero_le _, Nat.zero_le _⟩) hS (fun H locs hP hS => ?_)
  obtain ⟨hin, hf⟩ := zg_k hf
  refine va_last hx hb hK hP (mw_D hAd) hS 13 1 (mw_a16 (S := S3)) rfl (inb_k hin) dX7_keeps_30 (fun H locs hP _ hS => ?_)
  have hP : va_P D vwCl (mw cyI cyJ cyZ bd (wj S3 16 (Int32.toNatClampNeg p1) x4)) H := by rw [← mw_s16]; exact hP
  obtain ⟨S5, eS5, hf⟩ := zb_k hf
  rw [← eS5] at hP
  refine lv_aload_n hx hb dX7_keeps_31 rfl (lv_at hl 1 rfl) ?_
  refine va_get (D := D) (ci := 7) (v := .ref (bd 14)) (C := RX7) (T := TX7) (N := 48) hx hb hts hin7 hown hK hP 0 (mw_o (S := S5)) rfl 17 (by decide) hfl51 (fun _ h9 => h9) mw_f17 dX7_keeps_32 ?_
  refine lv_iload_n hx hb dX7_keeps_35 rfl (lv_at hl 2 rfl) ?_
  refine lv_aload_n hx hb dX7_keeps_36 rfl (lv_at hl 1 rfl) ?_
  refine va_get (D := D) (ci := 7) (v := .ref (bd 5)) (C := RX7) (T := TX7) (N := 48) hx hb hts hin7 hown hK hP 0 (mw_o (S := S5)) rfl 4 (by decide) hfl22 (fun _ h9 => h9) mw_f4 dX7_keeps_37 ?_
  refine lv_iload hx hb dX7_keeps_40 (lv_at hl 0 rfl) ?_
  obtain ⟨hin, hf⟩ := zg_k hf
  refine va_iald hx hb hK hP 5 0 (mw_a4 (S := S5)) rfl (inb_k hin) dX7_keeps_42 ?_
  obtain ⟨hin, hf⟩ := zg_k hf
  refine va_iast hx hb hK hP (mw_D hAd) hS 14 0 (mw_a17 (S := S5)) rfl (inb_k hin) dX7_keeps_43 (fun H locs hP _ hS => ?_)
  have hP : va_P D vwCl (mw cyI cyJ cyZ bd (wi S5 17 (Int32.toNatClampNeg p1) (ri S5 4 x1))) H := by rw [← mw_s17]; exact hP
  obtain ⟨S6, eS6, hf⟩ := zb_k hf
  rw [← eS6] at hP
  refine lv_aload_n hx hb dX7_keeps_44 rfl (lv_at hl 1 rfl) ?_
  refine va_get (D := D) (ci := 7) (v := .ref (bd 15)) (C := RX7) (T := TX7) (N := 48) hx hb hts hin7 hown hK hP 0 (mw_o (S := S6)) rfl 18 (by decide) hfl54 (fun _ h9 => h9) mw_f18 dX7_keeps_45 ?_
  refine lv_iload_n hx hb dX7_keeps_48 rfl (lv_at hl 2 rfl) ?_
  refine lv_aload_n hx hb dX7_keeps_49 rfl (lv_at hl 1 rfl) ?_
  refine va_get (D := D) (ci := 7) (v := .ref (bd 33)) (C := RX7) (T := TX7) (N := 48) hx hb hts hin7 hown hK hP 0 (mw_o (S := S6)) rfl 38 (by decide) hfl108 (fun _ h9 => h9) mw_f38 dX7_keeps_50 ?_
  refine lv_iload_n hx hb dX7_keeps_53 rfl (lv_at hl 2 rfl) ?_
  obtain ⟨hin, hf⟩ := zg_k hf
  refine va_iald hx hb hK hP 33 0 (mw_a38 (S := S6)) rfl (inb_k hin) dX7_keeps_54 ?_
  obtain ⟨hin, hf⟩ := zg_k hf
  refine va_iast hx hb hK hP (mw_D hAd) hS 15 0 (mw_a18 (S := S6)) rfl (inb_k hin) dX7_keeps_55 (fun H locs hP _ hS => ?_)
  have hP : va_P D vwCl (mw cyI cyJ cyZ bd (wi S6 18 (Int32.toNatClampNeg p1) (ri S6 38 p1))) H := by rw [← mw_s18]; exact hP
  obtain ⟨S7, eS7, hf⟩ := zb_k hf
  rw [← eS7] at hP
  refine lv_iconst (v := (nI 5)) hx hb dX7_keeps_56 (by decide) ?_
  refine lv_iload_n hx hb dX7_keeps_57 rfl (lv_at hl 2 rfl) ?_
  refine lv_imul hx hb dX7_keeps_58 ?_
  refine lv_topi (fun x8 ex8 => ?_)
  have hf := zb_x hf ex8
  refine lv_istore (lv' := [(5, .int x8), (4, .int x1), (0, .ref (bd 0)), (1, .int p1), (2, .int p2), (3, .int p3)]) hx hb dX7_keeps_59 hl (by decide) rfl (fun ls hl => ?_)
  refine zl2_ind (F := (m_X7_keeps_B61 p1 p2 p3)) (R := SZ) (P := fun S9 x10 => ∀ (H : Heap) (locs : List Loc) (ls : Array Slot), va_P D vwCl (mw cyI cyJ cyZ bd S9) H → va_S (MA bd) s.heap H locs → lv_has ls 6 [(0, .ref (bd 0)), (1, .int p1), (2, .int p2), (3, .int p3), (5, .int x10)] → W p l e rl_X7_keeps s m args below meth c H locs 0 0 (MQ below (PoV D (mw cyI cyJ cyZ bd SZ) (MA bd)) args s 0 0 (MA bd)) (F0 m 61 ls [])) (fun rec61 ih61 S9 x10 hf H locs ls hP hS hl => ?_) FU S7 x8 hf _ _ _ hP hS (lv_sub hl [2, 3, 4, 5, 0] rfl)
  unfold m_X7_keeps_B61 at hf
  refine lv_iload hx hb dX7_keeps_61 (lv_at hl 4 rfl) ?_
  refine lv_iconst (v := (nI 5)) hx hb dX7_keeps_63 (by decide) ?_
  refine lv_iload_n hx hb dX7_keeps_64 rfl (lv_at hl 1 rfl) ?_
  refine lv_imul hx hb dX7_keeps_65 ?_
  refine lv_iconst (v := (nI 5)) hx hb dX7_keeps_66 (by decide) ?_
  refine lv_iadd hx hb dX7_keeps_67 ?_
  refine lv_icmp_ge (tgt := 119) hx hb dX7_keeps_68 (by decide) (fun hc => ?_) (fun hc => ?_)
  · have hf := ifp hf hc
    refine lv_aload_n hx hb dX7_keeps_119 rfl (lv_at hl 0 rfl) ?_
    refine va_get (D := D) (ci := 7) (v := .ref (bd 19)) (C := RX7) (T := TX7) (N := 48) hx hb hts hin7 hown hK hP 0 (mw_o (S := S9)) rfl 22 (by decide) hfl66 (fun _ h9 => h9) mw_f22 dX7_keeps_120 ?_
    refine lv_iload_n hx hb dX7_keeps_123 rfl (lv_at hl 1 rfl) ?_
    refine lv_iload_n hx hb dX7_keeps_124 rfl (lv_at hl 2 rfl) ?_
    obtain ⟨hin, hf⟩ := zg_k hf
    refine va_iast hx hb hK hP (mw_D hAd) hS 19 0 (mw_a22 (S := S9)) rfl (inb_k hin) dX7_keeps_125 (fun H locs hP _ hS => ?_)
    have hP : va_P D vwCl (mw cyI cyJ cyZ bd (wi S9 22 (Int32.toNatClampNeg p1) p2)) H := by rw [← mw_s22]; exact hP
    obtain ⟨S11, eS11, hf⟩ := zb_k hf
    rw [← eS11] at hP
    refine lv_aload_n hx hb dX7_keeps_126 rfl (lv_at hl 0 rfl) ?_
    refine va_get (D := D) (ci := 7) (v := .ref (bd 20)) (C := RX7) (T := TX7) (N := 48) hx hb hts hin7 hown hK hP 0 (mw_o (S := S11)) rfl 23 (by decide) hfl69 (fun _ h9 => h9) mw_f23 dX7_keeps_127 ?_
    refine lv_iload_n hx hb dX7_keeps_130 rfl (lv_at hl 1 rfl) ?_
    refine lv_iload_n hx hb dX7_keeps_131 rfl (lv_at hl 3 rfl) ?_
    obtain ⟨hin, hf⟩ := zg_k hf
    refine va_iast hx hb hK hP (mw_D hAd) hS 20 0 (mw_a23 (S := S11)) rfl (inb_k hin) dX7_keeps_132 (fun H locs hP _ hS => ?_)
    have hP : va_P D vwCl (mw cyI cyJ cyZ bd (wi S11 23 (Int32.toNatClampNeg p1) p3)) H := by rw [← mw_s23]; exact hP
    obtain ⟨S12, eS12, hf⟩ := zb_k hf
    rw [← eS12] at hP
    cases Option.some.inj hf
    exact fin_v hx hb hr hlk hS hP dX7_keeps_133
  · have hf := ifn hf hc
    refine lv_aload_n hx hb dX7_keeps_71 rfl (lv_at hl 0 rfl) ?_
    refine va_get (D := D) (ci := 7) (v := .ref (bd 16)) (C := RX7) (T := TX7) (N := 48) hx hb hts hin7 hown hK hP 0 (mw_o (S := S9)) rfl 19 (by decide) hfl57 (fun _ h9 => h9) mw_f19 dX7_keeps_72 ?_
    refine lv_iload hx hb dX7_keeps_75 (lv_at hl 4 rfl) ?_
    refine lv_aload_n hx hb dX7_keeps_77 rfl (lv_at hl 0 rfl) ?_
    refine va_get (D := D) (ci := 7) (v := .ref (bd 34)) (C := RX7) (T := TX7) (N := 48) hx hb hts hin7 hown hK hP 0 (mw_o (S := S9)) rfl 39 (by decide) hfl111 (fun _ h9 => h9) mw_f39 dX7_keeps_78 ?_
    refine lv_iload hx hb dX7_keeps_81 (lv_at hl 4 rfl) ?_
    obtain ⟨hin, hf⟩ := zg_k hf
    refine va_iald hx hb hK hP 34 0 (mw_a39 (S := S9)) rfl (inb_k hin) dX7_keeps_83 ?_
    obtain ⟨hin, hf⟩ := zg_k hf
    refine va_iast hx hb hK hP (mw_D hAd) hS 16 0 (mw_a19 (S := S9)) rfl (inb_k hin) dX7_keeps_84 (fun H locs hP _ hS => ?_)
    have hP : va_P D vwCl (mw cyI cyJ cyZ bd (wi S9 19 (Int32.toNatClampNeg x10) (ri S9 39 x10))) H := by rw [← mw_s19]; exact hP
    obtain ⟨S13, eS13, hf⟩ := zb_k hf
    rw [← eS13] at hP
    refine lv_aload_n hx hb dX7_keeps_85 rfl (lv_at hl 0 rfl) ?_
    refine va_get (D := D) (ci := 7) (v := .ref (bd 17)) (C := RX7) (T := TX7) (N := 48) hx hb hts hin7 hown hK hP 0 (mw_o (S := S13)) rfl 20 (by decide) hfl60 (fun _ h9 => h9) mw_f20 dX7_keeps_86 ?_
    refine lv_iload hx hb dX7_keeps_89 (lv_at hl 4 rfl) ?_
    refine lv_aload_n hx hb dX7_keeps_91 rfl (lv_at hl 0 rfl) ?_
    refine va_get (D := D) (ci := 7) (v := .ref (bd 35)) (C := RX7) (T := TX7) (N := 48) hx hb hts hin7 hown hK hP 0 (mw_o (S := S13)) rfl 40 (by decide) hfl114 (fun _ h9 => h9) mw_f40 dX7_keeps_92 ?_
    refine lv_iload hx hb dX7_keeps_95 (lv_at hl 4 rfl) ?_
    obtain ⟨hin, hf⟩ := zg_k hf
    refine va_iald hx hb hK hP 35 0 (mw_a40 (S := S13)) rfl (inb_k hin) dX7_keeps_97 ?_
    obtain ⟨hin, hf⟩ := zg_k hf
    refine va_iast hx hb hK hP (mw_D hAd) hS 17 0 (mw_a20 (S := S13)) rfl (inb_k hin) dX7_keeps_98 (fun H locs hP _ hS => ?_)
    have hP : va_P D vwCl (mw cyI cyJ cyZ bd (wi S13 20 (Int32.toNatClampNeg x10) (ri S13 40 x10))) H := by rw [← mw_s20]; exact hP
    obtain ⟨S14, eS14, hf⟩ := zb_k hf
    rw [← eS14] at hP
    refine lv_aload_n hx hb dX7_keeps_99 rfl (lv_at hl 0 rfl) ?_
    refine va_get (D := D) (ci := 7) (v := .ref (bd 18)) (C := RX7) (T := TX7) (N := 48) hx hb hts hin7 hown hK hP 0 (mw_o (S := S14)) rfl 21 (by decide) hfl63 (fun _ h9 => h9) mw_f21 dX7_keeps_100 ?_
    refine lv_iload hx hb dX7_keeps_103 (lv_at hl 4 rfl) ?_
    refine lv_aload_n hx hb dX7_keeps_105 rfl (lv_at hl 0 rfl) ?_
    refine va_get (D := D) (ci := 7) (v := .ref (bd 36)) (C := RX7) (T := TX7) (N := 48) hx hb hts hin7 hown hK hP 0 (mw_o (S := S14)) rfl 41 (by decide) hfl117 (fun _ h9 => h9) mw_f41 dX7_keeps_106 ?_
    refine lv_iload hx hb dX7_keeps_109 (lv_at hl 4 rfl) ?_
    obtain ⟨hin, hf⟩ := zg_k hf
    refine va_lald hx hb hK hP 36 1 (mw_a41 (S := S14)) rfl (inb_k hin) dX7_keeps_111 ?_
    obtain ⟨hin, hf⟩ := zg_k hf
    refine va_last hx hb hK hP (mw_D hAd) hS 18 1 (mw_a21 (S := S14)) rfl (inb_k hin) dX7_keeps_112 (fun H locs hP _ hS => ?_)
    have hP : va_P D vwCl (mw cyI cyJ cyZ bd (wj S14 21 (Int32.toNatClampNeg x10) (rj S14 41 x10))) H := by rw [← mw_s21]; exact hP
    obtain ⟨S15, eS15, hf⟩ := zb_k hf
    rw [← eS15] at hP
    obtain ⟨x16, ex16, hf⟩ := zb_k hf
    refine lv_iinc (v := x16) (lv' := [(5, .int x16), (0, .ref (bd 0)), (1, .int p1), (2, .int p2), (3, .int p3)]) hx hb dX7_keeps_113 hl (k := 4) rfl (by rw [ex16]; rfl) (by decide) rfl (fun ls hl => ?_)
    refine lv_goto (tgt := 61) hx hb dX7_keeps_116 (by decide) ?_
    exact ih61 S15 x16 hf _ _ _ hP hS (lv_sub hl [1, 2, 3, 4, 0] rfl)
set_option maxHeartbeats 4000000 in
set_option maxRecDepth 100000 in
theorem c_X7_nextMachine {l : Launch} {D : va_G} {cyI cyJ cyZ : ClassId} {bd : Nat → Nat}  (hAd : AdOK 41 bd)  {S : St}  {r : Int32} {SZ : St} (hf : m_X7_nextMachine S = some (r, SZ)) : Met l yX7_nextMachine wsX7_nextMachine rl_X7_nextMachine (PreW D [(cyI, .int), (cyJ, .long), (cyZ, .boolean)] (mw cyI cyJ cyZ bd S) [.ref (bd 0)]) (PoI D (mw cyI cyJ cyZ bd SZ) (MA bd) r) 0 0 (MA bd) := by
  refine met_go (cc := cX7_nextMachine) (maxL := 3) (ret := (some .int)) (by decide) rfl (Nat.le_of_ble_eq_true rfl) ?_
  intro p e s m args below meth c ls hx hb hr hml hts hown hlk hP hK hN hl
  have hown : s.vm.findClass RX7 = some m.cls := hown
  have hS : va_S (MA bd) s.heap s.heap [] := va_S.rf
  have hl : lv_has ls 3 [(0, .ref (bd 0))] := hl
  have hin7 : ∀ w ∈ wsX70, w ∈ wsX7_nextMachine := by decide +kernel
  have hfl235 := hts (.fieldLink RX7 235 "MakewheelModel" "turn" "I") (by decide +kernel)
  have hfl41 := hts (.fieldLink RX7 41 "MakewheelModel" "isAway" "[Z") (by decide +kernel)
  unfold m_X7_nextMachine at hf
  refine lv_iconst (v := (nI 0)) hx hb dX7_nextMachine_0 (by decide) ?_
  refine lv_istore_n (lv' := [(1, .int (nI 0)), (0, .ref (bd 0))]) hx hb dX7_nextMachine_1 rfl hl (by decide) rfl (fun ls hl => ?_)
  refine zl1_ind (F := (m_X7_nextMachine_B2 S)) (R := (r, SZ)) (P := fun x1 => ∀ (H : Heap) (locs : List Loc) (ls : Array Slot), va_P D vwCl (mw cyI cyJ cyZ bd S) H → va_S (MA bd) s.heap H locs → lv_has ls 3 [(0, .ref (bd 0)), (1, .int x1)] → W p l e rl_X7_nextMachine s m args below meth c H locs 0 0 (MQ below (PoI D (mw cyI cyJ cyZ bd SZ) (MA bd) r) args s 0 0 (MA bd)) (F0 m 2 ls [])) (fun rec2 ih2 x1 hf H locs ls hP hS hl => ?_) FU (nI 0) hf _ _ _ hP hS (lv_sub hl [1, 0] rfl)
  unfold m_X7_nextMachine_B2 at hf
  refine lv_iload_n hx hb dX7_nextMachine_2 rfl (lv_at hl 1 rfl) ?_
  refine lv_iconst (v := (nI 3)) hx hb dX7_nextMachine_3 (by decide) ?_
  refine lv_icmp_ge (tgt := 42) hx hb dX7_nextMachine_4 (by decide) (fun hc => ?_) (fun hc => ?_)
  · have hf := ifp hf hc
    refine lv_iconst (v := (nI 3)) hx hb dX7_nextMachine_42 (by decide) ?_
    cases Option.some.inj hf
    exact fin_i hx hb hr hlk hS hP rfl dX7_nextMachine_43
  · have hf := ifn hf hc
    refine lv_aload_n hx hb dX7_nextMachine_7 rfl (lv_at hl 0 rfl) ?_
    refine va_get (D := D) (ci := 7) (v := .int (S.1 11 0)) (C := RX7) (T := TX7) (N := 48) hx hb hts hin7 hown hK hP 0 (mw_o (S := S)) rfl 11 (by decide) hfl235 (fun _ h9 => h9) mw_f11 dX7_nextMachine_8 ?_
    refine lv_iload_n hx hb dX7_nextMachine_11 rfl (lv_at hl 1 rfl) ?_
    refine lv_iadd hx hb dX7_nextMachine_12 ?_
    refine lv_iconst (v := (nI 3)) hx hb dX7_nextMachine_13 (by decide) ?_
    refine lv_irem hx hb dX7_nextMachine_14 (by decide) ?_
    refine lv_topi (fun x2 ex2 => ?_)
    have hf := zb_x hf ex2
    refine lv_istore_n (lv' := [(2, .int x2), (0, .ref (bd 0)), (1, .int x1)]) hx hb dX7_nextMachine_15 rfl hl (by decide) rfl (fun ls hl => ?_)
    refine lv_aload_n hx hb dX7_nextMachine_16 rfl (lv_at hl 1 rfl) ?_
    refine va_get (D := D) (ci := 7) (v := .ref (bd 11)) (C := RX7) (T := TX7) (N := 48) hx hb hts hin7 hown hK hP 0 (mw_o (S := S)) rfl 10 (by decide) hfl41 (fun _ h9 => h9) mw_f10 dX7_nextMachine_17 ?_
    refine lv_iload_n hx hb dX7_nextMachine_20 rfl (lv_at hl 0 rfl) ?_
    obtain ⟨hin, hf⟩ := zg_k hf
    refine va_zald hx hb hK hP 11 2 (mw_a10 (S := S)) rfl (inb_k hin) dX7_nextMachine_21 ?_
    refine lv_if_ne (tgt := 36) hx hb dX7_nextMachine_22 (by decide) (fun hc => ?_) (fun hc => ?_)
    · have hf := ifn hf hc
      obtain ⟨x3, ex3, hf⟩ := zb_k hf
      refine lv_iinc (v := x3) (lv' := [(1, .int x3), (2, .int x2), (0, .ref (bd 0))]) hx hb dX7_nextMachine_36 hl (k := 2) rfl (by rw [ex3]; rfl) (by decide) rfl (fun ls hl => ?_)
      refine lv_goto (tgt := 2) hx hb dX7_nextMachine_39 (by decide) ?_
      exact ih2 x3 hf _ _ _ hP hS (lv_sub hl [2, 0] rfl)
    · have hf := ifp hf hc
      refine lv_aload_n hx hb dX7_nextMachine_25 rfl (lv_at hl 1 rfl) ?_
      refine lv_iload_n hx hb dX7_nextMachine_26 rfl (lv_at hl 0 rfl) ?_
      refine lv_iconst (v := (nI 1)) hx hb dX7_nextMachine_27 (by decide) ?_
      refine lv_iadd hx hb dX7_nextMachine_28 ?_
      refine lv_iconst (v := (nI 3)) hx hb dX7_nextMachine_29 (by decide) ?_
      refine lv_irem hx hb dX7_nextMachine_30 (by decide) ?_
      refine va_put (D := D) (ci := 7) (v := .int (irm (x2 + (nI 1)) (nI 3))) (ty := .int) (C := RX7) (T := TX7) (N := 48) hx hb hts hin7 tyX7 tyX7_ok nmX7 hown hK hP (mw_D hAd) hS 0 (mw_o (S := S)) rfl 11 (by decide) hfl235 (fun _ h9 => h9) rfl (by decide +kernel) rfl rfl (Nat.le_of_ble_eq_true rfl) dX7_nextMachine_31 (fun H locs hP _ hS => ?_)
      have hP : va_P D vwCl (mw cyI cyJ cyZ bd (wi S 11 0 (irm (x2 + (nI 1)) (nI 3)))) H := by rw [← mw_s11]; exact hP
      obtain ⟨S4, eS4, hf⟩ := zb_k hf
      rw [← eS4] at hP
      refine lv_iload_n hx hb dX7_nextMachine_34 rfl (lv_at hl 0 rfl) ?_
      cases Option.some.inj hf
      exact fin_i hx hb hr hlk hS hP rfl dX7_nextMachine_35
set_option maxHeartbeats 4000000 in
set_option maxRecDepth 100000 in
theorem c_X7_putsAway {l : Launch} {D : va_G} {cyI cyJ cyZ : ClassId} {bd : Nat → Nat}  (hAd : AdOK 41 bd)  {S : St} {p1 : Int32} {SZ : St} (hf : m_X7_putsAway S p1 = some SZ) : Met l yX7_putsAway wsX7_putsAway rl_X7_putsAway (PreW D [(cyI, .int), (cyJ, .long), (cyZ, .boolean)] (mw cyI cyJ cyZ bd S) [.ref (bd 0), .int p1]) (PoV D (mw cyI cyJ cyZ bd SZ) (MA bd)) 0 0 (MA bd) := by
  refine met_go (cc := cX7_putsAway) (maxL := 4) (ret := none) (by decide) rfl (Nat.le_of_ble_eq_true rfl) ?_
  intro p e s m args below meth c ls hx hb hr hml hts hown hlk hP hK hN hl
  have hown : s.vm.findClass RX7 = some m.cls := hown
  have hS : va_S (MA bd) s.heap s.heap [] := va_S.rf
  have hl : lv_has ls 4 [(0, .ref (bd 0)), (1, .int p1)] := hl
  have hin7 : ∀ w ∈ wsX70, w ∈ wsX7_putsAway := by decide +kernel
  have hfl41 := hts (.fieldLink RX7 41 "MakewheelModel" "isAway" "[Z") (by decide +kernel)
  have hfl154 := hts (.fieldLink RX7 154 "MakewheelModel" "entries" "I") (by decide +kernel)
  have hfl44 := hts (.fieldLink RX7 44 "MakewheelModel" "isKept" "[Z") (by decide +kernel)
  have hfl72 := hts (.fieldLink RX7 72 "MakewheelModel" "isDropped" "[Z") (by decide +kernel)
  have hfl84 := hts (.fieldLink RX7 84 "MakewheelModel" "looked" "[I") (by decide +kernel)
  have hfl69 := hts (.fieldLink RX7 69 "MakewheelModel" "keptFrom" "[I") (by decide +kernel)
  have hfl81 := hts (.fieldLink RX7 81 "MakewheelModel" "cacheFrom" "[I") (by decide +kernel)
  unfold m_X7_putsAway at hf
  refine lv_aload_n hx hb dX7_putsAway_0 rfl (lv_at hl 0 rfl) ?_
  refine va_get (D := D) (ci := 7) (v := .ref (bd 11)) (C := RX7) (T := TX7) (N := 48) hx hb hts hin7 hown hK hP 0 (mw_o (S := S)) rfl 10 (by decide) hfl41 (fun _ h9 => h9) mw_f10 dX7_putsAway_1 ?_
  refine lv_iload_n hx hb dX7_putsAway_4 rfl (lv_at hl 1 rfl) ?_
  refine lv_iconst (v := (nI 1)) hx hb dX7_putsAway_5 (by decide) ?_
  obtain ⟨hin, hf⟩ := zg_k hf
  refine va_zast hx hb hK hP (mw_D hAd) hS 11 2 (mw_a10 (S := S)) rfl (inb_k hin) dX7_putsAway_6 (fun H locs hP _ hS => ?_)
  have hP : va_P D vwCl (mw cyI cyJ cyZ bd (wi S 10 (Int32.toNatClampNeg p1) (nI 1))) H := by rw [← mw_s10]; exact hP
  obtain ⟨S1, eS1, hf⟩ := zb_k hf
  rw [← eS1] at hP
  refine lv_aload_n hx hb dX7_putsAway_7 rfl (lv_at hl 0 rfl) ?_
  refine va_get (D := D) (ci := 7) (v := .int (S1.1 25 0)) (C := RX7) (T := TX7) (N := 48) hx hb hts hin7 hown hK hP 0 (mw_o (S := S1)) rfl 25 (by decide) hfl154 (fun _ h9 => h9) mw_f25 dX7_putsAway_8 ?_
  refine lv_iconst (v := (nI 1)) hx hb dX7_putsAway_11 (by decide) ?_
  refine lv_isub hx hb dX7_putsAway_12 ?_
  refine lv_topi (fun x2 ex2 => ?_)
  have hf := zb_x hf ex2
  refine lv_istore_n (lv' := [(2, .int x2), (0, .ref (bd 0)), (1, .int p1)]) hx hb dX7_putsAway_13 rfl hl (by decide) rfl (fun ls hl => ?_)
  refine zl2_ind (F := (m_X7_putsAway_B14 p1)) (R := SZ) (P := fun S3 x4 => ∀ (H : Heap) (locs : List Loc) (ls : Array Slot), va_P D vwCl (mw cyI cyJ cyZ bd S3) H → va_S (MA bd) s.heap H locs → lv_has ls 4 [(0, .ref (bd 0)), (1, .int p1), (2, .int x4)] → W p l e rl_X7_putsAway s m args below meth c H locs 0 0 (MQ below (PoV D (mw cyI cyJ cyZ bd SZ) (MA bd)) args s 0 0 (MA bd)) (F0 m 14 ls [])) (fun rec14 ih14 S3 x4 hf H locs ls hP hS hl => ?_) FU S1 x2 hf _ _ _ hP hS (lv_sub hl [1, 2, 0] rfl)
  unfold m_X7_putsAway_B14 at hf
  refine lv_iload_n hx hb dX7_putsAway_14 rfl (lv_at hl 2 rfl) ?_
  refine lv_if_lt (tgt := 39) hx hb dX7_putsAway_15 (by decide) (fun hc => ?_) (fun hc => ?_)
  · have hf := ifp hf hc
    refine lv_iconst (v := (nI 0)) hx hb dX7_putsAway_39 (by decide) ?_
    refine lv_istore_n (lv' := [(2, .int (nI 0)), (0, .ref (bd 0)), (1, .int p1)]) hx hb dX7_putsAway_40 rfl hl (by decide) rfl (fun ls hl => ?_)
    refine zl2_ind (F := (m_X7_putsAway_B41 p1)) (R := SZ) (P := fun S5 x6 => ∀ (H : Heap) (locs : List Loc) (ls : Array Slot), va_P D vwCl (mw cyI cyJ cyZ bd S5) H → va_S (MA bd) s.heap H locs → lv_has ls 4 [(0, .ref (bd 0)), (1, .int p1), (2, .int x6)] → W p l e rl_X7_putsAway s m args below meth c H locs 0 0 (MQ below (PoV D (mw cyI cyJ cyZ bd SZ) (MA bd)) args s 0 0 (MA bd)) (F0 m 41 ls [])) (fun rec41 ih41 S5 x6 hf H locs ls hP hS hl => ?_) FU S3 (nI 0) hf _ _ _ hP hS (lv_sub hl [1, 2, 0] rfl)
    unfold m_X7_putsAway_B41 at hf
    refine lv_iload_n hx hb dX7_putsAway_41 rfl (lv_at hl 2 rfl) ?_
    refine lv_bipush (v := (nI 32)) hx hb dX7_putsAway_42 (by decide) ?_
    refine lv_icmp_ge (tgt := 135) hx hb dX7_putsAway_44 (by decide) (fun hc => ?_) (fun hc => ?_)
    · have hf := ifp hf hc
      cases Option.some.inj hf
      exact fin_v hx hb hr hlk hS hP dX7_putsAway_135
    · have hf := ifn hf hc
      refine lv_aload_n hx hb dX7_putsAway_47 rfl (lv_at hl 0 rfl) ?_
      refine va_get (D := D) (ci := 7) (v := .ref (bd 12)) (C := RX7) (T := TX7) (N := 48) hx hb hts hin7 hown hK hP 0 (mw_o (S := S5)) rfl 15 (by decide) hfl44 (fun _ h9 => h9) mw_f15 dX7_putsAway_48 ?_
      refine lv_iload_n hx hb dX7_putsAway_51 rfl (lv_at hl 2 rfl) ?_
      obtain ⟨hin, hf⟩ := zg_k hf
      refine va_zald hx hb hK hP 12 2 (mw_a15 (S := S5)) rfl (inb_k hin) dX7_putsAway_52 ?_
      have hJ71 : ∀ (t7 : Int32), m_X7_putsAway_J71 x6 S5 rec41 t7 = some SZ → ∀ (H : Heap) (locs : List Loc) (ls : Array Slot), va_P D vwCl (mw cyI cyJ cyZ bd S5) H → va_S (MA bd) s.heap H locs → lv_has ls 4 [(0, .ref (bd 0)), (1, .int p1), (2, .int x6)] → W p l e rl_X7_putsAway s m args below meth c H locs 0 0 (MQ below (PoV D (mw cyI cyJ cyZ bd SZ) (MA bd)) args s 0 0 (MA bd)) (F0 m 71 ls [.int t7]) := by
        intro t7 hf H locs ls hP hS hl
        unfold m_X7_putsAway_J71 at hf
        refine lv_istore_n (lv' := [(3, .int t7), (0, .ref (bd 0)), (1, .int p1), (2, .int x6)]) hx hb dX7_putsAway_71 rfl hl (by decide) rfl (fun ls hl => ?_)
        refine lv_aload_n hx hb dX7_putsAway_72 rfl (lv_at hl 1 rfl) ?_
        refine va_get (D := D) (ci := 7) (v := .ref (bd 21)) (C := RX7) (T := TX7) (N := 48) hx hb hts hin7 hown hK hP 0 (mw_o (S := S5)) rfl 24 (by decide) hfl72 (fun _ h9 => h9) mw_f24 dX7_putsAway_73 ?_
        refine lv_iload_n hx hb dX7_putsAway_76 rfl (lv_at hl 3 rfl) ?_
        refine lv_aload_n hx hb dX7_putsAway_77 rfl (lv_at hl 1 rfl) ?_
        refine va_get (D := D) (ci := 7) (v := .ref (bd 21)) (C := RX7) (T := TX7) (N := 48) hx hb hts hin7 hown hK hP 0 (mw_o (S := S5)) rfl 24 (by decide) hfl72 (fun _ h9 => h9) mw_f24 dX7_putsAway_78 ?_
        refine lv_iload_n hx hb dX7_putsAway_81 rfl (lv_at hl 3 rfl) ?_
        obtain ⟨hin, hf⟩ := zg_k hf
        refine va_zald hx hb hK hP 21 2 (mw_a24 (S := S5)) rfl (inb_k hin) dX7_putsAway_82 ?_
        have hJ95 : ∀ (t8 : Int32), m_X7_putsAway_J95 x6 S5 rec41 t7 t8 = some SZ → ∀ (H : Heap) (locs : List Loc) (ls : Array Slot), va_P D vwCl (mw cyI cyJ cyZ bd S5) H → va_S (MA bd) s.heap H locs → lv_has ls 4 [(3, .int t7), (0, .ref (bd 0)), (1, .int p1), (2, .int x6)] → W p l e rl_X7_putsAway s m args below meth c H locs 0 0 (MQ below (PoV D (mw cyI cyJ cyZ bd SZ) (MA bd)) args s 0 0 (MA bd)) (F0 m 95 ls [.int t8, .int x6, .ref (bd 21)]) := by
          intro t8 hf H locs ls hP hS hl
          unfold m_X7_putsAway_J95 at hf
          obtain ⟨hin, hf⟩ := zg_k hf
          obtain ⟨hbz, hf⟩ := zg_k hf
          refine va_zast hx hb hK hP (mw_D hAd) hS 21 2 (mw_a24 (S := S5)) rfl (inb_k hin) dX7_putsAway_95 (fun H locs hP _ hS => ?_)
          rw [bz_v hbz] at hP
          have hP : va_P D vwCl (mw cyI cyJ cyZ bd (wi S5 24 (Int32.toNatClampNeg x6) t8)) H := by rw [← mw_s24]; exact hP
          obtain ⟨S9, eS9, hf⟩ := zb_k hf
          rw [← eS9] at hP
          refine lv_aload_n hx hb dX7_putsAway_96 rfl (lv_at hl 1 rfl) ?_
          refine va_get (D := D) (ci := 7) (v := .ref (bd 12)) (C := RX7) (T := TX7) (N := 48) hx hb hts hin7 hown hK hP 0 (mw_o (S := S9)) rfl 15 (by decide) hfl44 (fun _ h9 => h9) mw_f15 dX7_putsAway_97 ?_
          refine lv_iload_n hx hb dX7_putsAway_100 rfl (lv_at hl 3 rfl) ?_
          refine lv_aload_n hx hb dX7_putsAway_101 rfl (lv_at hl 1 rfl) ?_
          refine va_get (D := D) (ci := 7) (v := .ref (bd 12)) (C := RX7) (T := TX7) (N := 48) hx hb hts hin7 hown hK hP 0 (mw_o (S := S9)) rfl 15 (by decide) hfl44 (fun _ h9 => h9) mw_f15 dX7_putsAway_102 ?_
          refine lv_iload_n hx hb dX7_putsAway_105 rfl (lv_at hl 3 rfl) ?_
          obtain ⟨hin, hf⟩ := zg_k hf
          refine va_zald hx hb hK hP 12 2 (mw_a15 (S := S9)) rfl (inb_k hin) dX7_putsAway_106 ?_
          have hJ128 : ∀ (t10 : Int32), m_X7_putsAway_J128 x6 S9 rec41 t10 = some SZ → ∀ (H : Heap) (locs : List Loc) (ls : Array Slot), va_P D vwCl (mw cyI cyJ cyZ bd S9) H → va_S (MA bd) s.heap H locs → lv_has ls 4 [(0, .ref (bd 0)), (1, .int p1), (2, .int x6)] → W p l e rl_X7_putsAway s m args below meth c H locs 0 0 (MQ below (PoV D (mw cyI cyJ cyZ bd SZ) (MA bd)) args s 0 0 (MA bd)) (F0 m 128 ls [.int t10, .int x6, .ref (bd 12)]) := by
            intro t10 hf H locs ls hP hS hl
            unfold m_X7_putsAway_J128 at hf
            obtain ⟨hin, hf⟩ := zg_k hf
            obtain ⟨hbz, hf⟩ := zg_k hf
            refine va_zast hx hb hK hP (mw_D hAd) hS 12 2 (mw_a15 (S := S9)) rfl (inb_k hin) dX7_putsAway_128 (fun H locs hP _ hS => ?_)
            rw [bz_v hbz] at hP
            have hP : va_P D vwCl (mw cyI cyJ cyZ bd (wi S9 15 (Int32.toNatClampNeg x6) t10)) H := by rw [← mw_s15]; exact hP
            obtain ⟨S11, eS11, hf⟩ := zb_k hf
            rw [← eS11] at hP
            obtain ⟨x12, ex12, hf⟩ := zb_k hf
            refine lv_iinc (v := x12) (lv' := [(2, .int x12), (0, .ref (bd 0)), (1, .int p1)]) hx hb dX7_putsAway_129 hl (k := 2) rfl (by rw [ex12]; rfl) (by decide) rfl (fun ls hl => ?_)
            refine lv_goto (tgt := 41) hx hb dX7_putsAway_132 (by decide) ?_
            exact ih41 S11 x12 hf _ _ _ hP hS (lv_sub hl [1, 2, 0] rfl)
          have hJ127 : m_X7_putsAway_J127 x6 S9 rec41 = some SZ → ∀ (H : Heap) (locs : List Loc) (ls : Array Slot), va_P D vwCl (mw cyI cyJ cyZ bd S9) H → va_S (MA bd) s.heap H locs → lv_has ls 4 [(0, .ref (bd 0)), (1, .int p1), (2, .int x6)] → W p l e rl_X7_putsAway s m args below meth c H locs 0 0 (MQ below (PoV D (mw cyI cyJ cyZ bd SZ) (MA bd)) args s 0 0 (MA bd)) (F0 m 127 ls [.int x6, .ref (bd 12)]) := by
            intro  hf H locs ls hP hS hl
            unfold m_X7_putsAway_J127 at hf
            refine lv_iconst (v := (nI 0)) hx hb dX7_putsAway_127 (by decide) ?_
            exact hJ128 (nI 0) hf _ _ _ hP hS (lv_sub hl [0, 1, 2] rfl)
          refine lv_if_eq (tgt := 127) hx hb dX7_putsAway_107 (by decide) (fun hc => ?_) (fun hc => ?_)
          · have hf := ifp hf hc
            exact hJ127  hf _ _ _ hP hS (lv_sub hl [1, 2, 3] rfl)
          · have hf := ifn hf hc
            refine lv_iload_n hx hb dX7_putsAway_110 rfl (lv_at hl 0 rfl) ?_
            have hJ123 : m_X7_putsAway_J123 x6 S9 rec41 = some SZ → ∀ (H : Heap) (locs : List Loc) (ls : Array Slot), va_P D vwCl (mw cyI cyJ cyZ bd S9) H → va_S (MA bd) s.heap H locs → lv_has ls 4 [(0, .ref (bd 0)), (1, .int p1), (2, .int x6)] → W p l e rl_X7_putsAway s m args below meth c H locs 0 0 (MQ below (PoV D (mw cyI cyJ cyZ bd SZ) (MA bd)) args s 0 0 (MA bd)) (F0 m 123 ls [.int x6, .ref (bd 12)]) := by
              intro  hf H locs ls hP hS hl
              unfold m_X7_putsAway_J123 at hf
              refine lv_iconst (v := (nI 1)) hx hb dX7_putsAway_123 (by decide) ?_
              refine lv_goto (tgt := 128) hx hb dX7_putsAway_124 (by decide) ?_
              exact hJ128 (nI 1) hf _ _ _ hP hS (lv_sub hl [0, 1, 2] rfl)
            refine lv_if_eq (tgt := 123) hx hb dX7_putsAway_111 (by decide) (fun hc => ?_) (fun hc => ?_)
            · have hf := ifp hf hc
              exact hJ123  hf _ _ _ hP hS (lv_sub hl [1, 2, 3] rfl)
            · have hf := ifn hf hc
              refine lv_aload_n hx hb dX7_putsAway_114 rfl (lv_at hl 1 rfl) ?_
              refine va_get (D := D) (ci := 7) (v := .ref (bd 25)) (C := RX7) (T := TX7) (N := 48) hx hb hts hin7 hown hK hP 0 (mw_o (S := S9)) rfl 29 (by decide) hfl84 (fun _ h9 => h9) mw_f29 dX7_putsAway_115 ?_
              refine lv_iload_n hx hb dX7_putsAway_118 rfl (lv_at hl 3 rfl) ?_
              obtain ⟨hin, hf⟩ := zg_k hf
              refine va_iald hx hb hK hP 25 0 (mw_a29 (S := S9)) rfl (inb_k hin) dX7_putsAway_119 ?_
              refine lv_if_le (tgt := 127) hx hb dX7_putsAway_120 (by decide) (fun hc => ?_) (fun hc => ?_)
              · have hf := ifp hf hc
                exact hJ127  hf _ _ _ hP hS (lv_sub hl [1, 2, 3] rfl)
              · have hf := ifn hf hc
                exact hJ123  hf _ _ _ hP hS (lv_sub hl [1, 2, 3] rfl)
        have hJ90 : m_X7_putsAway_J90 x6 S5 rec41 t7 = some SZ → ∀ (H : Heap) (locs : List Loc) (ls : Array Slot), va_P D vwCl (mw cyI cyJ cyZ bd S5) H → va_S (MA bd) s.heap H locs → lv_has ls 4 [(3, .int t7), (0, .ref (bd 0)), (1, .int p1), (2, .int x6)] → W p l e rl_X7_putsAway s m args below meth c H locs 0 0 (MQ below (PoV D (mw cyI cyJ cyZ bd SZ) (MA bd)) args s 0 0 (MA bd)) (F0 m 90 ls [.int x6, .ref (bd 21)]) := by
          intro  hf H locs ls hP hS hl
          unfold m_X7_putsAway_J90 at hf
          refine lv_iconst (v := (nI 1)) hx hb dX7_putsAway_90 (by decide) ?_
          refine lv_goto (tgt := 95) hx hb dX7_putsAway_91 (by decide) ?_
          exact hJ95 (nI 1) hf _ _ _ hP hS (lv_sub hl [0, 1, 2, 3] rfl)
        refine lv_if_ne (tgt := 90) hx hb dX7_putsAway_83 (by decide) (fun hc => ?_) (fun hc => ?_)
        · have hf := ifn hf hc
          exact hJ90  hf _ _ _ hP hS (lv_sub hl [0, 1, 2, 3] rfl)
        · have hf := ifp hf hc
          refine lv_iload_n hx hb dX7_putsAway_86 rfl (lv_at hl 0 rfl) ?_
          refine lv_if_eq (tgt := 94) hx hb dX7_putsAway_87 (by decide) (fun hc => ?_) (fun hc => ?_)
          · have hf := ifp hf hc
            refine lv_iconst (v := (nI 0)) hx hb dX7_putsAway_94 (by decide) ?_
            exact hJ95 (nI 0) hf _ _ _ hP hS (lv_sub hl [0, 1, 2, 3] rfl)
          · have hf := ifn hf hc
            exact hJ90  hf _ _ _ hP hS (lv_sub hl [0, 1, 2, 3] rfl)
      have hJ70 : m_X7_putsAway_J70 x6 S5 rec41 = some SZ → ∀ (H : Heap) (locs : List Loc) (ls : Array Slot), va_P D vwCl (mw cyI cyJ cyZ bd S5) H → va_S (MA bd) s.heap H locs → lv_has ls 4 [(0, .ref (bd 0)), (1, .int p1), (2, .int x6)] → W p l e rl_X7_putsAway s m args below meth c H locs 0 0 (MQ below (PoV D (mw cyI cyJ cyZ bd SZ) (MA bd)) args s 0 0 (MA bd)) (F0 m 70 ls []) := by
        intro  hf H locs ls hP hS hl
        unfold m_X7_putsAway_J70 at hf
        refine lv_iconst (v := (nI 0)) hx hb dX7_putsAway_70 (by decide) ?_
        exact hJ71 (nI 0) hf _ _ _ hP hS (lv_sub hl [0, 1, 2] rfl)
      refine lv_if_eq (tgt := 70) hx hb dX7_putsAway_53 (by decide) (fun hc => ?_) (fun hc => ?_)
      · have hf := ifp hf hc
        exact hJ70  hf _ _ _ hP hS (lv_sub hl [0, 1, 2] rfl)
      · have hf := ifn hf hc
        refine lv_aload_n hx hb dX7_putsAway_56 rfl (lv_at hl 0 rfl) ?_
        refine va_get (D := D) (ci := 7) (v := .ref (bd 20)) (C := RX7) (T := TX7) (N := 48) hx hb hts hin7 hown hK hP 0 (mw_o (S := S5)) rfl 23 (by decide) hfl69 (fun _ h9 => h9) mw_f23 dX7_putsAway_57 ?_
        refine lv_iload_n hx hb dX7_putsAway_60 rfl (lv_at hl 2 rfl) ?_
        obtain ⟨hin, hf⟩ := zg_k hf
        refine va_iald hx hb hK hP 20 0 (mw_a23 (S := S5)) rfl (inb_k hin) dX7_putsAway_61 ?_
        refine lv_iload_n hx hb dX7_putsAway_62 rfl (lv_at hl 1 rfl) ?_
        refine lv_icmp_ne (tgt := 70) hx hb dX7_putsAway_63 (by decide) (fun hc => ?_) (fun hc => ?_)
        · have hf := ifn hf hc
          exact hJ70  hf _ _ _ hP hS (lv_sub hl [0, 1, 2] rfl)
        · have hf := ifp hf hc
          refine lv_iconst (v := (nI 1)) hx hb dX7_putsAway_66 (by decide) ?_
          refine lv_goto (tgt := 71) hx hb dX7_putsAway_67 (by decide) ?_
          exact hJ71 (nI 1) hf _ _ _ hP hS (lv_sub hl [0, 1, 2] rfl)
  · have hf := ifn hf hc
    refine lv_aload_n hx hb dX7_putsAway_18 rfl (lv_at hl 0 rfl) ?_
    refine va_get (D := D) (ci := 7) (v := .ref (bd 24)) (C := RX7) (T := TX7) (N := 48) hx hb hts hin7 hown hK hP 0 (mw_o (S := S3)) rfl 28 (by decide) hfl81 (fun _ h9 => h9) mw_f28 dX7_putsAway_19 ?_
    refine lv_iload_n hx hb dX7_putsAway_22 rfl (lv_at hl 2 rfl) ?_
    obtain ⟨hin, hf⟩ := zg_k hf
    refine va_iald hx hb hK hP 24 0 (mw_a28 (S := S3)) rfl (inb_k hin) dX7_putsAway_23 ?_
    refine lv_iload_n hx hb dX7_putsAway_24 rfl (lv_at hl 1 rfl) ?_
    have hJ33 : ∀ (S13 : St), m_X7_putsAway_J33 x4 rec14 S13 = some SZ → ∀ (H : Heap) (locs : List Loc) (ls : Array Slot), va_P D vwCl (mw cyI cyJ cyZ bd S13) H → va_S (MA bd) s.heap H locs → lv_has ls 4 [(0, .ref (bd 0)), (1, .int p1), (2, .int x4)] → W p l e rl_X7_putsAway s m args below meth c H locs 0 0 (MQ below (PoV D (mw cyI cyJ cyZ bd SZ) (MA bd)) args s 0 0 (MA bd)) (F0 m 33 ls []) := by
      intro S13 hf H locs ls hP hS hl
      unfold m_X7_putsAway_J33 at hf
      obtain ⟨x14, ex14, hf⟩ := zb_k hf
      refine lv_iinc (v := x14) (lv' := [(2, .int x14), (0, .ref (bd 0)), (1, .int p1)]) hx hb dX7_putsAway_33 hl (k := 2) rfl (by rw [ex14]; rfl) (by decide) rfl (fun ls hl => ?_)
      refine lv_goto (tgt := 14) hx hb dX7_putsAway_36 (by decide) ?_
      exact ih14 S13 x14 hf _ _ _ hP hS (lv_sub hl [1, 2, 0] rfl)
    refine lv_icmp_ne (tgt := 33) hx hb dX7_putsAway_25 (by decide) (fun hc => ?_) (fun hc => ?_)
    · have hf := ifn hf hc
      exact hJ33 S3 hf _ _ _ hP hS (lv_sub hl [0, 1, 2] rfl)
    · have hf := ifp hf hc
      refine lv_aload_n hx hb dX7_putsAway_28 rfl (lv_at hl 0 rfl) ?_
      refine lv_iload_n hx hb dX7_putsAway_29 rfl (lv_at hl 2 rfl) ?_
      obtain ⟨S15, hc30, hf⟩ := zo_k hf
      refine cal_v (rnV (As := [.int x4]) (rest := []) ⟨hx, hb, hml, hown, hts⟩ (c_X7_drops hAd  hc30) (cwV 1 hts gX7_putsAway_X7_drops rfl rfl rfl cdV_X7_drops ⟨Nat.le_of_ble_eq_true rfl, Nat.le_of_ble_eq_true rfl⟩) hP hK hN (mw_o (S := S3)) rfl rfl hl.1 rfl (Nat.le_of_ble_eq_true rfl) dX7_putsAway_30 ⟨Nat.zero_le _, Nat.zero_le _⟩) hS (fun H locs hP hS => ?_)
      exact hJ33 S15 hf _ _ _ hP hS (lv_sub hl [0, 1, 2] rfl)
set_option maxHeartbeats 4000000 in
set_option maxRecDepth 100000 in
theorem c_X7_runs {l : Launch} {D : va_G} {cyI cyJ cyZ : ClassId} {bd : Nat → Nat}  (hAd : AdOK 41 bd)  {S : St} {p1 : Int32} {p2 : Int32} {SZ : St} (hf : m_X7_runs S p1 p2 = some SZ) : Met l yX7_runs wsX7_runs rl_X7_runs (PreW D [(cyI, .int), (cyJ, .long), (cyZ, .boolean)] (mw cyI cyJ cyZ bd S) [.ref (bd 0), .int p1, .int p2]) (PoV D (mw cyI cyJ cyZ bd SZ) (MA bd)) 0 0 (MA bd) := by
  refine met_go (cc := cX7_runs) (maxL := 9) (ret := none) (by decide) rfl (Nat.le_of_ble_eq_true rfl) ?_
  intro p e s m args below meth c ls hx hb hr hml hts hown hlk hP hK hN hl
  have hown : s.vm.findClass RX7 = some m.cls := hown
  have hS : va_S (MA bd) s.heap s.heap [] := va_S.rf
  have hl : lv_has ls 9 [(0, .ref (bd 0)), (1, .int p1), (2, .int p2)] := hl
  have hin7 : ∀ w ∈ wsX70, w ∈ wsX7_runs := by decide +kernel
  have hfl154 := hts (.fieldLink RX7 154 "MakewheelModel" "entries" "I") (by decide +kernel)
  have hfl78 := hts (.fieldLink RX7 78 "MakewheelModel" "cacheValue" "[I") (by decide +kernel)
  have hfl81 := hts (.fieldLink RX7 81 "MakewheelModel" "cacheFrom" "[I") (by decide +kernel)
  have hfl75 := hts (.fieldLink RX7 75 "MakewheelModel" "cache" "[J") (by decide +kernel)
  have hfl120 := hts (.fieldLink RX7 120 "MakewheelModel" "key" "[J") (by decide +kernel)
  have hfl147 := hts (.fieldLink RX7 147 "MakewheelModel" "isChecked" "Z") (by decide +kernel)
  have hfl96 := hts (.fieldLink RX7 96 "MakewheelModel" "counted" "[I") (by decide +kernel)
  have hfl37 := hts (.fieldLink RX7 37 "MakewheelModel" "isPoisoned" "[Z") (by decide +kernel)
  have hfl34 := hts (.fieldLink RX7 34 "MakewheelModel" "toFail" "[I") (by decide +kernel)
  unfold m_X7_runs at hf
  refine lv_iload_n hx hb dX7_runs_0 rfl (lv_at hl 1 rfl) ?_
  refine lv_iconst (v := (nI 2)) hx hb dX7_runs_1 (by decide) ?_
  refine lv_idiv hx hb dX7_runs_2 (by decide) ?_
  refine lv_topi (fun x1 ex1 => ?_)
  have hf := zb_x hf ex1
  refine lv_istore_n (lv' := [(3, .int x1), (0, .ref (bd 0)), (1, .int p1), (2, .int p2)]) hx hb dX7_runs_3 rfl hl (by decide) rfl (fun ls hl => ?_)
  refine lv_iconst (v := (nI 1)) hx hb dX7_runs_4 (by decide) ?_
  refine lv_istore (lv' := [(4, .int (nI 1)), (3, .int x1), (0, .ref (bd 0)), (1, .int p1), (2, .int p2)]) hx hb dX7_runs_5 hl (by decide) rfl (fun ls hl => ?_)
  refine lv_iconst (v := (nI 3)) hx hb dX7_runs_7 (by decide) ?_
  refine lv_istore (lv' := [(5, .int (nI 3)), (4, .int (nI 1)), (3, .int x1), (0, .ref (bd 0)), (1, .int p1), (2, .int p2)]) hx hb dX7_runs_8 hl (by decide) rfl (fun ls hl => ?_)
  refine lv_iconst (v := (nI 0)) hx hb dX7_runs_10 (by decide) ?_
  refine lv_istore (lv' := [(6, .int (nI 0)), (5, .int (nI 3)), (4, .int (nI 1)), (3, .int x1), (0, .ref (bd 0)), (1, .int p1), (2, .int p2)]) hx hb dX7_runs_11 hl (by decide) rfl (fun ls hl => ?_)
  refine zl4_ind (F := (m_X7_runs_B13 p1 p2 x1)) (R := SZ) (P := fun S2 x3 x4 x5 => ∀ (H : Heap) (locs : List Loc) (ls : Array Slot), va_P D vwCl (mw cyI cyJ cyZ bd S2) H → va_S (MA bd) s.heap H locs → lv_has ls 9 [(3, .int x1), (0, .ref (bd 0)), (1, .int p1), (2, .int p2), (4, .int x3), (5, .int x4), (6, .int x5)] → W p l e rl_X7_runs s m args below meth c H locs 0 0 (MQ below (PoV D (mw cyI cyJ cyZ bd SZ) (MA bd)) args s 0 0 (MA bd)) (F0 m 13 ls [])) (fun rec13 ih13 S2 x3 x4 x5 hf H locs ls hP hS hl => ?_) FU S (nI 1) (nI 3) (nI 0) hf _ _ _ hP hS (lv_sub hl [3, 4, 5, 6, 2, 1, 0] rfl)
  unfold m_X7_runs_B13 at hf
  refine lv_iload hx hb dX7_runs_13 (lv_at hl 6 rfl) ?_
  refine lv_iconst (v := (nI 3)) hx hb dX7_runs_15 (by decide) ?_
  have hJ81 : m_X7_runs_J81 x3 x4 p1 S2 p2 = some SZ → ∀ (H : Heap) (locs : List Loc) (ls : Array Slot), va_P D vwCl (mw cyI cyJ cyZ bd S2) H → va_S (MA bd) s.heap H locs → lv_has ls 9 [(0, .ref (bd 0)), (1, .int p1), (2, .int p2), (4, .int x3), (5, .int x4)] → W p l e rl_X7_runs s m args below meth c H locs 0 0 (MQ below (PoV D (mw cyI cyJ cyZ bd SZ) (MA bd)) args s 0 0 (MA bd)) (F0 m 81 ls []) := by
    intro  hf H locs ls hP hS hl
    unfold m_X7_runs_J81 at hf
    refine lv_iload hx hb dX7_runs_81 (lv_at hl 3 rfl) ?_
    refine lv_if_eq (tgt := 95) hx hb dX7_runs_83 (by decide) (fun hc => ?_) (fun hc => ?_)
    · have hf := ifp hf hc
      refine lv_iload hx hb dX7_runs_95 (lv_at hl 4 rfl) ?_
      refine lv_iconst (v := (nI 3)) hx hb dX7_runs_97 (by decide) ?_
      have hJ122 : ∀ (t6 : Int32), m_X7_runs_J122 x4 p1 S2 p2 t6 = some SZ → ∀ (H : Heap) (locs : List Loc) (ls : Array Slot), va_P D vwCl (mw cyI cyJ cyZ bd S2) H → va_S (MA bd) s.heap H locs → lv_has ls 9 [(0, .ref (bd 0)), (1, .int p1), (2, .int p2), (5, .int x4)] → W p l e rl_X7_runs s m args below meth c H locs 0 0 (MQ below (PoV D (mw cyI cyJ cyZ bd SZ) (MA bd)) args s 0 0 (MA bd)) (F0 m 122 ls [.int t6]) := by
        intro t6 hf H locs ls hP hS hl
        unfold m_X7_runs_J122 at hf
        refine lv_istore (lv' := [(6, .int t6), (0, .ref (bd 0)), (1, .int p1), (2, .int p2), (5, .int x4)]) hx hb dX7_runs_122 hl (by decide) rfl (fun ls hl => ?_)
        refine lv_iload hx hb dX7_runs_124 (lv_at hl 4 rfl) ?_
        refine lv_iconst (v := (nI 3)) hx hb dX7_runs_126 (by decide) ?_
        have hJ165 : ∀ (S9 : St) (x7 : Int32) (x8 : Int32), m_X7_runs_J165 p1 S9 x7 x8 = some SZ → ∀ (H : Heap) (locs : List Loc) (ls : Array Slot), va_P D vwCl (mw cyI cyJ cyZ bd S9) H → va_S (MA bd) s.heap H locs → lv_has ls 9 [(0, .ref (bd 0)), (1, .int p1), (5, .int x7), (6, .int x8)] → W p l e rl_X7_runs s m args below meth c H locs 0 0 (MQ below (PoV D (mw cyI cyJ cyZ bd SZ) (MA bd)) args s 0 0 (MA bd)) (F0 m 165 ls []) := by
          intro S9 x7 x8 hf H locs ls hP hS hl
          unfold m_X7_runs_J165 at hf
          refine lv_aload_n hx hb dX7_runs_165 rfl (lv_at hl 0 rfl) ?_
          refine va_get (D := D) (ci := 7) (v := .int (S9.1 25 0)) (C := RX7) (T := TX7) (N := 48) hx hb hts hin7 hown hK hP 0 (mw_o (S := S9)) rfl 25 (by decide) hfl154 (fun _ h9 => h9) mw_f25 dX7_runs_166 ?_
          refine lv_topi (fun x10 ex10 => ?_)
          have hf := zb_x hf ex10
          refine lv_istore (lv' := [(7, .int x10), (0, .ref (bd 0)), (1, .int p1), (5, .int x7), (6, .int x8)]) hx hb dX7_runs_169 hl (by decide) rfl (fun ls hl => ?_)
          refine lv_aload_n hx hb dX7_runs_171 rfl (lv_at hl 1 rfl) ?_
          refine lv_dup hx hb dX7_runs_172 rfl ?_
          refine va_get (D := D) (ci := 7) (v := .int (S9.1 25 0)) (C := RX7) (T := TX7) (N := 48) hx hb hts hin7 hown hK hP 0 (mw_o (S := S9)) rfl 25 (by decide) hfl154 (fun _ h9 => h9) mw_f25 dX7_runs_173 ?_
          refine lv_iconst (v := (nI 1)) hx hb dX7_runs_176 (by decide) ?_
          refine lv_iadd hx hb dX7_runs_177 ?_
          refine va_put (D := D) (ci := 7) (v := .int (rs S9 25 + (nI 1))) (ty := .int) (C := RX7) (T := TX7) (N := 48) hx hb hts hin7 tyX7 tyX7_ok nmX7 hown hK hP (mw_D hAd) hS 0 (mw_o (S := S9)) rfl 25 (by decide) hfl154 (fun _ h9 => h9) rfl (by decide +kernel) rfl rfl (Nat.le_of_ble_eq_true rfl) dX7_runs_178 (fun H locs hP _ hS => ?_)
          have hP : va_P D vwCl (mw cyI cyJ cyZ bd (wi S9 25 0 (rs S9 25 + (nI 1)))) H := by rw [← mw_s25]; exact hP
          obtain ⟨S11, eS11, hf⟩ := zb_k hf
          rw [← eS11] at hP
          refine lv_iconst (v := (nI 0)) hx hb dX7_runs_181 (by decide) ?_
          refine lv_istore (lv' := [(8, .int (nI 0)), (7, .int x10), (0, .ref (bd 0)), (1, .int p1), (5, .int x7), (6, .int x8)]) hx hb dX7_runs_182 hl (by decide) rfl (fun ls hl => ?_)
          refine zl2_ind (F := (m_X7_runs_B184 x10 x8 x7 p1)) (R := SZ) (P := fun S12 x13 => ∀ (H : Heap) (locs : List Loc) (ls : Array Slot), va_P D vwCl (mw cyI cyJ cyZ bd S12) H → va_S (MA bd) s.heap H locs → lv_has ls 9 [(7, .int x10), (0, .ref (bd 0)), (1, .int p1), (5, .int x7), (6, .int x8), (8, .int x13)] → W p l e rl_X7_runs s m args below meth c H locs 0 0 (MQ below (PoV D (mw cyI cyJ cyZ bd SZ) (MA bd)) args s 0 0 (MA bd)) (F0 m 184 ls [])) (fun rec184 ih184 S12 x13 hf H locs ls hP hS hl => ?_) FU S11 (nI 0) hf _ _ _ hP hS (lv_sub hl [1, 2, 3, 4, 5, 0] rfl)
          unfold m_X7_runs_B184 at hf
          refine lv_iload hx hb dX7_runs_184 (lv_at hl 5 rfl) ?_
          refine lv_bipush (v := (nI 6)) hx hb dX7_runs_186 (by decide) ?_
          refine lv_icmp_ge (tgt := 217) hx hb dX7_runs_188 (by decide) (fun hc => ?_) (fun hc => ?_)
          · have hf := ifp hf hc
            refine lv_aload_n hx hb dX7_runs_217 rfl (lv_at hl 1 rfl) ?_
            refine va_get (D := D) (ci := 7) (v := .ref (bd 23)) (C := RX7) (T := TX7) (N := 48) hx hb hts hin7 hown hK hP 0 (mw_o (S := S12)) rfl 27 (by decide) hfl78 (fun _ h9 => h9) mw_f27 dX7_runs_218 ?_
            refine lv_iload hx hb dX7_runs_221 (lv_at hl 0 rfl) ?_
            refine lv_iload hx hb dX7_runs_223 (lv_at hl 4 rfl) ?_
            obtain ⟨hin, hf⟩ := zg_k hf
            refine va_iast hx hb hK hP (mw_D hAd) hS 23 0 (mw_a27 (S := S12)) rfl (inb_k hin) dX7_runs_225 (fun H locs hP _ hS => ?_)
            have hP : va_P D vwCl (mw cyI cyJ cyZ bd (wi S12 27 (Int32.toNatClampNeg x10) x8)) H := by rw [← mw_s27]; exact hP
            obtain ⟨S14, eS14, hf⟩ := zb_k hf
            rw [← eS14] at hP
            refine lv_aload_n hx hb dX7_runs_226 rfl (lv_at hl 1 rfl) ?_
            refine va_get (D := D) (ci := 7) (v := .ref (bd 24)) (C := RX7) (T := TX7) (N := 48) hx hb hts hin7 hown hK hP 0 (mw_o (S := S14)) rfl 28 (by decide) hfl81 (fun _ h9 => h9) mw_f28 dX7_runs_227 ?_
            refine lv_iload hx hb dX7_runs_230 (lv_at hl 0 rfl) ?_
            refine lv_iload hx hb dX7_runs_232 (lv_at hl 3 rfl) ?_
            obtain ⟨hin, hf⟩ := zg_k hf
            refine va_iast hx hb hK hP (mw_D hAd) hS 24 0 (mw_a28 (S := S14)) rfl (inb_k hin) dX7_runs_234 (fun H locs hP _ hS => ?_)
            have hP : va_P D vwCl (mw cyI cyJ cyZ bd (wi S14 28 (Int32.toNatClampNeg x10) x7)) H := by rw [← mw_s28]; exact hP
            obtain ⟨S15, eS15, hf⟩ := zb_k hf
            rw [← eS15] at hP
            refine lv_aload_n hx hb dX7_runs_235 rfl (lv_at hl 1 rfl) ?_
            refine va_get (D := D) (ci := 7) (v := .int (S15.1 25 0)) (C := RX7) (T := TX7) (N := 48) hx hb hts hin7 hown hK hP 0 (mw_o (S := S15)) rfl 25 (by decide) hfl154 (fun _ h9 => h9) mw_f25 dX7_runs_236 ?_
            refine lv_bipush (v := (nI 100)) hx hb dX7_runs_239 (by decide) ?_
            refine lv_icmp_le (tgt := 249) hx hb dX7_runs_241 (by decide) (fun hc => ?_) (fun hc => ?_)
            · have hf := ifp hf hc
              refine lv_aload_n hx hb dX7_runs_249 rfl (lv_at hl 1 rfl) ?_
              refine lv_iload_n hx hb dX7_runs_250 rfl (lv_at hl 2 rfl) ?_
              refine lv_iload hx hb dX7_runs_251 (lv_at hl 4 rfl) ?_
              refine lv_iload hx hb dX7_runs_253 (lv_at hl 3 rfl) ?_
              obtain ⟨S16, hc255, hf⟩ := zo_k hf
              refine cal_v (rnV (As := [.int p1, .int x8, .int x7]) (rest := []) ⟨hx, hb, hml, hown, hts⟩ (c_X7_keeps hAd  hc255) (cwV 3 hts gX7_runs_X7_keeps rfl rfl rfl cdV_X7_keeps ⟨Nat.le_of_ble_eq_true rfl, Nat.le_of_ble_eq_true rfl⟩) hP hK hN (mw_o (S := S15)) rfl rfl hl.1 rfl (Nat.le_of_ble_eq_true rfl) dX7_runs_255 ⟨Nat.zero_le _, Nat.zero_le _⟩) hS (fun H locs hP hS => ?_)
              refine lv_aload_n hx hb dX7_runs_258 rfl (lv_at hl 1 rfl) ?_
              refine lv_iload_n hx hb dX7_runs_259 rfl (lv_at hl 2 rfl) ?_
              refine lv_iload hx hb dX7_runs_260 (lv_at hl 4 rfl) ?_
              refine lv_iconst (v := (nI 3)) hx hb dX7_runs_262 (by decide) ?_
              obtain ⟨S17, hc263, hf⟩ := zo_k hf
              refine cal_v (rnV (As := [.int p1, .int x8, .int (nI 3)]) (rest := []) ⟨hx, hb, hml, hown, hts⟩ (c_X7_finishes hAd  hc263) (cwV 3 hts gX7_runs_X7_finishes rfl rfl rfl cdV_X7_finishes ⟨Nat.le_of_ble_eq_true rfl, Nat.le_of_ble_eq_true rfl⟩) hP hK hN (mw_o (S := S16)) rfl rfl hl.1 rfl (Nat.le_of_ble_eq_true rfl) dX7_runs_263 ⟨Nat.zero_le _, Nat.zero_le _⟩) hS (fun H locs hP hS => ?_)
              cases Option.some.inj hf
              exact fin_v hx hb hr hlk hS hP dX7_runs_266
            · have hf := ifn hf hc
              refine lv_aload_n hx hb dX7_runs_244 rfl (lv_at hl 1 rfl) ?_
              refine lv_iconst (v := (nI 0)) hx hb dX7_runs_245 (by decide) ?_
              obtain ⟨S18, hc246, hf⟩ := zo_k hf
              refine cal_v (rnV (As := [.int (nI 0)]) (rest := []) ⟨hx, hb, hml, hown, hts⟩ (c_X7_drops hAd  hc246) (cwV 1 hts gX7_runs_X7_drops rfl rfl rfl cdV_X7_drops ⟨Nat.le_of_ble_eq_true rfl, Nat.le_of_ble_eq_true rfl⟩) hP hK hN (mw_o (S := S15)) rfl rfl hl.1 rfl (Nat.le_of_ble_eq_true rfl) dX7_runs_246 ⟨Nat.zero_le _, Nat.zero_le _⟩) hS (fun H locs hP hS => ?_)
              refine lv_aload_n hx hb dX7_runs_249 rfl (lv_at hl 1 rfl) ?_
              refine lv_iload_n hx hb dX7_runs_250 rfl (lv_at hl 2 rfl) ?_
              refine lv_iload hx hb dX7_runs_251 (lv_at hl 4 rfl) ?_
              refine lv_iload hx hb dX7_runs_253 (lv_at hl 3 rfl) ?_
              obtain ⟨S19, hc255, hf⟩ := zo_k hf
              refine cal_v (rnV (As := [.int p1, .int x8, .int x7]) (rest := []) ⟨hx, hb, hml, hown, hts⟩ (c_X7_keeps hAd  hc255) (cwV 3 hts gX7_runs_X7_keeps rfl rfl rfl cdV_X7_keeps ⟨Nat.le_of_ble_eq_true rfl, Nat.le_of_ble_eq_true rfl⟩) hP hK hN (mw_o (S := S18)) rfl rfl hl.1 rfl (Nat.le_of_ble_eq_true rfl) dX7_runs_255 ⟨Nat.zero_le _, Nat.zero_le _⟩) hS (fun H locs hP hS => ?_)
              refine lv_aload_n hx hb dX7_runs_258 rfl (lv_at hl 1 rfl) ?_
              refine lv_iload_n hx hb dX7_runs_259 rfl (lv_at hl 2 rfl) ?_
              refine lv_iload hx hb dX7_runs_260 (lv_at hl 4 rfl) ?_
              refine lv_iconst (v := (nI 3)) hx hb dX7_runs_262 (by decide) ?_
              obtain ⟨S20, hc263, hf⟩ := zo_k hf
              refine cal_v (rnV (As := [.int p1, .int x8, .int (nI 3)]) (rest := []) ⟨hx, hb, hml, hown, hts⟩ (c_X7_finishes hAd  hc263) (cwV 3 hts gX7_runs_X7_finishes rfl rfl rfl cdV_X7_finishes ⟨Nat.le_of_ble_eq_true rfl, Nat.le_of_ble_eq_true rfl⟩) hP hK hN (mw_o (S := S19)) rfl rfl hl.1 rfl (Nat.le_of_ble_eq_true rfl) dX7_runs_263 ⟨Nat.zero_le _, Nat.zero_le _⟩) hS (fun H locs hP hS => ?_)
              cases Option.some.inj hf
              exact fin_v hx hb hr hlk hS hP dX7_runs_266
          · have hf := ifn hf hc
            refine lv_aload_n hx hb dX7_runs_191 rfl (lv_at hl 1 rfl) ?_
            refine va_get (D := D) (ci := 7) (v := .ref (bd 22)) (C := RX7) (T := TX7) (N := 48) hx hb hts hin7 hown hK hP 0 (mw_o (S := S12)) rfl 26 (by decide) hfl75 (fun _ h9 => h9) mw_f26 dX7_runs_192 ?_
            refine lv_bipush (v := (nI 6)) hx hb dX7_runs_195 (by decide) ?_
            refine lv_iload hx hb dX7_runs_197 (lv_at hl 0 rfl) ?_
            refine lv_imul hx hb dX7_runs_199 ?_
            refine lv_iload hx hb dX7_runs_200 (lv_at hl 5 rfl) ?_
            refine lv_iadd hx hb dX7_runs_202 ?_
            refine lv_aload_n hx hb dX7_runs_203 rfl (lv_at hl 1 rfl) ?_
            refine va_get (D := D) (ci := 7) (v := .ref (bd 37)) (C := RX7) (T := TX7) (N := 48) hx hb hts hin7 hown hK hP 0 (mw_o (S := S12)) rfl 42 (by decide) hfl120 (fun _ h9 => h9) mw_f42 dX7_runs_204 ?_
            refine lv_iload hx hb dX7_runs_207 (lv_at hl 5 rfl) ?_
            obtain ⟨hin, hf⟩ := zg_k hf
            refine va_lald hx hb hK hP 37 1 (mw_a42 (S := S12)) rfl (inb_k hin) dX7_runs_209 ?_
            obtain ⟨hin, hf⟩ := zg_k hf
            refine va_last hx hb hK hP (mw_D hAd) hS 22 1 (mw_a26 (S := S12)) rfl (inb_k hin) dX7_runs_210 (fun H locs hP _ hS => ?_)
            have hP : va_P D vwCl (mw cyI cyJ cyZ bd (wj S12 26 (Int32.toNatClampNeg (((nI 6) * x10) + x13)) (rj S12 42 x13))) H := by rw [← mw_s26]; exact hP
            obtain ⟨S21, eS21, hf⟩ := zb_k hf
            rw [← eS21] at hP
            obtain ⟨x22, ex22, hf⟩ := zb_k hf
            refine lv_iinc (v := x22) (lv' := [(8, .int x22), (7, .int x10), (0, .ref (bd 0)), (1, .int p1), (5, .int x7), (6, .int x8)]) hx hb dX7_runs_211 hl (k := 5) rfl (by rw [ex22]; rfl) (by decide) rfl (fun ls hl => ?_)
            refine lv_goto (tgt := 184) hx hb dX7_runs_214 (by decide) ?_
            exact ih184 S21 x22 hf _ _ _ hP hS (lv_sub hl [1, 2, 3, 4, 5, 0] rfl)
        refine lv_icmp_eq (tgt := 165) hx hb dX7_runs_127 (by decide) (fun hc => ?_) (fun hc => ?_)
        · have hf := ifp hf hc
          exact hJ165 S2 x4 t6 hf _ _ _ hP hS (lv_sub hl [1, 2, 4, 0] rfl)
        · have hf := ifn hf hc
          refine lv_aload_n hx hb dX7_runs_130 rfl (lv_at hl 1 rfl) ?_
          refine va_get (D := D) (ci := 7) (v := .int (S2.1 12 0)) (C := RX7) (T := TX7) (N := 48) hx hb hts hin7 hown hK hP 0 (mw_o (S := S2)) rfl 12 (by decide) hfl147 (fun _ h9 => h9) mw_f12 dX7_runs_131 ?_
          refine lv_if_eq (tgt := 165) hx hb dX7_runs_134 (by decide) (fun hc => ?_) (fun hc => ?_)
          · have hf := ifp hf hc
            exact hJ165 S2 x4 t6 hf _ _ _ hP hS (lv_sub hl [1, 2, 4, 0] rfl)
          · have hf := ifn hf hc
            refine lv_aload_n hx hb dX7_runs_137 rfl (lv_at hl 1 rfl) ?_
            refine va_get (D := D) (ci := 7) (v := .ref (bd 29)) (C := RX7) (T := TX7) (N := 48) hx hb hts hin7 hown hK hP 0 (mw_o (S := S2)) rfl 33 (by decide) hfl96 (fun _ h9 => h9) mw_f33 dX7_runs_138 ?_
            refine lv_iconst (v := (nI 0)) hx hb dX7_runs_141 (by decide) ?_
            refine lv_dup2_11 hx hb dX7_runs_142 rfl rfl ?_
            obtain ⟨hin, hf⟩ := zg_k hf
            refine va_iald hx hb hK hP 29 0 (mw_a33 (S := S2)) rfl (inb_k hin) dX7_runs_143 ?_
            refine lv_iconst (v := (nI 1)) hx hb dX7_runs_144 (by decide) ?_
            refine lv_iadd hx hb dX7_runs_145 ?_
            obtain ⟨hin, hf⟩ := zg_k hf
            refine va_iast hx hb hK hP (mw_D hAd) hS 29 0 (mw_a33 (S := S2)) rfl (inb_k hin) dX7_runs_146 (fun H locs hP _ hS => ?_)
            have hP : va_P D vwCl (mw cyI cyJ cyZ bd (wi S2 33 (Int32.toNatClampNeg (nI 0)) ((ri S2 33 (nI 0)) + (nI 1)))) H := by rw [← mw_s33]; exact hP
            obtain ⟨S23, eS23, hf⟩ := zb_k hf
            rw [← eS23] at hP
            refine lv_iload hx hb dX7_runs_147 (lv_at hl 0 rfl) ?_
            refine lv_iload_n hx hb dX7_runs_149 rfl (lv_at hl 3 rfl) ?_
            refine lv_icmp_eq (tgt := 165) hx hb dX7_runs_150 (by decide) (fun hc => ?_) (fun hc => ?_)
            · have hf := ifp hf hc
              exact hJ165 S23 x4 t6 hf _ _ _ hP hS (lv_sub hl [1, 2, 4, 0] rfl)
            · have hf := ifn hf hc
              refine lv_iload_n hx hb dX7_runs_153 rfl (lv_at hl 3 rfl) ?_
              refine lv_istore (lv' := [(6, .int p2), (0, .ref (bd 0)), (1, .int p1), (2, .int p2), (5, .int x4)]) hx hb dX7_runs_154 hl (by decide) rfl (fun ls hl => ?_)
              refine lv_aload_n hx hb dX7_runs_156 rfl (lv_at hl 1 rfl) ?_
              refine lv_iload hx hb dX7_runs_157 (lv_at hl 4 rfl) ?_
              obtain ⟨S24, hc159, hf⟩ := zo_k hf
              refine cal_v (rnV (As := [.int x4]) (rest := []) ⟨hx, hb, hml, hown, hts⟩ (c_X7_putsAway hAd  hc159) (cwV 1 hts gX7_runs_X7_putsAway rfl rfl rfl cdV_X7_putsAway ⟨Nat.le_of_ble_eq_true rfl, Nat.le_of_ble_eq_true rfl⟩) hP hK hN (mw_o (S := S23)) rfl rfl hl.1 rfl (Nat.le_of_ble_eq_true rfl) dX7_runs_159 ⟨Nat.zero_le _, Nat.zero_le _⟩) hS (fun H locs hP hS => ?_)
              refine lv_iconst (v := (nI 3)) hx hb dX7_runs_162 (by decide) ?_
              refine lv_istore (lv' := [(5, .int (nI 3)), (6, .int p2), (0, .ref (bd 0)), (1, .int p1), (2, .int p2)]) hx hb dX7_runs_163 hl (by decide) rfl (fun ls hl => ?_)
              exact hJ165 S24 (nI 3) p2 hf _ _ _ hP hS (lv_sub hl [2, 3, 0, 1] rfl)
      have hJ121 : m_X7_runs_J121 x4 p1 S2 p2 = some SZ → ∀ (H : Heap) (locs : List Loc) (ls : Array Slot), va_P D vwCl (mw cyI cyJ cyZ bd S2) H → va_S (MA bd) s.heap H locs → lv_has ls 9 [(0, .ref (bd 0)), (1, .int p1), (2, .int p2), (5, .int x4)] → W p l e rl_X7_runs s m args below meth c H locs 0 0 (MQ below (PoV D (mw cyI cyJ cyZ bd SZ) (MA bd)) args s 0 0 (MA bd)) (F0 m 121 ls []) := by
        intro  hf H locs ls hP hS hl
        unfold m_X7_runs_J121 at hf
        refine lv_iload_n hx hb dX7_runs_121 rfl (lv_at hl 2 rfl) ?_
        exact hJ122 p2 hf _ _ _ hP hS (lv_sub hl [0, 1, 2, 3] rfl)
      refine lv_icmp_eq (tgt := 121) hx hb dX7_runs_98 (by decide) (fun hc => ?_) (fun hc => ?_)
      · have hf := ifp hf hc
        exact hJ121  hf _ _ _ hP hS (lv_sub hl [0, 1, 2, 4] rfl)
      · have hf := ifn hf hc
        refine lv_aload_n hx hb dX7_runs_101 rfl (lv_at hl 0 rfl) ?_
        refine va_get (D := D) (ci := 7) (v := .ref (bd 10)) (C := RX7) (T := TX7) (N := 48) hx hb hts hin7 hown hK hP 0 (mw_o (S := S2)) rfl 9 (by decide) hfl37 (fun _ h9 => h9) mw_f9 dX7_runs_102 ?_
        refine lv_iload hx hb dX7_runs_105 (lv_at hl 4 rfl) ?_
        obtain ⟨hin, hf⟩ := zg_k hf
        refine va_zald hx hb hK hP 10 2 (mw_a9 (S := S2)) rfl (inb_k hin) dX7_runs_107 ?_
        refine lv_if_eq (tgt := 121) hx hb dX7_runs_108 (by decide) (fun hc => ?_) (fun hc => ?_)
        · have hf := ifp hf hc
          exact hJ121  hf _ _ _ hP hS (lv_sub hl [0, 1, 2, 4] rfl)
        · have hf := ifn hf hc
          refine lv_iload_n hx hb dX7_runs_111 rfl (lv_at hl 2 rfl) ?_
          refine lv_iconst (v := (nI 1)) hx hb dX7_runs_112 (by decide) ?_
          refine lv_iadd hx hb dX7_runs_113 ?_
          refine lv_sipush (v := (nI 1000)) hx hb dX7_runs_114 (by decide) ?_
          refine lv_irem hx hb dX7_runs_117 (by decide) ?_
          refine lv_goto (tgt := 122) hx hb dX7_runs_118 (by decide) ?_
          exact hJ122 (irm (p2 + (nI 1)) (nI 1000)) hf _ _ _ hP hS (lv_sub hl [0, 1, 2, 4] rfl)
    · have hf := ifn hf hc
      refine lv_aload_n hx hb dX7_runs_86 rfl (lv_at hl 0 rfl) ?_
      refine lv_iload_n hx hb dX7_runs_87 rfl (lv_at hl 1 rfl) ?_
      refine lv_bipush (v := (-5)) hx hb dX7_runs_88 (by decide) ?_
      refine lv_iconst (v := (nI 4)) hx hb dX7_runs_90 (by decide) ?_
      obtain ⟨S25, hc91, hf⟩ := zo_k hf
      refine cal_v (rnV (As := [.int p1, .int (-5), .int (nI 4)]) (rest := []) ⟨hx, hb, hml, hown, hts⟩ (c_X7_finishes hAd  hc91) (cwV 3 hts gX7_runs_X7_finishes rfl rfl rfl cdV_X7_finishes ⟨Nat.le_of_ble_eq_true rfl, Nat.le_of_ble_eq_true rfl⟩) hP hK hN (mw_o (S := S2)) rfl rfl hl.1 rfl (Nat.le_of_ble_eq_true rfl) dX7_runs_91 ⟨Nat.zero_le _, Nat.zero_le _⟩) hS (fun H locs hP hS => ?_)
      cases Option.some.inj hf
      exact fin_v hx hb hr hlk hS hP dX7_runs_94
  refine lv_icmp_ge (tgt := 81) hx hb dX7_runs_16 (by decide) (fun hc => ?_) (fun hc => ?_)
  · have hf := ifp hf hc
    exact hJ81  hf _ _ _ hP hS (lv_sub hl [1, 2, 3, 4, 5] rfl)
  · have hf := ifn hf hc
    refine lv_iload hx hb dX7_runs_19 (lv_at hl 4 rfl) ?_
    refine lv_if_eq (tgt := 81) hx hb dX7_runs_21 (by decide) (fun hc => ?_) (fun hc => ?_)
    · have hf := ifp hf hc
      exact hJ81  hf _ _ _ hP hS (lv_sub hl [1, 2, 3, 4, 5] rfl)
    · have hf := ifn hf hc
      refine lv_aload_n hx hb dX7_runs_24 rfl (lv_at hl 1 rfl) ?_
      refine va_get (D := D) (ci := 7) (v := .ref (bd 29)) (C := RX7) (T := TX7) (N := 48) hx hb hts hin7 hown hK hP 0 (mw_o (S := S2)) rfl 33 (by decide) hfl96 (fun _ h9 => h9) mw_f33 dX7_runs_25 ?_
      refine lv_iconst (v := (nI 0)) hx hb dX7_runs_28 (by decide) ?_
      refine lv_dup2_11 hx hb dX7_runs_29 rfl rfl ?_
      obtain ⟨hin, hf⟩ := zg_k hf
      refine va_iald hx hb hK hP 29 0 (mw_a33 (S := S2)) rfl (inb_k hin) dX7_runs_30 ?_
      refine lv_iconst (v := (nI 1)) hx hb dX7_runs_31 (by decide) ?_
      refine lv_iadd hx hb dX7_runs_32 ?_
      obtain ⟨hin, hf⟩ := zg_k hf
      refine va_iast hx hb hK hP (mw_D hAd) hS 29 0 (mw_a33 (S := S2)) rfl (inb_k hin) dX7_runs_33 (fun H locs hP _ hS => ?_)
      have hP : va_P D vwCl (mw cyI cyJ cyZ bd (wi S2 33 (Int32.toNatClampNeg (nI 0)) ((ri S2 33 (nI 0)) + (nI 1)))) H := by rw [← mw_s33]; exact hP
      obtain ⟨S26, eS26, hf⟩ := zb_k hf
      rw [← eS26] at hP
      refine lv_aload_n hx hb dX7_runs_34 rfl (lv_at hl 1 rfl) ?_
      obtain ⟨x27, S28, hc35, hf⟩ := zo2_k hf
      refine cal_i (rnV (As := []) (rest := []) ⟨hx, hb, hml, hown, hts⟩ (c_X7_nextMachine hAd  hc35) (cwV 0 hts gX7_runs_X7_nextMachine rfl rfl rfl cdV_X7_nextMachine ⟨Nat.le_of_ble_eq_true rfl, Nat.le_of_ble_eq_true rfl⟩) hP hK hN (mw_o (S := S26)) rfl rfl hl.1 rfl (Nat.le_of_ble_eq_true rfl) dX7_runs_35 ⟨Nat.zero_le _, Nat.zero_le _⟩) hS (fun H locs hP hS => ?_)
      refine lv_istore (lv' := [(5, .int x27), (3, .int x1), (0, .ref (bd 0)), (1, .int p1), (2, .int p2), (4, .int x3), (6, .int x5)]) hx hb dX7_runs_38 hl (by decide) rfl (fun ls hl => ?_)
      refine lv_aload_n hx hb dX7_runs_40 rfl (lv_at hl 2 rfl) ?_
      refine va_get (D := D) (ci := 7) (v := .ref (bd 9)) (C := RX7) (T := TX7) (N := 48) hx hb hts hin7 hown hK hP 0 (mw_o (S := S28)) rfl 8 (by decide) hfl34 (fun _ h9 => h9) mw_f8 dX7_runs_41 ?_
      refine lv_iload_n hx hb dX7_runs_44 rfl (lv_at hl 1 rfl) ?_
      obtain ⟨hin, hf⟩ := zg_k hf
      refine va_iald hx hb hK hP 9 0 (mw_a8 (S := S28)) rfl (inb_k hin) dX7_runs_45 ?_
      have hJ54 : ∀ (t29 : Int32), m_X7_runs_J54 x1 S28 x5 rec13 x27 t29 = some SZ → ∀ (H : Heap) (locs : List Loc) (ls : Array Slot), va_P D vwCl (mw cyI cyJ cyZ bd S28) H → va_S (MA bd) s.heap H locs → lv_has ls 9 [(5, .int x27), (3, .int x1), (0, .ref (bd 0)), (1, .int p1), (2, .int p2), (6, .int x5)] → W p l e rl_X7_runs s m args below meth c H locs 0 0 (MQ below (PoV D (mw cyI cyJ cyZ bd SZ) (MA bd)) args s 0 0 (MA bd)) (F0 m 54 ls [.int t29]) := by
        intro t29 hf H locs ls hP hS hl
        unfold m_X7_runs_J54 at hf
        refine lv_istore (lv' := [(4, .int t29), (5, .int x27), (3, .int x1), (0, .ref (bd 0)), (1, .int p1), (2, .int p2), (6, .int x5)]) hx hb dX7_runs_54 hl (by decide) rfl (fun ls hl => ?_)
        refine lv_aload_n hx hb dX7_runs_56 rfl (lv_at hl 3 rfl) ?_
        refine va_get (D := D) (ci := 7) (v := .ref (bd 9)) (C := RX7) (T := TX7) (N := 48) hx hb hts hin7 hown hK hP 0 (mw_o (S := S28)) rfl 8 (by decide) hfl34 (fun _ h9 => h9) mw_f8 dX7_runs_57 ?_
        refine lv_iload_n hx hb dX7_runs_60 rfl (lv_at hl 2 rfl) ?_
        refine lv_dup2_11 hx hb dX7_runs_61 rfl rfl ?_
        obtain ⟨hin, hf⟩ := zg_k hf
        refine va_iald hx hb hK hP 9 0 (mw_a8 (S := S28)) rfl (inb_k hin) dX7_runs_62 ?_
        refine lv_iload hx hb dX7_runs_63 (lv_at hl 0 rfl) ?_
        have hJ73 : ∀ (t30 : Int32), m_X7_runs_J73 x1 S28 x5 rec13 t29 x27 t30 = some SZ → ∀ (H : Heap) (locs : List Loc) (ls : Array Slot), va_P D vwCl (mw cyI cyJ cyZ bd S28) H → va_S (MA bd) s.heap H locs → lv_has ls 9 [(4, .int t29), (5, .int x27), (3, .int x1), (0, .ref (bd 0)), (1, .int p1), (2, .int p2), (6, .int x5)] → W p l e rl_X7_runs s m args below meth c H locs 0 0 (MQ below (PoV D (mw cyI cyJ cyZ bd SZ) (MA bd)) args s 0 0 (MA bd)) (F0 m 73 ls [.int t30, .int (ri S28 8 x1), .int x1, .ref (bd 9)]) := by
          intro t30 hf H locs ls hP hS hl
          unfold m_X7_runs_J73 at hf
          refine lv_isub hx hb dX7_runs_73 ?_
          obtain ⟨hin, hf⟩ := zg_k hf
          refine va_iast hx hb hK hP (mw_D hAd) hS 9 0 (mw_a8 (S := S28)) rfl (inb_k hin) dX7_runs_74 (fun H locs hP _ hS => ?_)
          have hP : va_P D vwCl (mw cyI cyJ cyZ bd (wi S28 8 (Int32.toNatClampNeg x1) ((ri S28 8 x1) - t30))) H := by rw [← mw_s8]; exact hP
          obtain ⟨S31, eS31, hf⟩ := zb_k hf
          rw [← eS31] at hP
          obtain ⟨x32, ex32, hf⟩ := zb_k hf
          refine lv_iinc (v := x32) (lv' := [(6, .int x32), (4, .int t29), (5, .int x27), (3, .int x1), (0, .ref (bd 0)), (1, .int p1), (2, .int p2)]) hx hb dX7_runs_75 hl (k := 6) rfl (by rw [ex32]; rfl) (by decide) rfl (fun ls hl => ?_)
          refine lv_goto (tgt := 13) hx hb dX7_runs_78 (by decide) ?_
          exact ih13 S31 t29 x27 x32 hf _ _ _ hP hS (lv_sub hl [3, 4, 5, 6, 1, 2, 0] rfl)
        refine lv_if_eq (tgt := 72) hx hb dX7_runs_65 (by decide) (fun hc => ?_) (fun hc => ?_)
        · have hf := ifp hf hc
          refine lv_iconst (v := (nI 0)) hx hb dX7_runs_72 (by decide) ?_
          exact hJ73 (nI 0) hf _ _ _ hP hS (lv_sub hl [0, 1, 2, 3, 4, 5, 6] rfl)
        · have hf := ifn hf hc
          refine lv_iconst (v := (nI 1)) hx hb dX7_runs_68 (by decide) ?_
          refine lv_goto (tgt := 73) hx hb dX7_runs_69 (by decide) ?_
          exact hJ73 (nI 1) hf _ _ _ hP hS (lv_sub hl [0, 1, 2, 3, 4, 5, 6] rfl)
      refine lv_if_le (tgt := 53) hx hb dX7_runs_46 (by decide) (fun hc => ?_) (fun hc => ?_)
      · have hf := ifp hf hc
        refine lv_iconst (v := (nI 0)) hx hb dX7_runs_53 (by decide) ?_
        exact hJ54 (nI 0) hf _ _ _ hP hS (lv_sub hl [0, 1, 2, 3, 4, 6] rfl)
      · have hf := ifn hf hc
        refine lv_iconst (v := (nI 1)) hx hb dX7_runs_49 (by decide) ?_
        refine lv_goto (tgt := 54) hx hb dX7_runs_50 (by decide) ?_
        exact hJ54 (nI 1) hf _ _ _ hP hS (lv_sub hl [0, 1, 2, 3, 4, 6] rfl)
set_option maxHeartbeats 4000000 in
set_option maxRecDepth 100000 in
theorem c_X7_endsReading {l : Launch} {D : va_G} {cyI cyJ cyZ : ClassId} {bd : Nat → Nat}  (hAd : AdOK 41 bd)  {S : St} {p1 : Int32} {SZ : St} (hf : m_X7_endsReading S p1 = some SZ) : Met l yX7_endsReading wsX7_endsReading rl_X7_endsReading (PreW D [(cyI, .int), (cyJ, .long), (cyZ, .boolean)] (mw cyI cyJ cyZ bd S) [.ref (bd 0), .int p1]) (PoV D (mw cyI cyJ cyZ bd SZ) (MA bd)) 0 0 (MA bd) := by
  refine met_go (cc := cX7_endsReading) (maxL := 9) (ret := none) (by decide) rfl (Nat.le_of_ble_eq_true rfl) ?_
  intro p e s m args below meth c ls hx hb hr hml hts hown hlk hP hK hN hl
  have hown : s.vm.findClass RX7 = some m.cls := hown
  have hS : va_S (MA bd) s.heap s.heap [] := va_S.rf
  have hl : lv_has ls 9 [(0, .ref (bd 0)), (1, .int p1)] := hl
  have hin7 : ∀ w ∈ wsX70, w ∈ wsX7_endsReading := by decide +kernel
  have hfl13 := hts (.fieldLink RX7 13 "MakewheelModel" "kinds" "[I") (by decide +kernel)
  have hfl108 := hts (.fieldLink RX7 108 "MakewheelModel" "reads" "[I") (by decide +kernel)
  have hfl7 := hts (.fieldLink RX7 7 "MakewheelModel" "files" "[I") (by decide +kernel)
  have hfl19 := hts (.fieldLink RX7 19 "MakewheelModel" "salts" "[I") (by decide +kernel)
  have hfl172 := hts (.fieldLink RX7 172 "MakewheelModel" "isPlain" "Z") (by decide +kernel)
  have hfl96 := hts (.fieldLink RX7 96 "MakewheelModel" "counted" "[I") (by decide +kernel)
  have hfl78 := hts (.fieldLink RX7 78 "MakewheelModel" "cacheValue" "[I") (by decide +kernel)
  have hfl81 := hts (.fieldLink RX7 81 "MakewheelModel" "cacheFrom" "[I") (by decide +kernel)
  have hfl151 := hts (.fieldLink RX7 151 "MakewheelModel" "vanishing" "I") (by decide +kernel)
  have hfl209 := hts (.fieldLink RX7 209 "MakewheelModel" "leaked" "I") (by decide +kernel)
  have hfl16 := hts (.fieldLink RX7 16 "MakewheelModel" "numbers" "[I") (by decide +kernel)
  unfold m_X7_endsReading at hf
  refine lv_iload_n hx hb dX7_endsReading_0 rfl (lv_at hl 1 rfl) ?_
  refine lv_iconst (v := (nI 2)) hx hb dX7_endsReading_1 (by decide) ?_
  refine lv_idiv hx hb dX7_endsReading_2 (by decide) ?_
  refine lv_topi (fun x1 ex1 => ?_)
  have hf := zb_x hf ex1
  refine lv_istore_n (lv' := [(2, .int x1), (0, .ref (bd 0)), (1, .int p1)]) hx hb dX7_endsReading_3 rfl hl (by decide) rfl (fun ls hl => ?_)
  refine lv_aload_n hx hb dX7_endsReading_4 rfl (lv_at hl 1 rfl) ?_
  refine va_get (D := D) (ci := 7) (v := .ref (bd 2)) (C := RX7) (T := TX7) (N := 48) hx hb hts hin7 hown hK hP 0 (mw_o (S := S)) rfl 1 (by decide) hfl13 (fun _ h9 => h9) mw_f1 dX7_endsReading_5 ?_
  refine lv_iload_n hx hb dX7_endsReading_8 rfl (lv_at hl 0 rfl) ?_
  obtain ⟨hin, hf⟩ := zg_k hf
  refine va_iald hx hb hK hP 2 0 (mw_a1 (S := S)) rfl (inb_k hin) dX7_endsReading_9 ?_
  refine lv_topi (fun x2 ex2 => ?_)
  have hf := zb_x hf ex2
  refine lv_istore_n (lv' := [(3, .int x2), (2, .int x1), (0, .ref (bd 0)), (1, .int p1)]) hx hb dX7_endsReading_10 rfl hl (by decide) rfl (fun ls hl => ?_)
  refine lv_iconst (v := (nI 0)) hx hb dX7_endsReading_11 (by decide) ?_
  refine lv_istore (lv' := [(4, .int (nI 0)), (3, .int x2), (2, .int x1), (0, .ref (bd 0)), (1, .int p1)]) hx hb dX7_endsReading_12 hl (by decide) rfl (fun ls hl => ?_)
  refine lv_iconst (v := (nI 0)) hx hb dX7_endsReading_14 (by decide) ?_
  refine lv_istore (lv' := [(5, .int (nI 0)), (4, .int (nI 0)), (3, .int x2), (2, .int x1), (0, .ref (bd 0)), (1, .int p1)]) hx hb dX7_endsReading_15 hl (by decide) rfl (fun ls hl => ?_)
  refine zl2_ind (F := (m_X7_endsReading_B17 p1 S x2 x1)) (R := SZ) (P := fun x3 x4 => ∀ (H : Heap) (locs : List Loc) (ls : Array Slot), va_P D vwCl (mw cyI cyJ cyZ bd S) H → va_S (MA bd) s.heap H locs → lv_has ls 9 [(3, .int x2), (2, .int x1), (0, .ref (bd 0)), (1, .int p1), (4, .int x3), (5, .int x4)] → W p l e rl_X7_endsReading s m args below meth c H locs 0 0 (MQ below (PoV D (mw cyI cyJ cyZ bd SZ) (MA bd)) args s 0 0 (MA bd)) (F0 m 17 ls [])) (fun rec17 ih17 x3 x4 hf H locs ls hP hS hl => ?_) FU (nI 0) (nI 0) hf _ _ _ hP hS (lv_sub hl [2, 3, 4, 5, 1, 0] rfl)
  unfold m_X7_endsReading_B17 at hf
  refine lv_iload hx hb dX7_endsReading_17 (lv_at hl 5 rfl) ?_
  refine lv_aload_n hx hb dX7_endsReading_19 rfl (lv_at hl 2 rfl) ?_
  refine va_get (D := D) (ci := 7) (v := .ref (bd 33)) (C := RX7) (T := TX7) (N := 48) hx hb hts hin7 hown hK hP 0 (mw_o (S := S)) rfl 38 (by decide) hfl108 (fun _ h9 => h9) mw_f38 dX7_endsReading_20 ?_
  refine lv_iload_n hx hb dX7_endsReading_23 rfl (lv_at hl 3 rfl) ?_
  obtain ⟨hin, hf⟩ := zg_k hf
  refine va_iald hx hb hK hP 33 0 (mw_a38 (S := S)) rfl (inb_k hin) dX7_endsReading_24 ?_
  refine lv_icmp_ge (tgt := 46) hx hb dX7_endsReading_25 (by decide) (fun hc => ?_) (fun hc => ?_)
  · have hf := ifp hf hc
    refine lv_iload_n hx hb dX7_endsReading_46 rfl (lv_at hl 0 rfl) ?_
    refine lv_iconst (v := (nI 3)) hx hb dX7_endsReading_47 (by decide) ?_
    have hJ68 : ∀ (t5 : Int32), m_X7_endsReading_J68 S x2 p1 x3 x1 t5 = some SZ → ∀ (H : Heap) (locs : List Loc) (ls : Array Slot), va_P D vwCl (mw cyI cyJ cyZ bd S) H → va_S (MA bd) s.heap H locs → lv_has ls 9 [(3, .int x2), (2, .int x1), (0, .ref (bd 0)), (1, .int p1), (4, .int x3)] → W p l e rl_X7_endsReading s m args below meth c H locs 0 0 (MQ below (PoV D (mw cyI cyJ cyZ bd SZ) (MA bd)) args s 0 0 (MA bd)) (F0 m 68 ls [.int t5]) := by
      intro t5 hf H locs ls hP hS hl
      unfold m_X7_endsReading_J68 at hf
      refine lv_istore (lv' := [(5, .int t5), (3, .int x2), (2, .int x1), (0, .ref (bd 0)), (1, .int p1), (4, .int x3)]) hx hb dX7_endsReading_68 hl (by decide) rfl (fun ls hl => ?_)
      refine lv_aload_n hx hb dX7_endsReading_70 rfl (lv_at hl 3 rfl) ?_
      refine va_get (D := D) (ci := 7) (v := .ref (bd 1)) (C := RX7) (T := TX7) (N := 48) hx hb hts hin7 hown hK hP 0 (mw_o (S := S)) rfl 0 (by decide) hfl7 (fun _ h9 => h9) mw_f0 dX7_endsReading_71 ?_
      refine lv_iload hx hb dX7_endsReading_74 (lv_at hl 0 rfl) ?_
      obtain ⟨hin, hf⟩ := zg_k hf
      refine va_iald hx hb hK hP 1 0 (mw_a0 (S := S)) rfl (inb_k hin) dX7_endsReading_76 ?_
      refine lv_iconst (v := (-1)) hx hb dX7_endsReading_77 (by decide) ?_
      have hJ92 : ∀ (t6 : Int32), m_X7_endsReading_J92 x2 t5 S p1 x3 x1 t6 = some SZ → ∀ (H : Heap) (locs : List Loc) (ls : Array Slot), va_P D vwCl (mw cyI cyJ cyZ bd S) H → va_S (MA bd) s.heap H locs → lv_has ls 9 [(5, .int t5), (3, .int x2), (2, .int x1), (0, .ref (bd 0)), (1, .int p1), (4, .int x3)] → W p l e rl_X7_endsReading s m args below meth c H locs 0 0 (MQ below (PoV D (mw cyI cyJ cyZ bd SZ) (MA bd)) args s 0 0 (MA bd)) (F0 m 92 ls [.int t6]) := by
        intro t6 hf H locs ls hP hS hl
        unfold m_X7_endsReading_J92 at hf
        refine lv_istore (lv' := [(6, .int t6), (5, .int t5), (3, .int x2), (2, .int x1), (0, .ref (bd 0)), (1, .int p1), (4, .int x3)]) hx hb dX7_endsReading_92 hl (by decide) rfl (fun ls hl => ?_)
        refine lv_iload_n hx hb dX7_endsReading_94 rfl (lv_at hl 2 rfl) ?_
        refine lv_iconst (v := (nI 3)) hx hb dX7_endsReading_95 (by decide) ?_
        have hJ122 : ∀ (S8 : St) (x7 : Int32), m_X7_endsReading_J122 x2 x1 t5 p1 t6 S8 x7 = some SZ → ∀ (H : Heap) (locs : List Loc) (ls : Array Slot), va_P D vwCl (mw cyI cyJ cyZ bd S8) H → va_S (MA bd) s.heap H locs → lv_has ls 9 [(6, .int t6), (5, .int t5), (3, .int x2), (2, .int x1), (0, .ref (bd 0)), (1, .int p1), (4, .int x7)] → W p l e rl_X7_endsReading s m args below meth c H locs 0 0 (MQ below (PoV D (mw cyI cyJ cyZ bd SZ) (MA bd)) args s 0 0 (MA bd)) (F0 m 122 ls []) := by
          intro S8 x7 hf H locs ls hP hS hl
          unfold m_X7_endsReading_J122 at hf
          refine lv_iload_n hx hb dX7_endsReading_122 rfl (lv_at hl 2 rfl) ?_
          refine lv_iconst (v := (nI 4)) hx hb dX7_endsReading_123 (by decide) ?_
          have hJ171 : ∀ (S10 : St) (x9 : Int32), m_X7_endsReading_J171 x2 x1 p1 S10 x9 = some SZ → ∀ (H : Heap) (locs : List Loc) (ls : Array Slot), va_P D vwCl (mw cyI cyJ cyZ bd S10) H → va_S (MA bd) s.heap H locs → lv_has ls 9 [(3, .int x2), (2, .int x1), (0, .ref (bd 0)), (1, .int p1), (4, .int x9)] → W p l e rl_X7_endsReading s m args below meth c H locs 0 0 (MQ below (PoV D (mw cyI cyJ cyZ bd SZ) (MA bd)) args s 0 0 (MA bd)) (F0 m 171 ls []) := by
            intro S10 x9 hf H locs ls hP hS hl
            unfold m_X7_endsReading_J171 at hf
            refine lv_iload_n hx hb dX7_endsReading_171 rfl (lv_at hl 0 rfl) ?_
            refine lv_iconst (v := (nI 1)) hx hb dX7_endsReading_172 (by decide) ?_
            have hJ186 : ∀ (t11 : Int32), m_X7_endsReading_J186 x1 S10 p1 t11 = some SZ → ∀ (H : Heap) (locs : List Loc) (ls : Array Slot), va_P D vwCl (mw cyI cyJ cyZ bd S10) H → va_S (MA bd) s.heap H locs → lv_has ls 9 [(2, .int x1), (0, .ref (bd 0)), (1, .int p1)] → W p l e rl_X7_endsReading s m args below meth c H locs 0 0 (MQ below (PoV D (mw cyI cyJ cyZ bd SZ) (MA bd)) args s 0 0 (MA bd)) (F0 m 186 ls [.int t11]) := by
              intro t11 hf H locs ls hP hS hl
              unfold m_X7_endsReading_J186 at hf
              refine lv_aload_n hx hb dX7_endsReading_186 rfl (lv_at hl 1 rfl) ?_
              refine va_get (D := D) (ci := 7) (v := .ref (bd 4)) (C := RX7) (T := TX7) (N := 48) hx hb hts hin7 hown hK hP 0 (mw_o (S := S10)) rfl 3 (by decide) hfl19 (fun _ h9 => h9) mw_f3 dX7_endsReading_187 ?_
              refine lv_iload_n hx hb dX7_endsReading_190 rfl (lv_at hl 0 rfl) ?_
              obtain ⟨hin, hf⟩ := zg_k hf
              refine va_iald hx hb hK hP 4 0 (mw_a3 (S := S10)) rfl (inb_k hin) dX7_endsReading_191 ?_
              refine lv_iadd hx hb dX7_endsReading_192 ?_
              refine lv_sipush (v := (nI 1000)) hx hb dX7_endsReading_193 (by decide) ?_
              refine lv_irem hx hb dX7_endsReading_196 (by decide) ?_
              refine lv_topi (fun x12 ex12 => ?_)
              have hf := zb_x hf ex12
              refine lv_istore (lv' := [(7, .int x12), (2, .int x1), (0, .ref (bd 0)), (1, .int p1)]) hx hb dX7_endsReading_197 hl (by decide) rfl (fun ls hl => ?_)
              refine lv_aload_n hx hb dX7_endsReading_199 rfl (lv_at hl 2 rfl) ?_
              refine va_get (D := D) (ci := 7) (v := .int (S10.1 43 0)) (C := RX7) (T := TX7) (N := 48) hx hb hts hin7 hown hK hP 0 (mw_o (S := S10)) rfl 43 (by decide) hfl172 (fun _ h9 => h9) mw_f43 dX7_endsReading_200 ?_
              refine lv_if_eq (tgt := 215) hx hb dX7_endsReading_203 (by decide) (fun hc => ?_) (fun hc => ?_)
              · have hf := ifp hf hc
                refine lv_aload_n hx hb dX7_endsReading_215 rfl (lv_at hl 2 rfl) ?_
                refine lv_iload_n hx hb dX7_endsReading_216 rfl (lv_at hl 3 rfl) ?_
                obtain ⟨S13, hc217, hf⟩ := zo_k hf
                refine cal_v (rnV (As := [.int p1]) (rest := []) ⟨hx, hb, hml, hown, hts⟩ (c_X7_laysKey hAd  hc217) (cwV 1 hts gX7_endsReading_X7_laysKey rfl rfl rfl cdV_X7_laysKey ⟨Nat.le_of_ble_eq_true rfl, Nat.le_of_ble_eq_true rfl⟩) hP hK hN (mw_o (S := S10)) rfl rfl hl.1 rfl (Nat.le_of_ble_eq_true rfl) dX7_endsReading_217 ⟨Nat.zero_le _, Nat.zero_le _⟩) hS (fun H locs hP hS => ?_)
                refine lv_aload_n hx hb dX7_endsReading_220 rfl (lv_at hl 2 rfl) ?_
                obtain ⟨x14, hc221, hf⟩ := zo_k hf
                refine cal_i (rnV (As := []) (rest := []) ⟨hx, hb, hml, hown, hts⟩ (c_X7_entryOf hAd  hc221) (cwV 0 hts gX7_endsReading_X7_entryOf rfl rfl rfl cdV_X7_entryOf ⟨Nat.le_of_ble_eq_true rfl, Nat.le_of_ble_eq_true rfl⟩) hP hK hN (mw_o (S := S13)) rfl rfl hl.1 rfl (Nat.le_of_ble_eq_true rfl) dX7_endsReading_221 ⟨Nat.zero_le _, Nat.zero_le _⟩) hS (fun H locs hP hS => ?_)
                refine lv_istore (lv' := [(8, .int x14), (7, .int x12), (2, .int x1), (0, .ref (bd 0)), (1, .int p1)]) hx hb dX7_endsReading_224 hl (by decide) rfl (fun ls hl => ?_)
                refine lv_iload hx hb dX7_endsReading_226 (lv_at hl 0 rfl) ?_
                refine lv_iconst (v := (-1)) hx hb dX7_endsReading_228 (by decide) ?_
                have hJ258 : ∀ (S16 : St) (x15 : Int32), m_X7_endsReading_J258 p1 x12 S16 x15 = some SZ → ∀ (H : Heap) (locs : List Loc) (ls : Array Slot), va_P D vwCl (mw cyI cyJ cyZ bd S16) H → va_S (MA bd) s.heap H locs → lv_has ls 9 [(7, .int x12), (0, .ref (bd 0)), (1, .int p1), (8, .int x15)] → W p l e rl_X7_endsReading s m args below meth c H locs 0 0 (MQ below (PoV D (mw cyI cyJ cyZ bd SZ) (MA bd)) args s 0 0 (MA bd)) (F0 m 258 ls []) := by
                  intro S16 x15 hf H locs ls hP hS hl
                  unfold m_X7_endsReading_J258 at hf
                  refine lv_iload hx hb dX7_endsReading_258 (lv_at hl 3 rfl) ?_
                  refine lv_iconst (v := (-1)) hx hb dX7_endsReading_260 (by decide) ?_
                  refine lv_icmp_eq (tgt := 307) hx hb dX7_endsReading_261 (by decide) (fun hc => ?_) (fun hc => ?_)
                  · have hf := ifp hf hc
                    refine lv_aload_n hx hb dX7_endsReading_307 rfl (lv_at hl 1 rfl) ?_
                    refine lv_iload_n hx hb dX7_endsReading_308 rfl (lv_at hl 2 rfl) ?_
                    refine lv_iload hx hb dX7_endsReading_309 (lv_at hl 0 rfl) ?_
                    obtain ⟨S17, hc311, hf⟩ := zo_k hf
                    refine cal_v (rnV (As := [.int p1, .int x12]) (rest := []) ⟨hx, hb, hml, hown, hts⟩ (c_X7_runs hAd  hc311) (cwV 2 hts gX7_endsReading_X7_runs rfl rfl rfl cdV_X7_runs ⟨Nat.le_of_ble_eq_true rfl, Nat.le_of_ble_eq_true rfl⟩) hP hK hN (mw_o (S := S16)) rfl rfl hl.1 rfl (Nat.le_of_ble_eq_true rfl) dX7_endsReading_311 ⟨Nat.zero_le _, Nat.zero_le _⟩) hS (fun H locs hP hS => ?_)
                    cases Option.some.inj hf
                    exact fin_v hx hb hr hlk hS hP dX7_endsReading_314
                  · have hf := ifn hf hc
                    refine lv_aload_n hx hb dX7_endsReading_264 rfl (lv_at hl 1 rfl) ?_
                    refine va_get (D := D) (ci := 7) (v := .ref (bd 29)) (C := RX7) (T := TX7) (N := 48) hx hb hts hin7 hown hK hP 0 (mw_o (S := S16)) rfl 33 (by decide) hfl96 (fun _ h9 => h9) mw_f33 dX7_endsReading_265 ?_
                    refine lv_iconst (v := (nI 1)) hx hb dX7_endsReading_268 (by decide) ?_
                    refine lv_dup2_11 hx hb dX7_endsReading_269 rfl rfl ?_
                    obtain ⟨hin, hf⟩ := zg_k hf
                    refine va_iald hx hb hK hP 29 0 (mw_a33 (S := S16)) rfl (inb_k hin) dX7_endsReading_270 ?_
                    refine lv_iconst (v := (nI 1)) hx hb dX7_endsReading_271 (by decide) ?_
                    refine lv_iadd hx hb dX7_endsReading_272 ?_
                    obtain ⟨hin, hf⟩ := zg_k hf
                    refine va_iast hx hb hK hP (mw_D hAd) hS 29 0 (mw_a33 (S := S16)) rfl (inb_k hin) dX7_endsReading_273 (fun H locs hP _ hS => ?_)
                    have hP : va_P D vwCl (mw cyI cyJ cyZ bd (wi S16 33 (Int32.toNatClampNeg (nI 1)) ((ri S16 33 (nI 1)) + (nI 1)))) H := by rw [← mw_s33]; exact hP
                    obtain ⟨S18, eS18, hf⟩ := zb_k hf
                    rw [← eS18] at hP
                    refine lv_aload_n hx hb dX7_endsReading_274 rfl (lv_at hl 1 rfl) ?_
                    refine lv_iload_n hx hb dX7_endsReading_275 rfl (lv_at hl 2 rfl) ?_
                    refine lv_aload_n hx hb dX7_endsReading_276 rfl (lv_at hl 1 rfl) ?_
                    refine va_get (D := D) (ci := 7) (v := .ref (bd 23)) (C := RX7) (T := TX7) (N := 48) hx hb hts hin7 hown hK hP 0 (mw_o (S := S18)) rfl 27 (by decide) hfl78 (fun _ h9 => h9) mw_f27 dX7_endsReading_277 ?_
                    refine lv_iload hx hb dX7_endsReading_280 (lv_at hl 3 rfl) ?_
                    obtain ⟨hin, hf⟩ := zg_k hf
                    refine va_iald hx hb hK hP 23 0 (mw_a27 (S := S18)) rfl (inb_k hin) dX7_endsReading_282 ?_
                    refine lv_aload_n hx hb dX7_endsReading_283 rfl (lv_at hl 1 rfl) ?_
                    refine va_get (D := D) (ci := 7) (v := .ref (bd 24)) (C := RX7) (T := TX7) (N := 48) hx hb hts hin7 hown hK hP 0 (mw_o (S := S18)) rfl 28 (by decide) hfl81 (fun _ h9 => h9) mw_f28 dX7_endsReading_284 ?_
                    refine lv_iload hx hb dX7_endsReading_287 (lv_at hl 3 rfl) ?_
                    obtain ⟨hin, hf⟩ := zg_k hf
                    refine va_iald hx hb hK hP 24 0 (mw_a28 (S := S18)) rfl (inb_k hin) dX7_endsReading_289 ?_
                    obtain ⟨S19, hc290, hf⟩ := zo_k hf
                    refine cal_v (rnV (As := [.int p1, .int (ri S18 27 x15), .int (ri S18 28 x15)]) (rest := []) ⟨hx, hb, hml, hown, hts⟩ (c_X7_keeps hAd  hc290) (cwV 3 hts gX7_endsReading_X7_keeps rfl rfl rfl cdV_X7_keeps ⟨Nat.le_of_ble_eq_true rfl, Nat.le_of_ble_eq_true rfl⟩) hP hK hN (mw_o (S := S18)) rfl rfl hl.1 rfl (Nat.le_of_ble_eq_true rfl) dX7_endsReading_290 ⟨Nat.zero_le _, Nat.zero_le _⟩) hS (fun H locs hP hS => ?_)
                    refine lv_aload_n hx hb dX7_endsReading_293 rfl (lv_at hl 1 rfl) ?_
                    refine lv_iload_n hx hb dX7_endsReading_294 rfl (lv_at hl 2 rfl) ?_
                    refine lv_aload_n hx hb dX7_endsReading_295 rfl (lv_at hl 1 rfl) ?_
                    refine va_get (D := D) (ci := 7) (v := .ref (bd 23)) (C := RX7) (T := TX7) (N := 48) hx hb hts hin7 hown hK hP 0 (mw_o (S := S19)) rfl 27 (by decide) hfl78 (fun _ h9 => h9) mw_f27 dX7_endsReading_296 ?_
                    refine lv_iload hx hb dX7_endsReading_299 (lv_at hl 3 rfl) ?_
                    obtain ⟨hin, hf⟩ := zg_k hf
                    refine va_iald hx hb hK hP 23 0 (mw_a27 (S := S19)) rfl (inb_k hin) dX7_endsReading_301 ?_
                    refine lv_iconst (v := (nI 2)) hx hb dX7_endsReading_302 (by decide) ?_
                    obtain ⟨S20, hc303, hf⟩ := zo_k hf
                    refine cal_v (rnV (As := [.int p1, .int (ri S19 27 x15), .int (nI 2)]) (rest := []) ⟨hx, hb, hml, hown, hts⟩ (c_X7_finishes hAd  hc303) (cwV 3 hts gX7_endsReading_X7_finishes rfl rfl rfl cdV_X7_finishes ⟨Nat.le_of_ble_eq_true rfl, Nat.le_of_ble_eq_true rfl⟩) hP hK hN (mw_o (S := S19)) rfl rfl hl.1 rfl (Nat.le_of_ble_eq_true rfl) dX7_endsReading_303 ⟨Nat.zero_le _, Nat.zero_le _⟩) hS (fun H locs hP hS => ?_)
                    cases Option.some.inj hf
                    exact fin_v hx hb hr hlk hS hP dX7_endsReading_306
                refine lv_icmp_eq (tgt := 258) hx hb dX7_endsReading_229 (by decide) (fun hc => ?_) (fun hc => ?_)
                · have hf := ifp hf hc
                  exact hJ258 S13 x14 hf _ _ _ hP hS (lv_sub hl [1, 3, 4, 0] rfl)
                · have hf := ifn hf hc
                  refine lv_aload_n hx hb dX7_endsReading_232 rfl (lv_at hl 3 rfl) ?_
                  refine va_get (D := D) (ci := 7) (v := .int (S13.1 13 0)) (C := RX7) (T := TX7) (N := 48) hx hb hts hin7 hown hK hP 0 (mw_o (S := S13)) rfl 13 (by decide) hfl151 (fun _ h9 => h9) mw_f13 dX7_endsReading_233 ?_
                  refine lv_if_le (tgt := 258) hx hb dX7_endsReading_236 (by decide) (fun hc => ?_) (fun hc => ?_)
                  · have hf := ifp hf hc
                    exact hJ258 S13 x14 hf _ _ _ hP hS (lv_sub hl [1, 3, 4, 0] rfl)
                  · have hf := ifn hf hc
                    refine lv_aload_n hx hb dX7_endsReading_239 rfl (lv_at hl 3 rfl) ?_
                    refine lv_dup hx hb dX7_endsReading_240 rfl ?_
                    refine va_get (D := D) (ci := 7) (v := .int (S13.1 13 0)) (C := RX7) (T := TX7) (N := 48) hx hb hts hin7 hown hK hP 0 (mw_o (S := S13)) rfl 13 (by decide) hfl151 (fun _ h9 => h9) mw_f13 dX7_endsReading_241 ?_
                    refine lv_iconst (v := (nI 1)) hx hb dX7_endsReading_244 (by decide) ?_
                    refine lv_isub hx hb dX7_endsReading_245 ?_
                    refine va_put (D := D) (ci := 7) (v := .int (rs S13 13 - (nI 1))) (ty := .int) (C := RX7) (T := TX7) (N := 48) hx hb hts hin7 tyX7 tyX7_ok nmX7 hown hK hP (mw_D hAd) hS 0 (mw_o (S := S13)) rfl 13 (by decide) hfl151 (fun _ h9 => h9) rfl (by decide +kernel) rfl rfl (Nat.le_of_ble_eq_true rfl) dX7_endsReading_246 (fun H locs hP _ hS => ?_)
                    have hP : va_P D vwCl (mw cyI cyJ cyZ bd (wi S13 13 0 (rs S13 13 - (nI 1)))) H := by rw [← mw_s13]; exact hP
                    obtain ⟨S21, eS21, hf⟩ := zb_k hf
                    rw [← eS21] at hP
                    refine lv_aload_n hx hb dX7_endsReading_249 rfl (lv_at hl 3 rfl) ?_
                    refine lv_iload hx hb dX7_endsReading_250 (lv_at hl 0 rfl) ?_
                    obtain ⟨S22, hc252, hf⟩ := zo_k hf
                    refine cal_v (rnV (As := [.int x14]) (rest := []) ⟨hx, hb, hml, hown, hts⟩ (c_X7_drops hAd  hc252) (cwV 1 hts gX7_endsReading_X7_drops rfl rfl rfl cdV_X7_drops ⟨Nat.le_of_ble_eq_true rfl, Nat.le_of_ble_eq_true rfl⟩) hP hK hN (mw_o (S := S21)) rfl rfl hl.1 rfl (Nat.le_of_ble_eq_true rfl) dX7_endsReading_252 ⟨Nat.zero_le _, Nat.zero_le _⟩) hS (fun H locs hP hS => ?_)
                    refine lv_iconst (v := (-1)) hx hb dX7_endsReading_255 (by decide) ?_
                    refine lv_istore (lv' := [(8, .int (-1)), (7, .int x12), (2, .int x1), (0, .ref (bd 0)), (1, .int p1)]) hx hb dX7_endsReading_256 hl (by decide) rfl (fun ls hl => ?_)
                    exact hJ258 S22 (-1) hf _ _ _ hP hS (lv_sub hl [1, 3, 4, 0] rfl)
              · have hf := ifn hf hc
                refine lv_aload_n hx hb dX7_endsReading_206 rfl (lv_at hl 2 rfl) ?_
                refine lv_iload_n hx hb dX7_endsReading_207 rfl (lv_at hl 3 rfl) ?_
                refine lv_iload hx hb dX7_endsReading_208 (lv_at hl 0 rfl) ?_
                refine lv_iconst (v := (nI 3)) hx hb dX7_endsReading_210 (by decide) ?_
                obtain ⟨S23, hc211, hf⟩ := zo_k hf
                refine cal_v (rnV (As := [.int p1, .int x12, .int (nI 3)]) (rest := []) ⟨hx, hb, hml, hown, hts⟩ (c_X7_finishes hAd  hc211) (cwV 3 hts gX7_endsReading_X7_finishes rfl rfl rfl cdV_X7_finishes ⟨Nat.le_of_ble_eq_true rfl, Nat.le_of_ble_eq_true rfl⟩) hP hK hN (mw_o (S := S10)) rfl rfl hl.1 rfl (Nat.le_of_ble_eq_true rfl) dX7_endsReading_211 ⟨Nat.zero_le _, Nat.zero_le _⟩) hS (fun H locs hP hS => ?_)
                cases Option.some.inj hf
                exact fin_v hx hb hr hlk hS hP dX7_endsReading_214
            refine lv_icmp_ne (tgt := 184) hx hb dX7_endsReading_173 (by decide) (fun hc => ?_) (fun hc => ?_)
            · have hf := ifn hf hc
              refine lv_iload hx hb dX7_endsReading_184 (lv_at hl 4 rfl) ?_
              exact hJ186 x9 hf _ _ _ hP hS (lv_sub hl [1, 2, 3] rfl)
            · have hf := ifp hf hc
              refine lv_iload hx hb dX7_endsReading_176 (lv_at hl 4 rfl) ?_
              refine lv_bipush (v := (nI 10)) hx hb dX7_endsReading_178 (by decide) ?_
              refine lv_idiv hx hb dX7_endsReading_180 (by decide) ?_
              refine lv_goto (tgt := 186) hx hb dX7_endsReading_181 (by decide) ?_
              exact hJ186 (x9 / (nI 10)) hf _ _ _ hP hS (lv_sub hl [1, 2, 3] rfl)
          have hJ147 : m_X7_endsReading_J147 x2 S8 x1 p1 x7 = some SZ → ∀ (H : Heap) (locs : List Loc) (ls : Array Slot), va_P D vwCl (mw cyI cyJ cyZ bd S8) H → va_S (MA bd) s.heap H locs → lv_has ls 9 [(3, .int x2), (2, .int x1), (0, .ref (bd 0)), (1, .int p1), (4, .int x7)] → W p l e rl_X7_endsReading s m args below meth c H locs 0 0 (MQ below (PoV D (mw cyI cyJ cyZ bd SZ) (MA bd)) args s 0 0 (MA bd)) (F0 m 147 ls []) := by
            intro  hf H locs ls hP hS hl
            unfold m_X7_endsReading_J147 at hf
            refine lv_iload_n hx hb dX7_endsReading_147 rfl (lv_at hl 0 rfl) ?_
            refine lv_iconst (v := (nI 4)) hx hb dX7_endsReading_148 (by decide) ?_
            refine lv_icmp_ne (tgt := 171) hx hb dX7_endsReading_149 (by decide) (fun hc => ?_) (fun hc => ?_)
            · have hf := ifn hf hc
              exact hJ171 S8 x7 hf _ _ _ hP hS (lv_sub hl [0, 1, 2, 3, 4] rfl)
            · have hf := ifp hf hc
              refine lv_aload_n hx hb dX7_endsReading_152 rfl (lv_at hl 2 rfl) ?_
              refine va_get (D := D) (ci := 7) (v := .int (S8.1 43 0)) (C := RX7) (T := TX7) (N := 48) hx hb hts hin7 hown hK hP 0 (mw_o (S := S8)) rfl 43 (by decide) hfl172 (fun _ h9 => h9) mw_f43 dX7_endsReading_153 ?_
              refine lv_if_ne (tgt := 171) hx hb dX7_endsReading_156 (by decide) (fun hc => ?_) (fun hc => ?_)
              · have hf := ifn hf hc
                exact hJ171 S8 x7 hf _ _ _ hP hS (lv_sub hl [0, 1, 2, 3, 4] rfl)
              · have hf := ifp hf hc
                refine lv_aload_n hx hb dX7_endsReading_159 rfl (lv_at hl 2 rfl) ?_
                refine lv_dup hx hb dX7_endsReading_160 rfl ?_
                refine va_get (D := D) (ci := 7) (v := .int (S8.1 14 0)) (C := RX7) (T := TX7) (N := 48) hx hb hts hin7 hown hK hP 0 (mw_o (S := S8)) rfl 14 (by decide) hfl209 (fun _ h9 => h9) mw_f14 dX7_endsReading_161 ?_
                refine lv_iconst (v := (nI 1)) hx hb dX7_endsReading_164 (by decide) ?_
                refine lv_iload_n hx hb dX7_endsReading_165 rfl (lv_at hl 1 rfl) ?_
                refine lv_ishl hx hb dX7_endsReading_166 ?_
                refine lv_ior hx hb dX7_endsReading_167 ?_
                refine va_put (D := D) (ci := 7) (v := .int (rs S8 14 ||| ((nI 1) <<< (x1 &&& 31)))) (ty := .int) (C := RX7) (T := TX7) (N := 48) hx hb hts hin7 tyX7 tyX7_ok nmX7 hown hK hP (mw_D hAd) hS 0 (mw_o (S := S8)) rfl 14 (by decide) hfl209 (fun _ h9 => h9) rfl (by decide +kernel) rfl rfl (Nat.le_of_ble_eq_true rfl) dX7_endsReading_168 (fun H locs hP _ hS => ?_)
                have hP : va_P D vwCl (mw cyI cyJ cyZ bd (wi S8 14 0 (rs S8 14 ||| ((nI 1) <<< (x1 &&& 31))))) H := by rw [← mw_s14]; exact hP
                obtain ⟨S24, eS24, hf⟩ := zb_k hf
                rw [← eS24] at hP
                exact hJ171 S24 x7 hf _ _ _ hP hS (lv_sub hl [0, 1, 2, 3, 4] rfl)
          refine lv_icmp_ne (tgt := 147) hx hb dX7_endsReading_124 (by decide) (fun hc => ?_) (fun hc => ?_)
          · have hf := ifn hf hc
            exact hJ147  hf _ _ _ hP hS (lv_sub hl [2, 3, 4, 5, 6] rfl)
          · have hf := ifp hf hc
            refine lv_aload_n hx hb dX7_endsReading_127 rfl (lv_at hl 4 rfl) ?_
            refine lv_iload_n hx hb dX7_endsReading_128 rfl (lv_at hl 3 rfl) ?_
            refine lv_iload hx hb dX7_endsReading_129 (lv_at hl 1 rfl) ?_
            obtain ⟨x25, hc131, hf⟩ := zo_k hf
            refine cal_i (rnV (As := [.int x1, .int t5]) (rest := []) ⟨hx, hb, hml, hown, hts⟩ (c_X7_isSeen hAd  hc131) (cwV 2 hts gX7_endsReading_X7_isSeen rfl rfl rfl cdV_X7_isSeen ⟨Nat.le_of_ble_eq_true rfl, Nat.le_of_ble_eq_true rfl⟩) hP hK hN (mw_o (S := S8)) rfl rfl hl.1 rfl (Nat.le_of_ble_eq_true rfl) dX7_endsReading_131 ⟨Nat.zero_le _, Nat.zero_le _⟩) hS (fun H locs hP hS => ?_)
            refine lv_if_eq (tgt := 147) hx hb dX7_endsReading_134 (by decide) (fun hc => ?_) (fun hc => ?_)
            · have hf := ifp hf hc
              exact hJ147  hf _ _ _ hP hS (lv_sub hl [2, 3, 4, 5, 6] rfl)
            · have hf := ifn hf hc
              refine lv_iload hx hb dX7_endsReading_137 (lv_at hl 6 rfl) ?_
              refine lv_iload hx hb dX7_endsReading_139 (lv_at hl 0 rfl) ?_
              refine lv_iadd hx hb dX7_endsReading_141 ?_
              refine lv_topi (fun x26 ex26 => ?_)
              have hf := zb_x hf ex26
              refine lv_istore (lv' := [(4, .int x26), (6, .int t6), (5, .int t5), (3, .int x2), (2, .int x1), (0, .ref (bd 0)), (1, .int p1)]) hx hb dX7_endsReading_142 hl (by decide) rfl (fun ls hl => ?_)
              refine lv_goto (tgt := 171) hx hb dX7_endsReading_144 (by decide) ?_
              exact hJ171 S8 x26 hf _ _ _ hP hS (lv_sub hl [3, 4, 5, 6, 0] rfl)
        refine lv_icmp_ne (tgt := 122) hx hb dX7_endsReading_96 (by decide) (fun hc => ?_) (fun hc => ?_)
        · have hf := ifn hf hc
          exact hJ122 S x3 hf _ _ _ hP hS (lv_sub hl [0, 1, 2, 3, 4, 5, 6] rfl)
        · have hf := ifp hf hc
          refine lv_aload_n hx hb dX7_endsReading_99 rfl (lv_at hl 4 rfl) ?_
          refine lv_iload_n hx hb dX7_endsReading_100 rfl (lv_at hl 5 rfl) ?_
          refine lv_iconst (v := (nI 4)) hx hb dX7_endsReading_101 (by decide) ?_
          refine lv_iload hx hb dX7_endsReading_102 (lv_at hl 1 rfl) ?_
          refine lv_aload_n hx hb dX7_endsReading_104 rfl (lv_at hl 4 rfl) ?_
          refine va_get (D := D) (ci := 7) (v := .ref (bd 1)) (C := RX7) (T := TX7) (N := 48) hx hb hts hin7 hown hK hP 0 (mw_o (S := S)) rfl 0 (by decide) hfl7 (fun _ h9 => h9) mw_f0 dX7_endsReading_105 ?_
          refine lv_iload hx hb dX7_endsReading_108 (lv_at hl 1 rfl) ?_
          obtain ⟨hin, hf⟩ := zg_k hf
          refine va_iald hx hb hK hP 1 0 (mw_a0 (S := S)) rfl (inb_k hin) dX7_endsReading_110 ?_
          refine lv_i2l hx hb dX7_endsReading_111 rfl ?_
          obtain ⟨S27, hc112, hf⟩ := zo_k hf
          refine cal_v (rnV (As := [.int p1, .int (nI 4), .int t5, .long (Int32.toInt64 (ri S 0 t5))]) (rest := []) ⟨hx, hb, hml, hown, hts⟩ (c_X7_notes hAd  hc112) (cwV 4 hts gX7_endsReading_X7_notes rfl rfl rfl cdV_X7_notes ⟨Nat.le_of_ble_eq_true rfl, Nat.le_of_ble_eq_true rfl⟩) hP hK hN (mw_o (S := S)) rfl rfl hl.1 rfl (Nat.le_of_ble_eq_true rfl) dX7_endsReading_112 ⟨Nat.zero_le _, Nat.zero_le _⟩) hS (fun H locs hP hS => ?_)
          refine lv_iload hx hb dX7_endsReading_115 (lv_at hl 6 rfl) ?_
          refine lv_iload hx hb dX7_endsReading_117 (lv_at hl 0 rfl) ?_
          refine lv_iadd hx hb dX7_endsReading_119 ?_
          refine lv_topi (fun x28 ex28 => ?_)
          have hf := zb_x hf ex28
          refine lv_istore (lv' := [(4, .int x28), (6, .int t6), (5, .int t5), (3, .int x2), (2, .int x1), (0, .ref (bd 0)), (1, .int p1)]) hx hb dX7_endsReading_120 hl (by decide) rfl (fun ls hl => ?_)
          exact hJ122 S27 x28 hf _ _ _ hP hS (lv_sub hl [1, 2, 3, 4, 5, 6, 0] rfl)
      refine lv_icmp_ne (tgt := 85) hx hb dX7_endsReading_78 (by decide) (fun hc => ?_) (fun hc => ?_)
      · have hf := ifn hf hc
        refine lv_aload_n hx hb dX7_endsReading_85 rfl (lv_at hl 3 rfl) ?_
        refine va_get (D := D) (ci := 7) (v := .ref (bd 1)) (C := RX7) (T := TX7) (N := 48) hx hb hts hin7 hown hK hP 0 (mw_o (S := S)) rfl 0 (by decide) hfl7 (fun _ h9 => h9) mw_f0 dX7_endsReading_86 ?_
        refine lv_iload hx hb dX7_endsReading_89 (lv_at hl 0 rfl) ?_
        obtain ⟨hin, hf⟩ := zg_k hf
        refine va_iald hx hb hK hP 1 0 (mw_a0 (S := S)) rfl (inb_k hin) dX7_endsReading_91 ?_
        exact hJ92 (ri S 0 t5) hf _ _ _ hP hS (lv_sub hl [0, 1, 2, 3, 4, 5] rfl)
      · have hf := ifp hf hc
        refine lv_iconst (v := (nI 0)) hx hb dX7_endsReading_81 (by decide) ?_
        refine lv_goto (tgt := 92) hx hb dX7_endsReading_82 (by decide) ?_
        exact hJ92 (nI 0) hf _ _ _ hP hS (lv_sub hl [0, 1, 2, 3, 4, 5] rfl)
    refine lv_icmp_ne (tgt := 59) hx hb dX7_endsReading_48 (by decide) (fun hc => ?_) (fun hc => ?_)
    · have hf := ifn hf hc
      refine lv_aload_n hx hb dX7_endsReading_59 rfl (lv_at hl 2 rfl) ?_
      refine va_get (D := D) (ci := 7) (v := .ref (bd 3)) (C := RX7) (T := TX7) (N := 48) hx hb hts hin7 hown hK hP 0 (mw_o (S := S)) rfl 2 (by decide) hfl16 (fun _ h9 => h9) mw_f2 dX7_endsReading_60 ?_
      refine lv_iload_n hx hb dX7_endsReading_63 rfl (lv_at hl 1 rfl) ?_
      obtain ⟨hin, hf⟩ := zg_k hf
      refine va_iald hx hb hK hP 3 0 (mw_a2 (S := S)) rfl (inb_k hin) dX7_endsReading_64 ?_
      refine lv_bipush (v := (nI 20)) hx hb dX7_endsReading_65 (by decide) ?_
      refine lv_irem hx hb dX7_endsReading_67 (by decide) ?_
      exact hJ68 (irm (ri S 2 x1) (nI 20)) hf _ _ _ hP hS (lv_sub hl [0, 1, 2, 3, 4] rfl)
    · have hf := ifp hf hc
      refine lv_iload hx hb dX7_endsReading_51 (lv_at hl 4 rfl) ?_
      refine lv_bipush (v := (nI 20)) hx hb dX7_endsReading_53 (by decide) ?_
      refine lv_irem hx hb dX7_endsReading_55 (by decide) ?_
      refine lv_goto (tgt := 68) hx hb dX7_endsReading_56 (by decide) ?_
      exact hJ68 (irm x3 (nI 20)) hf _ _ _ hP hS (lv_sub hl [0, 1, 2, 3, 4] rfl)
  · have hf := ifn hf hc
    refine lv_iload hx hb dX7_endsReading_28 (lv_at hl 4 rfl) ?_
    refine lv_aload_n hx hb dX7_endsReading_30 rfl (lv_at hl 2 rfl) ?_
    refine lv_iload_n hx hb dX7_endsReading_31 rfl (lv_at hl 3 rfl) ?_
    refine lv_iload hx hb dX7_endsReading_32 (lv_at hl 5 rfl) ?_
    obtain ⟨x29, hc34, hf⟩ := zo_k hf
    refine cal_i (rnV (As := [.int p1, .int x4]) (rest := [.int x3]) ⟨hx, hb, hml, hown, hts⟩ (c_X7_valueRead hAd  hc34) (cwV 2 hts gX7_endsReading_X7_valueRead rfl rfl rfl cdV_X7_valueRead ⟨Nat.le_of_ble_eq_true rfl, Nat.le_of_ble_eq_true rfl⟩) hP hK hN (mw_o (S := S)) rfl rfl hl.1 rfl (Nat.le_of_ble_eq_true rfl) dX7_endsReading_34 ⟨Nat.zero_le _, Nat.zero_le _⟩) hS (fun H locs hP hS => ?_)
    refine lv_iadd hx hb dX7_endsReading_37 ?_
    refine lv_topi (fun x30 ex30 => ?_)
    have hf := zb_x hf ex30
    refine lv_istore (lv' := [(4, .int x30), (3, .int x2), (2, .int x1), (0, .ref (bd 0)), (1, .int p1), (5, .int x4)]) hx hb dX7_endsReading_38 hl (by decide) rfl (fun ls hl => ?_)
    obtain ⟨x31, ex31, hf⟩ := zb_k hf
    refine lv_iinc (v := x31) (lv' := [(5, .int x31), (4, .int x30), (3, .int x2), (2, .int x1), (0, .ref (bd 0)), (1, .int p1)]) hx hb dX7_endsReading_40 hl (k := 5) rfl (by rw [ex31]; rfl) (by decide) rfl (fun ls hl => ?_)
    refine lv_goto (tgt := 17) hx hb dX7_endsReading_43 (by decide) ?_
    exact ih17 x30 x31 hf _ _ _ hP hS (lv_sub hl [2, 3, 4, 5, 1, 0] rfl)
set_option maxHeartbeats 4000000 in
set_option maxRecDepth 100000 in
theorem c_X7_readsOne {l : Launch} {D : va_G} {cyI cyJ cyZ : ClassId} {bd : Nat → Nat}  (hAd : AdOK 41 bd)  {S : St} {p1 : Int32} {SZ : St} (hf : m_X7_readsOne S p1 = some SZ) : Met l yX7_readsOne wsX7_readsOne rl_X7_readsOne (PreW D [(cyI, .int), (cyJ, .long), (cyZ, .boolean)] (mw cyI cyJ cyZ bd S) [.ref (bd 0), .int p1]) (PoV D (mw cyI cyJ cyZ bd SZ) (MA bd)) 0 0 (MA bd) := by
  refine met_go (cc := cX7_readsOne) (maxL := 10) (ret := none) (by decide) rfl (Nat.le_of_ble_eq_true rfl) ?_
  intro p e s m args below meth c ls hx hb hr hml hts hown hlk hP hK hN hl
  have hown : s.vm.findClass RX7 = some m.cls := hown
  have hS : va_S (MA bd) s.heap s.heap [] := va_S.rf
  have hl : lv_has ls 10 [(0, .ref (bd 0)), (1, .int p1)] := hl
  have hin7 : ∀ w ∈ wsX70, w ∈ wsX7_readsOne := by decide +kernel
  have hfl13 := hts (.fieldLink RX7 13 "MakewheelModel" "kinds" "[I") (by decide +kernel)
  have hfl25 := hts (.fieldLink RX7 25 "MakewheelModel" "many" "[I") (by decide +kernel)
  have hfl28 := hts (.fieldLink RX7 28 "MakewheelModel" "whats" "[I") (by decide +kernel)
  have hfl31 := hts (.fieldLink RX7 31 "MakewheelModel" "whiches" "[I") (by decide +kernel)
  have hfl105 := hts (.fieldLink RX7 105 "MakewheelModel" "ats" "[I") (by decide +kernel)
  have hfl7 := hts (.fieldLink RX7 7 "MakewheelModel" "files" "[I") (by decide +kernel)
  have hfl84 := hts (.fieldLink RX7 84 "MakewheelModel" "looked" "[I") (by decide +kernel)
  have hfl87 := hts (.fieldLink RX7 87 "MakewheelModel" "gave" "[I") (by decide +kernel)
  unfold m_X7_readsOne at hf
  refine lv_iload_n hx hb dX7_readsOne_0 rfl (lv_at hl 1 rfl) ?_
  refine lv_iconst (v := (nI 2)) hx hb dX7_readsOne_1 (by decide) ?_
  refine lv_idiv hx hb dX7_readsOne_2 (by decide) ?_
  refine lv_topi (fun x1 ex1 => ?_)
  have hf := zb_x hf ex1
  refine lv_istore_n (lv' := [(2, .int x1), (0, .ref (bd 0)), (1, .int p1)]) hx hb dX7_readsOne_3 rfl hl (by decide) rfl (fun ls hl => ?_)
  refine lv_aload_n hx hb dX7_readsOne_4 rfl (lv_at hl 1 rfl) ?_
  refine va_get (D := D) (ci := 7) (v := .ref (bd 2)) (C := RX7) (T := TX7) (N := 48) hx hb hts hin7 hown hK hP 0 (mw_o (S := S)) rfl 1 (by decide) hfl13 (fun _ h9 => h9) mw_f1 dX7_readsOne_5 ?_
  refine lv_iload_n hx hb dX7_readsOne_8 rfl (lv_at hl 0 rfl) ?_
  obtain ⟨hin, hf⟩ := zg_k hf
  refine va_iald hx hb hK hP 2 0 (mw_a1 (S := S)) rfl (inb_k hin) dX7_readsOne_9 ?_
  refine lv_topi (fun x2 ex2 => ?_)
  have hf := zb_x hf ex2
  refine lv_istore_n (lv' := [(3, .int x2), (2, .int x1), (0, .ref (bd 0)), (1, .int p1)]) hx hb dX7_readsOne_10 rfl hl (by decide) rfl (fun ls hl => ?_)
  refine lv_iload_n hx hb dX7_readsOne_11 rfl (lv_at hl 0 rfl) ?_
  refine lv_iconst (v := (-1)) hx hb dX7_readsOne_12 (by decide) ?_
  refine lv_icmp_ne (tgt := 25) hx hb dX7_readsOne_13 (by decide) (fun hc => ?_) (fun hc => ?_)
  · have hf := ifn hf hc
    refine lv_iload_n hx hb dX7_readsOne_25 rfl (lv_at hl 0 rfl) ?_
    refine lv_iconst (v := (nI 2)) hx hb dX7_readsOne_26 (by decide) ?_
    have hJ42 : ∀ (t3 : Int32), m_X7_readsOne_J42 x2 p1 S x1 t3 = some SZ → ∀ (H : Heap) (locs : List Loc) (ls : Array Slot), va_P D vwCl (mw cyI cyJ cyZ bd S) H → va_S (MA bd) s.heap H locs → lv_has ls 10 [(3, .int x2), (2, .int x1), (0, .ref (bd 0)), (1, .int p1)] → W p l e rl_X7_readsOne s m args below meth c H locs 0 0 (MQ below (PoV D (mw cyI cyJ cyZ bd SZ) (MA bd)) args s 0 0 (MA bd)) (F0 m 42 ls [.int t3]) := by
      intro t3 hf H locs ls hP hS hl
      unfold m_X7_readsOne_J42 at hf
      refine lv_istore (lv' := [(4, .int t3), (3, .int x2), (2, .int x1), (0, .ref (bd 0)), (1, .int p1)]) hx hb dX7_readsOne_42 hl (by decide) rfl (fun ls hl => ?_)
      refine lv_iload_n hx hb dX7_readsOne_44 rfl (lv_at hl 1 rfl) ?_
      refine lv_iconst (v := (nI 2)) hx hb dX7_readsOne_45 (by decide) ?_
      have hJ63 : ∀ (t4 : Int32), m_X7_readsOne_J63 x1 t3 S p1 t4 = some SZ → ∀ (H : Heap) (locs : List Loc) (ls : Array Slot), va_P D vwCl (mw cyI cyJ cyZ bd S) H → va_S (MA bd) s.heap H locs → lv_has ls 10 [(4, .int t3), (2, .int x1), (0, .ref (bd 0)), (1, .int p1)] → W p l e rl_X7_readsOne s m args below meth c H locs 0 0 (MQ below (PoV D (mw cyI cyJ cyZ bd SZ) (MA bd)) args s 0 0 (MA bd)) (F0 m 63 ls [.int t4]) := by
        intro t4 hf H locs ls hP hS hl
        unfold m_X7_readsOne_J63 at hf
        refine lv_istore (lv' := [(5, .int t4), (4, .int t3), (2, .int x1), (0, .ref (bd 0)), (1, .int p1)]) hx hb dX7_readsOne_63 hl (by decide) rfl (fun ls hl => ?_)
        refine lv_iload hx hb dX7_readsOne_65 (lv_at hl 0 rfl) ?_
        refine lv_if_ne (tgt := 81) hx hb dX7_readsOne_67 (by decide) (fun hc => ?_) (fun hc => ?_)
        · have hf := ifn hf hc
          refine lv_aload_n hx hb dX7_readsOne_81 rfl (lv_at hl 3 rfl) ?_
          refine lv_iload_n hx hb dX7_readsOne_82 rfl (lv_at hl 4 rfl) ?_
          obtain ⟨S5, hc83, hf⟩ := zo_k hf
          refine cal_v (rnV (As := [.int p1]) (rest := []) ⟨hx, hb, hml, hown, hts⟩ (c_X7_endsReading hAd  hc83) (cwV 1 hts gX7_readsOne_X7_endsReading rfl rfl rfl cdV_X7_endsReading ⟨Nat.le_of_ble_eq_true rfl, Nat.le_of_ble_eq_true rfl⟩) hP hK hN (mw_o (S := S)) rfl rfl hl.1 rfl (Nat.le_of_ble_eq_true rfl) dX7_readsOne_83 ⟨Nat.zero_le _, Nat.zero_le _⟩) hS (fun H locs hP hS => ?_)
          cases Option.some.inj hf
          exact fin_v hx hb hr hlk hS hP dX7_readsOne_86
        · have hf := ifp hf hc
          refine lv_iload hx hb dX7_readsOne_70 (lv_at hl 1 rfl) ?_
          refine lv_aload_n hx hb dX7_readsOne_72 rfl (lv_at hl 3 rfl) ?_
          refine va_get (D := D) (ci := 7) (v := .ref (bd 6)) (C := RX7) (T := TX7) (N := 48) hx hb hts hin7 hown hK hP 0 (mw_o (S := S)) rfl 5 (by decide) hfl25 (fun _ h9 => h9) mw_f5 dX7_readsOne_73 ?_
          refine lv_iload_n hx hb dX7_readsOne_76 rfl (lv_at hl 2 rfl) ?_
          obtain ⟨hin, hf⟩ := zg_k hf
          refine va_iald hx hb hK hP 6 0 (mw_a5 (S := S)) rfl (inb_k hin) dX7_readsOne_77 ?_
          refine lv_icmp_lt (tgt := 87) hx hb dX7_readsOne_78 (by decide) (fun hc => ?_) (fun hc => ?_)
          · have hf := ifp hf hc
            refine lv_aload_n hx hb dX7_readsOne_87 rfl (lv_at hl 3 rfl) ?_
            refine va_get (D := D) (ci := 7) (v := .ref (bd 7)) (C := RX7) (T := TX7) (N := 48) hx hb hts hin7 hown hK hP 0 (mw_o (S := S)) rfl 6 (by decide) hfl28 (fun _ h9 => h9) mw_f6 dX7_readsOne_88 ?_
            refine lv_iconst (v := (nI 4)) hx hb dX7_readsOne_91 (by decide) ?_
            refine lv_iload_n hx hb dX7_readsOne_92 rfl (lv_at hl 2 rfl) ?_
            refine lv_imul hx hb dX7_readsOne_93 ?_
            refine lv_iload hx hb dX7_readsOne_94 (lv_at hl 1 rfl) ?_
            refine lv_iadd hx hb dX7_readsOne_96 ?_
            obtain ⟨hin, hf⟩ := zg_k hf
            refine va_iald hx hb hK hP 7 0 (mw_a6 (S := S)) rfl (inb_k hin) dX7_readsOne_97 ?_
            refine lv_topi (fun x6 ex6 => ?_)
            have hf := zb_x hf ex6
            refine lv_istore (lv' := [(6, .int x6), (5, .int t4), (4, .int t3), (2, .int x1), (0, .ref (bd 0)), (1, .int p1)]) hx hb dX7_readsOne_98 hl (by decide) rfl (fun ls hl => ?_)
            refine lv_aload_n hx hb dX7_readsOne_100 rfl (lv_at hl 4 rfl) ?_
            refine va_get (D := D) (ci := 7) (v := .ref (bd 8)) (C := RX7) (T := TX7) (N := 48) hx hb hts hin7 hown hK hP 0 (mw_o (S := S)) rfl 7 (by decide) hfl31 (fun _ h9 => h9) mw_f7 dX7_readsOne_101 ?_
            refine lv_iconst (v := (nI 4)) hx hb dX7_readsOne_104 (by decide) ?_
            refine lv_iload_n hx hb dX7_readsOne_105 rfl (lv_at hl 3 rfl) ?_
            refine lv_imul hx hb dX7_readsOne_106 ?_
            refine lv_iload hx hb dX7_readsOne_107 (lv_at hl 2 rfl) ?_
            refine lv_iadd hx hb dX7_readsOne_109 ?_
            obtain ⟨hin, hf⟩ := zg_k hf
            refine va_iald hx hb hK hP 8 0 (mw_a7 (S := S)) rfl (inb_k hin) dX7_readsOne_110 ?_
            refine lv_topi (fun x7 ex7 => ?_)
            have hf := zb_x hf ex7
            refine lv_istore (lv' := [(7, .int x7), (6, .int x6), (5, .int t4), (4, .int t3), (2, .int x1), (0, .ref (bd 0)), (1, .int p1)]) hx hb dX7_readsOne_111 hl (by decide) rfl (fun ls hl => ?_)
            refine lv_iload hx hb dX7_readsOne_113 (lv_at hl 1 rfl) ?_
            refine lv_iconst (v := (nI 1)) hx hb dX7_readsOne_115 (by decide) ?_
            refine lv_icmp_le (tgt := 201) hx hb dX7_readsOne_116 (by decide) (fun hc => ?_) (fun hc => ?_)
            · have hf := ifp hf hc
              refine lv_iload hx hb dX7_readsOne_201 (lv_at hl 1 rfl) ?_
              refine lv_if_ne (tgt := 226) hx hb dX7_readsOne_203 (by decide) (fun hc => ?_) (fun hc => ?_)
              · have hf := ifn hf hc
                refine lv_aload_n hx hb dX7_readsOne_226 rfl (lv_at hl 5 rfl) ?_
                refine lv_iload_n hx hb dX7_readsOne_227 rfl (lv_at hl 6 rfl) ?_
                refine lv_iload hx hb dX7_readsOne_228 (lv_at hl 3 rfl) ?_
                refine lv_iconst (v := (nI 0)) hx hb dX7_readsOne_230 (by decide) ?_
                refine lv_iload hx hb dX7_readsOne_231 (lv_at hl 1 rfl) ?_
                refine lv_if_ne (tgt := 247) hx hb dX7_readsOne_233 (by decide) (fun hc => ?_) (fun hc => ?_)
                · have hf := ifn hf hc
                  refine lv_aload_n hx hb dX7_readsOne_247 rfl (lv_at hl 5 rfl) ?_
                  refine lv_iload hx hb dX7_readsOne_248 (lv_at hl 0 rfl) ?_
                  obtain ⟨x8, hc250, hf⟩ := zo_k hf
                  refine cal_l (rnV (As := [.int x7]) (rest := [.int (nI 0), .int t3, .int p1, .ref (bd 0)]) ⟨hx, hb, hml, hown, hts⟩ (c_X7_folder hAd  hc250) (cwV 1 hts gX7_readsOne_X7_folder rfl rfl rfl cdV_X7_folder ⟨Nat.le_of_ble_eq_true rfl, Nat.le_of_ble_eq_true rfl⟩) hP hK hN (mw_o (S := S)) rfl rfl hl.1 rfl (Nat.le_of_ble_eq_true rfl) dX7_readsOne_250 ⟨Nat.zero_le _, Nat.zero_le _⟩) hS (fun H locs hP hS => ?_)
                  obtain ⟨S9, hc253, hf⟩ := zo_k hf
                  refine cal_v (rnV (As := [.int p1, .int t3, .int (nI 0), .long x8]) (rest := []) ⟨hx, hb, hml, hown, hts⟩ (c_X7_notes hAd  hc253) (cwV 4 hts gX7_readsOne_X7_notes rfl rfl rfl cdV_X7_notes ⟨Nat.le_of_ble_eq_true rfl, Nat.le_of_ble_eq_true rfl⟩) hP hK hN (mw_o (S := S)) rfl rfl hl.1 rfl (Nat.le_of_ble_eq_true rfl) dX7_readsOne_253 ⟨Nat.zero_le _, Nat.zero_le _⟩) hS (fun H locs hP hS => ?_)
                  refine lv_aload_n hx hb dX7_readsOne_256 rfl (lv_at hl 5 rfl) ?_
                  refine va_get (D := D) (ci := 7) (v := .ref (bd 32)) (C := RX7) (T := TX7) (N := 48) hx hb hts hin7 hown hK hP 0 (mw_o (S := S9)) rfl 37 (by decide) hfl105 (fun _ h9 => h9) mw_f37 dX7_readsOne_257 ?_
                  refine lv_iload_n hx hb dX7_readsOne_260 rfl (lv_at hl 6 rfl) ?_
                  refine lv_dup2_11 hx hb dX7_readsOne_261 rfl rfl ?_
                  obtain ⟨hin, hf⟩ := zg_k hf
                  refine va_iald hx hb hK hP 32 0 (mw_a37 (S := S9)) rfl (inb_k hin) dX7_readsOne_262 ?_
                  refine lv_iconst (v := (nI 1)) hx hb dX7_readsOne_263 (by decide) ?_
                  refine lv_iadd hx hb dX7_readsOne_264 ?_
                  obtain ⟨hin, hf⟩ := zg_k hf
                  refine va_iast hx hb hK hP (mw_D hAd) hS 32 0 (mw_a37 (S := S9)) rfl (inb_k hin) dX7_readsOne_265 (fun H locs hP _ hS => ?_)
                  have hP : va_P D vwCl (mw cyI cyJ cyZ bd (wi S9 37 (Int32.toNatClampNeg p1) ((ri S9 37 p1) + (nI 1)))) H := by rw [← mw_s37]; exact hP
                  obtain ⟨S10, eS10, hf⟩ := zb_k hf
                  rw [← eS10] at hP
                  cases Option.some.inj hf
                  exact fin_v hx hb hr hlk hS hP dX7_readsOne_266
                · have hf := ifp hf hc
                  refine lv_aload_n hx hb dX7_readsOne_236 rfl (lv_at hl 5 rfl) ?_
                  refine va_get (D := D) (ci := 7) (v := .ref (bd 1)) (C := RX7) (T := TX7) (N := 48) hx hb hts hin7 hown hK hP 0 (mw_o (S := S)) rfl 0 (by decide) hfl7 (fun _ h9 => h9) mw_f0 dX7_readsOne_237 ?_
                  refine lv_iload hx hb dX7_readsOne_240 (lv_at hl 0 rfl) ?_
                  obtain ⟨hin, hf⟩ := zg_k hf
                  refine va_iald hx hb hK hP 1 0 (mw_a0 (S := S)) rfl (inb_k hin) dX7_readsOne_242 ?_
                  refine lv_i2l hx hb dX7_readsOne_243 rfl ?_
                  refine lv_goto (tgt := 253) hx hb dX7_readsOne_244 (by decide) ?_
                  obtain ⟨S11, hc253, hf⟩ := zo_k hf
                  refine cal_v (rnV (As := [.int p1, .int t3, .int (nI 0), .long (Int32.toInt64 (ri S 0 x7))]) (rest := []) ⟨hx, hb, hml, hown, hts⟩ (c_X7_notes hAd  hc253) (cwV 4 hts gX7_readsOne_X7_notes rfl rfl rfl cdV_X7_notes ⟨Nat.le_of_ble_eq_true rfl, Nat.le_of_ble_eq_true rfl⟩) hP hK hN (mw_o (S := S)) rfl rfl hl.1 rfl (Nat.le_of_ble_eq_true rfl) dX7_readsOne_253 ⟨Nat.zero_le _, Nat.zero_le _⟩) hS (fun H locs hP hS => ?_)
                  refine lv_aload_n hx hb dX7_readsOne_256 rfl (lv_at hl 5 rfl) ?_
                  refine va_get (D := D) (ci := 7) (v := .ref (bd 32)) (C := RX7) (T := TX7) (N := 48) hx hb hts hin7 hown hK hP 0 (mw_o (S := S11)) rfl 37 (by decide) hfl105 (fun _ h9 => h9) mw_f37 dX7_readsOne_257 ?_
                  refine lv_iload_n hx hb dX7_readsOne_260 rfl (lv_at hl 6 rfl) ?_
                  refine lv_dup2_11 hx hb dX7_readsOne_261 rfl rfl ?_
                  obtain ⟨hin, hf⟩ := zg_k hf
                  refine va_iald hx hb hK hP 32 0 (mw_a37 (S := S11)) rfl (inb_k hin) dX7_readsOne_262 ?_
                  refine lv_iconst (v := (nI 1)) hx hb dX7_readsOne_263 (by decide) ?_
                  refine lv_iadd hx hb dX7_readsOne_264 ?_
                  obtain ⟨hin, hf⟩ := zg_k hf
                  refine va_iast hx hb hK hP (mw_D hAd) hS 32 0 (mw_a37 (S := S11)) rfl (inb_k hin) dX7_readsOne_265 (fun H locs hP _ hS => ?_)
                  have hP : va_P D vwCl (mw cyI cyJ cyZ bd (wi S11 37 (Int32.toNatClampNeg p1) ((ri S11 37 p1) + (nI 1)))) H := by rw [← mw_s37]; exact hP
                  obtain ⟨S12, eS12, hf⟩ := zb_k hf
                  rw [← eS12] at hP
                  cases Option.some.inj hf
                  exact fin_v hx hb hr hlk hS hP dX7_readsOne_266
              · have hf := ifp hf hc
                refine lv_aload_n hx hb dX7_readsOne_206 rfl (lv_at hl 5 rfl) ?_
                refine va_get (D := D) (ci := 7) (v := .ref (bd 1)) (C := RX7) (T := TX7) (N := 48) hx hb hts hin7 hown hK hP 0 (mw_o (S := S)) rfl 0 (by decide) hfl7 (fun _ h9 => h9) mw_f0 dX7_readsOne_207 ?_
                refine lv_iload hx hb dX7_readsOne_210 (lv_at hl 0 rfl) ?_
                obtain ⟨hin, hf⟩ := zg_k hf
                refine va_iald hx hb hK hP 1 0 (mw_a0 (S := S)) rfl (inb_k hin) dX7_readsOne_212 ?_
                refine lv_iconst (v := (-1)) hx hb dX7_readsOne_213 (by decide) ?_
                refine lv_icmp_ne (tgt := 226) hx hb dX7_readsOne_214 (by decide) (fun hc => ?_) (fun hc => ?_)
                · have hf := ifn hf hc
                  refine lv_aload_n hx hb dX7_readsOne_226 rfl (lv_at hl 5 rfl) ?_
                  refine lv_iload_n hx hb dX7_readsOne_227 rfl (lv_at hl 6 rfl) ?_
                  refine lv_iload hx hb dX7_readsOne_228 (lv_at hl 3 rfl) ?_
                  refine lv_iconst (v := (nI 0)) hx hb dX7_readsOne_230 (by decide) ?_
                  refine lv_iload hx hb dX7_readsOne_231 (lv_at hl 1 rfl) ?_
                  refine lv_if_ne (tgt := 247) hx hb dX7_readsOne_233 (by decide) (fun hc => ?_) (fun hc => ?_)
                  · have hf := ifn hf hc
                    refine lv_aload_n hx hb dX7_readsOne_247 rfl (lv_at hl 5 rfl) ?_
                    refine lv_iload hx hb dX7_readsOne_248 (lv_at hl 0 rfl) ?_
                    obtain ⟨x13, hc250, hf⟩ := zo_k hf
                    refine cal_l (rnV (As := [.int x7]) (rest := [.int (nI 0), .int t3, .int p1, .ref (bd 0)]) ⟨hx, hb, hml, hown, hts⟩ (c_X7_folder hAd  hc250) (cwV 1 hts gX7_readsOne_X7_folder rfl rfl rfl cdV_X7_folder ⟨Nat.le_of_ble_eq_true rfl, Nat.le_of_ble_eq_true rfl⟩) hP hK hN (mw_o (S := S)) rfl rfl hl.1 rfl (Nat.le_of_ble_eq_true rfl) dX7_readsOne_250 ⟨Nat.zero_le _, Nat.zero_le _⟩) hS (fun H locs hP hS => ?_)
                    obtain ⟨S14, hc253, hf⟩ := zo_k hf
                    refine cal_v (rnV (As := [.int p1, .int t3, .int (nI 0), .long x13]) (rest := []) ⟨hx, hb, hml, hown, hts⟩ (c_X7_notes hAd  hc253) (cwV 4 hts gX7_readsOne_X7_notes rfl rfl rfl cdV_X7_notes ⟨Nat.le_of_ble_eq_true rfl, Nat.le_of_ble_eq_true rfl⟩) hP hK hN (mw_o (S := S)) rfl rfl hl.1 rfl (Nat.le_of_ble_eq_true rfl) dX7_readsOne_253 ⟨Nat.zero_le _, Nat.zero_le _⟩) hS (fun H locs hP hS => ?_)
                    refine lv_aload_n hx hb dX7_readsOne_256 rfl (lv_at hl 5 rfl) ?_
                    refine va_get (D := D) (ci := 7) (v := .ref (bd 32)) (C := RX7) (T := TX7) (N := 48) hx hb hts hin7 hown hK hP 0 (mw_o (S := S14)) rfl 37 (by decide) hfl105 (fun _ h9 => h9) mw_f37 dX7_readsOne_257 ?_
                    refine lv_iload_n hx hb dX7_readsOne_260 rfl (lv_at hl 6 rfl) ?_
                    refine lv_dup2_11 hx hb dX7_readsOne_261 rfl rfl ?_
                    obtain ⟨hin, hf⟩ := zg_k hf
                    refine va_iald hx hb hK hP 32 0 (mw_a37 (S := S14)) rfl (inb_k hin) dX7_readsOne_262 ?_
                    refine lv_iconst (v := (nI 1)) hx hb dX7_readsOne_263 (by decide) ?_
                    refine lv_iadd hx hb dX7_readsOne_264 ?_
                    obtain ⟨hin, hf⟩ := zg_k hf
                    refine va_iast hx hb hK hP (mw_D hAd) hS 32 0 (mw_a37 (S := S14)) rfl (inb_k hin) dX7_readsOne_265 (fun H locs hP _ hS => ?_)
                    have hP : va_P D vwCl (mw cyI cyJ cyZ bd (wi S14 37 (Int32.toNatClampNeg p1) ((ri S14 37 p1) + (nI 1)))) H := by rw [← mw_s37]; exact hP
                    obtain ⟨S15, eS15, hf⟩ := zb_k hf
                    rw [← eS15] at hP
                    cases Option.some.inj hf
                    exact fin_v hx hb hr hlk hS hP dX7_readsOne_266
                  · have hf := ifp hf hc
                    refine lv_aload_n hx hb dX7_readsOne_236 rfl (lv_at hl 5 rfl) ?_
                    refine va_get (D := D) (ci := 7) (v := .ref (bd 1)) (C := RX7) (T := TX7) (N := 48) hx hb hts hin7 hown hK hP 0 (mw_o (S := S)) rfl 0 (by decide) hfl7 (fun _ h9 => h9) mw_f0 dX7_readsOne_237 ?_
                    refine lv_iload hx hb dX7_readsOne_240 (lv_at hl 0 rfl) ?_
                    obtain ⟨hin, hf⟩ := zg_k hf
                    refine va_iald hx hb hK hP 1 0 (mw_a0 (S := S)) rfl (inb_k hin) dX7_readsOne_242 ?_
                    refine lv_i2l hx hb dX7_readsOne_243 rfl ?_
                    refine lv_goto (tgt := 253) hx hb dX7_readsOne_244 (by decide) ?_
                    obtain ⟨S16, hc253, hf⟩ := zo_k hf
                    refine cal_v (rnV (As := [.int p1, .int t3, .int (nI 0), .long (Int32.toInt64 (ri S 0 x7))]) (rest := []) ⟨hx, hb, hml, hown, hts⟩ (c_X7_notes hAd  hc253) (cwV 4 hts gX7_readsOne_X7_notes rfl rfl rfl cdV_X7_notes ⟨Nat.le_of_ble_eq_true rfl, Nat.le_of_ble_eq_true rfl⟩) hP hK hN (mw_o (S := S)) rfl rfl hl.1 rfl (Nat.le_of_ble_eq_true rfl) dX7_readsOne_253 ⟨Nat.zero_le _, Nat.zero_le _⟩) hS (fun H locs hP hS => ?_)
                    refine lv_aload_n hx hb dX7_readsOne_256 rfl (lv_at hl 5 rfl) ?_
                    refine va_get (D := D) (ci := 7) (v := .ref (bd 32)) (C := RX7) (T := TX7) (N := 48) hx hb hts hin7 hown hK hP 0 (mw_o (S := S16)) rfl 37 (by decide) hfl105 (fun _ h9 => h9) mw_f37 dX7_readsOne_257 ?_
                    refine lv_iload_n hx hb dX7_readsOne_260 rfl (lv_at hl 6 rfl) ?_
                    refine lv_dup2_11 hx hb dX7_readsOne_261 rfl rfl ?_
                    obtain ⟨hin, hf⟩ := zg_k hf
                    refine va_iald hx hb hK hP 32 0 (mw_a37 (S := S16)) rfl (inb_k hin) dX7_readsOne_262 ?_
                    refine lv_iconst (v := (nI 1)) hx hb dX7_readsOne_263 (by decide) ?_
                    refine lv_iadd hx hb dX7_readsOne_264 ?_
                    obtain ⟨hin, hf⟩ := zg_k hf
                    refine va_iast hx hb hK hP (mw_D hAd) hS 32 0 (mw_a37 (S := S16)) rfl (inb_k hin) dX7_readsOne_265 (fun H locs hP _ hS => ?_)
                    have hP : va_P D vwCl (mw cyI cyJ cyZ bd (wi S16 37 (Int32.toNatClampNeg p1) ((ri S16 37 p1) + (nI 1)))) H := by rw [← mw_s37]; exact hP
                    obtain ⟨S17, eS17, hf⟩ := zb_k hf
                    rw [← eS17] at hP
                    cases Option.some.inj hf
                    exact fin_v hx hb hr hlk hS hP dX7_readsOne_266
                · have hf := ifp hf hc
                  refine lv_aload_n hx hb dX7_readsOne_217 rfl (lv_at hl 5 rfl) ?_
                  refine lv_iload_n hx hb dX7_readsOne_218 rfl (lv_at hl 6 rfl) ?_
                  refine lv_bipush (v := (-3)) hx hb dX7_readsOne_219 (by decide) ?_
                  refine lv_iconst (v := (nI 4)) hx hb dX7_readsOne_221 (by decide) ?_
                  obtain ⟨S18, hc222, hf⟩ := zo_k hf
                  refine cal_v (rnV (As := [.int p1, .int (-3), .int (nI 4)]) (rest := []) ⟨hx, hb, hml, hown, hts⟩ (c_X7_finishes hAd  hc222) (cwV 3 hts gX7_readsOne_X7_finishes rfl rfl rfl cdV_X7_finishes ⟨Nat.le_of_ble_eq_true rfl, Nat.le_of_ble_eq_true rfl⟩) hP hK hN (mw_o (S := S)) rfl rfl hl.1 rfl (Nat.le_of_ble_eq_true rfl) dX7_readsOne_222 ⟨Nat.zero_le _, Nat.zero_le _⟩) hS (fun H locs hP hS => ?_)
                  cases Option.some.inj hf
                  exact fin_v hx hb hr hlk hS hP dX7_readsOne_225
            · have hf := ifn hf hc
              refine lv_iload hx hb dX7_readsOne_119 (lv_at hl 1 rfl) ?_
              refine lv_iload hx hb dX7_readsOne_121 (lv_at hl 0 rfl) ?_
              refine lv_iload_n hx hb dX7_readsOne_123 rfl (lv_at hl 6 rfl) ?_
              refine lv_iconst (v := (nI 2)) hx hb dX7_readsOne_124 (by decide) ?_
              refine lv_irem hx hb dX7_readsOne_125 (by decide) ?_
              obtain ⟨x19, hc126, hf⟩ := zo_k hf
              refine cal_i (rnS (As := [.int x6, .int x7, .int (irm p1 (nI 2))]) (rest := []) ⟨hx, hb, hml, hown, hts⟩ (c_X7_nodeOf hAd  hc126) (va_cwS 3 hts gX7_readsOne_X7_nodeOf rfl rfl rfl cdS_X7_nodeOf ⟨Nat.le_of_ble_eq_true rfl, Nat.le_of_ble_eq_true rfl⟩) hP hK hN rfl hl.1 rfl (Nat.le_of_ble_eq_true rfl) dX7_readsOne_126 ⟨Nat.zero_le _, Nat.zero_le _⟩) hS (fun H locs hP hS => ?_)
              refine lv_istore (lv' := [(8, .int x19), (7, .int x7), (6, .int x6), (5, .int t4), (4, .int t3), (2, .int x1), (0, .ref (bd 0)), (1, .int p1)]) hx hb dX7_readsOne_129 hl (by decide) rfl (fun ls hl => ?_)
              refine lv_aload_n hx hb dX7_readsOne_131 rfl (lv_at hl 6 rfl) ?_
              refine va_get (D := D) (ci := 7) (v := .ref (bd 25)) (C := RX7) (T := TX7) (N := 48) hx hb hts hin7 hown hK hP 0 (mw_o (S := S)) rfl 29 (by decide) hfl84 (fun _ h9 => h9) mw_f29 dX7_readsOne_132 ?_
              refine lv_iload hx hb dX7_readsOne_135 (lv_at hl 0 rfl) ?_
              obtain ⟨hin, hf⟩ := zg_k hf
              refine va_iald hx hb hK hP 25 0 (mw_a29 (S := S)) rfl (inb_k hin) dX7_readsOne_137 ?_
              refine lv_if_ne (tgt := 148) hx hb dX7_readsOne_138 (by decide) (fun hc => ?_) (fun hc => ?_)
              · have hf := ifn hf hc
                refine lv_aload_n hx hb dX7_readsOne_148 rfl (lv_at hl 6 rfl) ?_
                refine va_get (D := D) (ci := 7) (v := .ref (bd 25)) (C := RX7) (T := TX7) (N := 48) hx hb hts hin7 hown hK hP 0 (mw_o (S := S)) rfl 29 (by decide) hfl84 (fun _ h9 => h9) mw_f29 dX7_readsOne_149 ?_
                refine lv_iload hx hb dX7_readsOne_152 (lv_at hl 0 rfl) ?_
                obtain ⟨hin, hf⟩ := zg_k hf
                refine va_iald hx hb hK hP 25 0 (mw_a29 (S := S)) rfl (inb_k hin) dX7_readsOne_154 ?_
                refine lv_iconst (v := (nI 1)) hx hb dX7_readsOne_155 (by decide) ?_
                refine lv_icmp_ne (tgt := 164) hx hb dX7_readsOne_156 (by decide) (fun hc => ?_) (fun hc => ?_)
                · have hf := ifn hf hc
                  refine lv_aload_n hx hb dX7_readsOne_164 rfl (lv_at hl 6 rfl) ?_
                  refine va_get (D := D) (ci := 7) (v := .ref (bd 26)) (C := RX7) (T := TX7) (N := 48) hx hb hts hin7 hown hK hP 0 (mw_o (S := S)) rfl 30 (by decide) hfl87 (fun _ h9 => h9) mw_f30 dX7_readsOne_165 ?_
                  refine lv_iload hx hb dX7_readsOne_168 (lv_at hl 0 rfl) ?_
                  obtain ⟨hin, hf⟩ := zg_k hf
                  refine va_iald hx hb hK hP 26 0 (mw_a30 (S := S)) rfl (inb_k hin) dX7_readsOne_170 ?_
                  refine lv_topi (fun x20 ex20 => ?_)
                  have hf := zb_x hf ex20
                  refine lv_istore (lv' := [(9, .int x20), (8, .int x19), (7, .int x7), (6, .int x6), (5, .int t4), (4, .int t3), (2, .int x1), (0, .ref (bd 0)), (1, .int p1)]) hx hb dX7_readsOne_171 hl (by decide) rfl (fun ls hl => ?_)
                  refine lv_iload hx hb dX7_readsOne_173 (lv_at hl 0 rfl) ?_
                  refine lv_if_ge (tgt := 187) hx hb dX7_readsOne_175 (by decide) (fun hc => ?_) (fun hc => ?_)
                  · have hf := ifp hf hc
                    refine lv_aload_n hx hb dX7_readsOne_187 rfl (lv_at hl 7 rfl) ?_
                    refine lv_iload_n hx hb dX7_readsOne_188 rfl (lv_at hl 8 rfl) ?_
                    refine lv_iload hx hb dX7_readsOne_189 (lv_at hl 5 rfl) ?_
                    refine lv_iconst (v := (nI 0)) hx hb dX7_readsOne_191 (by decide) ?_
                    refine lv_iload hx hb dX7_readsOne_192 (lv_at hl 0 rfl) ?_
                    refine lv_i2l hx hb dX7_readsOne_194 rfl ?_
                    obtain ⟨S21, hc195, hf⟩ := zo_k hf
                    refine cal_v (rnV (As := [.int p1, .int t3, .int (nI 0), .long (Int32.toInt64 x20)]) (rest := []) ⟨hx, hb, hml, hown, hts⟩ (c_X7_notes hAd  hc195) (cwV 4 hts gX7_readsOne_X7_notes rfl rfl rfl cdV_X7_notes ⟨Nat.le_of_ble_eq_true rfl, Nat.le_of_ble_eq_true rfl⟩) hP hK hN (mw_o (S := S)) rfl rfl hl.1 rfl (Nat.le_of_ble_eq_true rfl) dX7_readsOne_195 ⟨Nat.zero_le _, Nat.zero_le _⟩) hS (fun H locs hP hS => ?_)
                    refine lv_goto (tgt := 256) hx hb dX7_readsOne_198 (by decide) ?_
                    refine lv_aload_n hx hb dX7_readsOne_256 rfl (lv_at hl 7 rfl) ?_
                    refine va_get (D := D) (ci := 7) (v := .ref (bd 32)) (C := RX7) (T := TX7) (N := 48) hx hb hts hin7 hown hK hP 0 (mw_o (S := S21)) rfl 37 (by decide) hfl105 (fun _ h9 => h9) mw_f37 dX7_readsOne_257 ?_
                    refine lv_iload_n hx hb dX7_readsOne_260 rfl (lv_at hl 8 rfl) ?_
                    refine lv_dup2_11 hx hb dX7_readsOne_261 rfl rfl ?_
                    obtain ⟨hin, hf⟩ := zg_k hf
                    refine va_iald hx hb hK hP 32 0 (mw_a37 (S := S21)) rfl (inb_k hin) dX7_readsOne_262 ?_
                    refine lv_iconst (v := (nI 1)) hx hb dX7_readsOne_263 (by decide) ?_
                    refine lv_iadd hx hb dX7_readsOne_264 ?_
                    obtain ⟨hin, hf⟩ := zg_k hf
                    refine va_iast hx hb hK hP (mw_D hAd) hS 32 0 (mw_a37 (S := S21)) rfl (inb_k hin) dX7_readsOne_265 (fun H locs hP _ hS => ?_)
                    have hP : va_P D vwCl (mw cyI cyJ cyZ bd (wi S21 37 (Int32.toNatClampNeg p1) ((ri S21 37 p1) + (nI 1)))) H := by rw [← mw_s37]; exact hP
                    obtain ⟨S22, eS22, hf⟩ := zb_k hf
                    rw [← eS22] at hP
                    cases Option.some.inj hf
                    exact fin_v hx hb hr hlk hS hP dX7_readsOne_266
                  · have hf := ifn hf hc
                    refine lv_aload_n hx hb dX7_readsOne_178 rfl (lv_at hl 7 rfl) ?_
                    refine lv_iload_n hx hb dX7_readsOne_179 rfl (lv_at hl 8 rfl) ?_
                    refine lv_iload hx hb dX7_readsOne_180 (lv_at hl 0 rfl) ?_
                    refine lv_iconst (v := (nI 4)) hx hb dX7_readsOne_182 (by decide) ?_
                    obtain ⟨S23, hc183, hf⟩ := zo_k hf
                    refine cal_v (rnV (As := [.int p1, .int x20, .int (nI 4)]) (rest := []) ⟨hx, hb, hml, hown, hts⟩ (c_X7_finishes hAd  hc183) (cwV 3 hts gX7_readsOne_X7_finishes rfl rfl rfl cdV_X7_finishes ⟨Nat.le_of_ble_eq_true rfl, Nat.le_of_ble_eq_true rfl⟩) hP hK hN (mw_o (S := S)) rfl rfl hl.1 rfl (Nat.le_of_ble_eq_true rfl) dX7_readsOne_183 ⟨Nat.zero_le _, Nat.zero_le _⟩) hS (fun H locs hP hS => ?_)
                    cases Option.some.inj hf
                    exact fin_v hx hb hr hlk hS hP dX7_readsOne_186
                · have hf := ifp hf hc
                  refine lv_bipush (v := (-4)) hx hb dX7_readsOne_159 (by decide) ?_
                  refine lv_goto (tgt := 171) hx hb dX7_readsOne_161 (by decide) ?_
                  refine lv_istore (lv' := [(9, .int (-4)), (8, .int x19), (7, .int x7), (6, .int x6), (5, .int t4), (4, .int t3), (2, .int x1), (0, .ref (bd 0)), (1, .int p1)]) hx hb dX7_readsOne_171 hl (by decide) rfl (fun ls hl => ?_)
                  refine lv_iload hx hb dX7_readsOne_173 (lv_at hl 0 rfl) ?_
                  refine lv_if_ge (tgt := 187) hx hb dX7_readsOne_175 (by decide) (fun hc => absurd hc (by decide)) (fun _ => ?_)
                  refine lv_aload_n hx hb dX7_readsOne_178 rfl (lv_at hl 7 rfl) ?_
                  refine lv_iload_n hx hb dX7_readsOne_179 rfl (lv_at hl 8 rfl) ?_
                  refine lv_iload hx hb dX7_readsOne_180 (lv_at hl 0 rfl) ?_
                  refine lv_iconst (v := (nI 4)) hx hb dX7_readsOne_182 (by decide) ?_
                  obtain ⟨S24, hc183, hf⟩ := zo_k hf
                  refine cal_v (rnV (As := [.int p1, .int (-4), .int (nI 4)]) (rest := []) ⟨hx, hb, hml, hown, hts⟩ (c_X7_finishes hAd  hc183) (cwV 3 hts gX7_readsOne_X7_finishes rfl rfl rfl cdV_X7_finishes ⟨Nat.le_of_ble_eq_true rfl, Nat.le_of_ble_eq_true rfl⟩) hP hK hN (mw_o (S := S)) rfl rfl hl.1 rfl (Nat.le_of_ble_eq_true rfl) dX7_readsOne_183 ⟨Nat.zero_le _, Nat.zero_le _⟩) hS (fun H locs hP hS => ?_)
                  cases Option.some.inj hf
                  exact fin_v hx hb hr hlk hS hP dX7_readsOne_186
              · have hf := ifp hf hc
                refine lv_aload_n hx hb dX7_readsOne_141 rfl (lv_at hl 6 rfl) ?_
                refine lv_iload hx hb dX7_readsOne_142 (lv_at hl 0 rfl) ?_
                obtain ⟨S25, hc144, hf⟩ := zo_k hf
                refine cal_v (rnV (As := [.int x19]) (rest := []) ⟨hx, hb, hml, hown, hts⟩ (c_X7_pushes hAd  hc144) (cwV 1 hts gX7_readsOne_X7_pushes rfl rfl rfl cdV_X7_pushes ⟨Nat.le_of_ble_eq_true rfl, Nat.le_of_ble_eq_true rfl⟩) hP hK hN (mw_o (S := S)) rfl rfl hl.1 rfl (Nat.le_of_ble_eq_true rfl) dX7_readsOne_144 ⟨Nat.zero_le _, Nat.zero_le _⟩) hS (fun H locs hP hS => ?_)
                cases Option.some.inj hf
                exact fin_v hx hb hr hlk hS hP dX7_readsOne_147
          · have hf := ifn hf hc
            refine lv_aload_n hx hb dX7_readsOne_81 rfl (lv_at hl 3 rfl) ?_
            refine lv_iload_n hx hb dX7_readsOne_82 rfl (lv_at hl 4 rfl) ?_
            obtain ⟨S26, hc83, hf⟩ := zo_k hf
            refine cal_v (rnV (As := [.int p1]) (rest := []) ⟨hx, hb, hml, hown, hts⟩ (c_X7_endsReading hAd  hc83) (cwV 1 hts gX7_readsOne_X7_endsReading rfl rfl rfl cdV_X7_endsReading ⟨Nat.le_of_ble_eq_true rfl, Nat.le_of_ble_eq_true rfl⟩) hP hK hN (mw_o (S := S)) rfl rfl hl.1 rfl (Nat.le_of_ble_eq_true rfl) dX7_readsOne_83 ⟨Nat.zero_le _, Nat.zero_le _⟩) hS (fun H locs hP hS => ?_)
            cases Option.some.inj hf
            exact fin_v hx hb hr hlk hS hP dX7_readsOne_86
      have hJ62 : m_X7_readsOne_J62 x1 t3 S p1 = some SZ → ∀ (H : Heap) (locs : List Loc) (ls : Array Slot), va_P D vwCl (mw cyI cyJ cyZ bd S) H → va_S (MA bd) s.heap H locs → lv_has ls 10 [(4, .int t3), (2, .int x1), (0, .ref (bd 0)), (1, .int p1)] → W p l e rl_X7_readsOne s m args below meth c H locs 0 0 (MQ below (PoV D (mw cyI cyJ cyZ bd SZ) (MA bd)) args s 0 0 (MA bd)) (F0 m 62 ls []) := by
        intro  hf H locs ls hP hS hl
        unfold m_X7_readsOne_J62 at hf
        refine lv_iconst (v := (nI 0)) hx hb dX7_readsOne_62 (by decide) ?_
        exact hJ63 (nI 0) hf _ _ _ hP hS (lv_sub hl [0, 1, 2, 3] rfl)
      refine lv_icmp_ne (tgt := 62) hx hb dX7_readsOne_46 (by decide) (fun hc => ?_) (fun hc => ?_)
      · have hf := ifn hf hc
        exact hJ62  hf _ _ _ hP hS (lv_sub hl [0, 2, 3, 4] rfl)
      · have hf := ifp hf hc
        refine lv_aload_n hx hb dX7_readsOne_49 rfl (lv_at hl 3 rfl) ?_
        refine va_get (D := D) (ci := 7) (v := .ref (bd 32)) (C := RX7) (T := TX7) (N := 48) hx hb hts hin7 hown hK hP 0 (mw_o (S := S)) rfl 37 (by decide) hfl105 (fun _ h9 => h9) mw_f37 dX7_readsOne_50 ?_
        refine lv_iload_n hx hb dX7_readsOne_53 rfl (lv_at hl 4 rfl) ?_
        obtain ⟨hin, hf⟩ := zg_k hf
        refine va_iald hx hb hK hP 32 0 (mw_a37 (S := S)) rfl (inb_k hin) dX7_readsOne_54 ?_
        refine lv_if_le (tgt := 62) hx hb dX7_readsOne_55 (by decide) (fun hc => ?_) (fun hc => ?_)
        · have hf := ifp hf hc
          exact hJ62  hf _ _ _ hP hS (lv_sub hl [0, 2, 3, 4] rfl)
        · have hf := ifn hf hc
          refine lv_iconst (v := (nI 1)) hx hb dX7_readsOne_58 (by decide) ?_
          refine lv_goto (tgt := 63) hx hb dX7_readsOne_59 (by decide) ?_
          exact hJ63 (nI 1) hf _ _ _ hP hS (lv_sub hl [0, 2, 3, 4] rfl)
    refine lv_icmp_ne (tgt := 36) hx hb dX7_readsOne_27 (by decide) (fun hc => ?_) (fun hc => ?_)
    · have hf := ifn hf hc
      refine lv_aload_n hx hb dX7_readsOne_36 rfl (lv_at hl 2 rfl) ?_
      refine va_get (D := D) (ci := 7) (v := .ref (bd 32)) (C := RX7) (T := TX7) (N := 48) hx hb hts hin7 hown hK hP 0 (mw_o (S := S)) rfl 37 (by decide) hfl105 (fun _ h9 => h9) mw_f37 dX7_readsOne_37 ?_
      refine lv_iload_n hx hb dX7_readsOne_40 rfl (lv_at hl 3 rfl) ?_
      obtain ⟨hin, hf⟩ := zg_k hf
      refine va_iald hx hb hK hP 32 0 (mw_a37 (S := S)) rfl (inb_k hin) dX7_readsOne_41 ?_
      exact hJ42 (ri S 37 p1) hf _ _ _ hP hS (lv_sub hl [0, 1, 2, 3] rfl)
    · have hf := ifp hf hc
      refine lv_iload_n hx hb dX7_readsOne_30 rfl (lv_at hl 3 rfl) ?_
      refine lv_iconst (v := (nI 2)) hx hb dX7_readsOne_31 (by decide) ?_
      refine lv_irem hx hb dX7_readsOne_32 (by decide) ?_
      refine lv_goto (tgt := 42) hx hb dX7_readsOne_33 (by decide) ?_
      exact hJ42 (irm p1 (nI 2)) hf _ _ _ hP hS (lv_sub hl [0, 1, 2, 3] rfl)
  · have hf := ifp hf hc
    refine lv_aload_n hx hb dX7_readsOne_16 rfl (lv_at hl 2 rfl) ?_
    refine lv_iload_n hx hb dX7_readsOne_17 rfl (lv_at hl 3 rfl) ?_
    refine lv_bipush (v := (-2)) hx hb dX7_readsOne_18 (by decide) ?_
    refine lv_iconst (v := (nI 4)) hx hb dX7_readsOne_20 (by decide) ?_
    obtain ⟨S27, hc21, hf⟩ := zo_k hf
    refine cal_v (rnV (As := [.int p1, .int (-2), .int (nI 4)]) (rest := []) ⟨hx, hb, hml, hown, hts⟩ (c_X7_finishes hAd  hc21) (cwV 3 hts gX7_readsOne_X7_finishes rfl rfl rfl cdV_X7_finishes ⟨Nat.le_of_ble_eq_true rfl, Nat.le_of_ble_eq_true rfl⟩) hP hK hN (mw_o (S := S)) rfl rfl hl.1 rfl (Nat.le_of_ble_eq_true rfl) dX7_readsOne_21 ⟨Nat.zero_le _, Nat.zero_le _⟩) hS (fun H locs hP hS => ?_)
    cases Option.some.inj hf
    exact fin_v hx hb hr hlk hS hP dX7_readsOne_24
set_option maxHeartbeats 4000000 in
set_option maxRecDepth 100000 in
theorem c_X7_looks {l : Launch} {D : va_G} {cyI cyJ cyZ : ClassId} {bd : Nat → Nat}  (hAd : AdOK 41 bd)  {S : St} {p1 : Int32} {r : Int32} {SZ : St} (hf : m_X7_looks S p1 = some (r, SZ)) : Met l yX7_looks wsX7_looks rl_X7_looks (PreW D [(cyI, .int), (cyJ, .long), (cyZ, .boolean)] (mw cyI cyJ cyZ bd S) [.ref (bd 0), .int p1]) (PoI D (mw cyI cyJ cyZ bd SZ) (MA bd) r) 0 0 (MA bd) := by
  refine met_go (cc := cX7_looks) (maxL := 3) (ret := (some .int)) (by decide) rfl (Nat.le_of_ble_eq_true rfl) ?_
  intro p e s m args below meth c ls hx hb hr hml hts hown hlk hP hK hN hl
  have hown : s.vm.findClass RX7 = some m.cls := hown
  have hS : va_S (MA bd) s.heap s.heap [] := va_S.rf
  have hl : lv_has ls 3 [(0, .ref (bd 0)), (1, .int p1)] := hl
  have hin7 : ∀ w ∈ wsX70, w ∈ wsX7_looks := by decide +kernel
  have hfl165 := hts (.fieldLink RX7 165 "MakewheelModel" "height" "I") (by decide +kernel)
  have hfl87 := hts (.fieldLink RX7 87 "MakewheelModel" "gave" "[I") (by decide +kernel)
  have hfl99 := hts (.fieldLink RX7 99 "MakewheelModel" "pile" "[I") (by decide +kernel)
  have hfl102 := hts (.fieldLink RX7 102 "MakewheelModel" "compares" "[Z") (by decide +kernel)
  have hfl84 := hts (.fieldLink RX7 84 "MakewheelModel" "looked" "[I") (by decide +kernel)
  unfold m_X7_looks at hf
  refine lv_iconst (v := (nI 0)) hx hb dX7_looks_0 (by decide) ?_
  refine lv_istore_n (lv' := [(2, .int (nI 0)), (0, .ref (bd 0)), (1, .int p1)]) hx hb dX7_looks_1 rfl hl (by decide) rfl (fun ls hl => ?_)
  refine zl2_ind (F := (m_X7_looks_B2 p1)) (R := (r, SZ)) (P := fun S1 x2 => ∀ (H : Heap) (locs : List Loc) (ls : Array Slot), va_P D vwCl (mw cyI cyJ cyZ bd S1) H → va_S (MA bd) s.heap H locs → lv_has ls 3 [(0, .ref (bd 0)), (1, .int p1), (2, .int x2)] → W p l e rl_X7_looks s m args below meth c H locs 0 0 (MQ below (PoI D (mw cyI cyJ cyZ bd SZ) (MA bd) r) args s 0 0 (MA bd)) (F0 m 2 ls [])) (fun rec2 ih2 S1 x2 hf H locs ls hP hS hl => ?_) FU S (nI 0) hf _ _ _ hP hS (lv_sub hl [1, 2, 0] rfl)
  unfold m_X7_looks_B2 at hf
  refine lv_iload_n hx hb dX7_looks_2 rfl (lv_at hl 2 rfl) ?_
  refine lv_bipush (v := (nI 32)) hx hb dX7_looks_3 (by decide) ?_
  refine lv_icmp_ge (tgt := 21) hx hb dX7_looks_5 (by decide) (fun hc => ?_) (fun hc => ?_)
  · have hf := ifp hf hc
    refine lv_aload_n hx hb dX7_looks_21 rfl (lv_at hl 0 rfl) ?_
    refine lv_iconst (v := (nI 0)) hx hb dX7_looks_22 (by decide) ?_
    refine va_put (D := D) (ci := 7) (v := .int (nI 0)) (ty := .int) (C := RX7) (T := TX7) (N := 48) hx hb hts hin7 tyX7 tyX7_ok nmX7 hown hK hP (mw_D hAd) hS 0 (mw_o (S := S1)) rfl 34 (by decide) hfl165 (fun _ h9 => h9) rfl (by decide +kernel) rfl rfl (Nat.le_of_ble_eq_true rfl) dX7_looks_23 (fun H locs hP _ hS => ?_)
    have hP : va_P D vwCl (mw cyI cyJ cyZ bd (wi S1 34 0 (nI 0))) H := by rw [← mw_s34]; exact hP
    obtain ⟨S3, eS3, hf⟩ := zb_k hf
    rw [← eS3] at hP
    refine lv_aload_n hx hb dX7_looks_26 rfl (lv_at hl 0 rfl) ?_
    refine lv_iload_n hx hb dX7_looks_27 rfl (lv_at hl 1 rfl) ?_
    obtain ⟨S4, hc28, hf⟩ := zo_k hf
    refine cal_v (rnV (As := [.int p1]) (rest := []) ⟨hx, hb, hml, hown, hts⟩ (c_X7_pushes hAd  hc28) (cwV 1 hts gX7_looks_X7_pushes rfl rfl rfl cdV_X7_pushes ⟨Nat.le_of_ble_eq_true rfl, Nat.le_of_ble_eq_true rfl⟩) hP hK hN (mw_o (S := S3)) rfl rfl hl.1 rfl (Nat.le_of_ble_eq_true rfl) dX7_looks_28 ⟨Nat.zero_le _, Nat.zero_le _⟩) hS (fun H locs hP hS => ?_)
    refine zl1_ind (F := (m_X7_looks_B31 p1)) (R := (r, SZ)) (P := fun S5 => ∀ (H : Heap) (locs : List Loc) (ls : Array Slot), va_P D vwCl (mw cyI cyJ cyZ bd S5) H → va_S (MA bd) s.heap H locs → lv_has ls 3 [(0, .ref (bd 0)), (1, .int p1)] → W p l e rl_X7_looks s m args below meth c H locs 0 0 (MQ below (PoI D (mw cyI cyJ cyZ bd SZ) (MA bd) r) args s 0 0 (MA bd)) (F0 m 31 ls [])) (fun rec31 ih31 S5 hf H locs ls hP hS hl => ?_) FU S4 hf _ _ _ hP hS (lv_sub hl [0, 1] rfl)
    unfold m_X7_looks_B31 at hf
    refine lv_aload_n hx hb dX7_looks_31 rfl (lv_at hl 0 rfl) ?_
    refine va_get (D := D) (ci := 7) (v := .int (S5.1 34 0)) (C := RX7) (T := TX7) (N := 48) hx hb hts hin7 hown hK hP 0 (mw_o (S := S5)) rfl 34 (by decide) hfl165 (fun _ h9 => h9) mw_f34 dX7_looks_32 ?_
    refine lv_if_le (tgt := 75) hx hb dX7_looks_35 (by decide) (fun hc => ?_) (fun hc => ?_)
    · have hf := ifp hf hc
      refine lv_aload_n hx hb dX7_looks_75 rfl (lv_at hl 0 rfl) ?_
      refine va_get (D := D) (ci := 7) (v := .ref (bd 26)) (C := RX7) (T := TX7) (N := 48) hx hb hts hin7 hown hK hP 0 (mw_o (S := S5)) rfl 30 (by decide) hfl87 (fun _ h9 => h9) mw_f30 dX7_looks_76 ?_
      refine lv_iload_n hx hb dX7_looks_79 rfl (lv_at hl 1 rfl) ?_
      obtain ⟨hin, hf⟩ := zg_k hf
      refine va_iald hx hb hK hP 26 0 (mw_a30 (S := S5)) rfl (inb_k hin) dX7_looks_80 ?_
      cases Option.some.inj hf
      exact fin_i hx hb hr hlk hS hP rfl dX7_looks_81
    · have hf := ifn hf hc
      refine lv_aload_n hx hb dX7_looks_38 rfl (lv_at hl 0 rfl) ?_
      refine va_get (D := D) (ci := 7) (v := .ref (bd 30)) (C := RX7) (T := TX7) (N := 48) hx hb hts hin7 hown hK hP 0 (mw_o (S := S5)) rfl 35 (by decide) hfl99 (fun _ h9 => h9) mw_f35 dX7_looks_39 ?_
      refine lv_aload_n hx hb dX7_looks_42 rfl (lv_at hl 0 rfl) ?_
      refine va_get (D := D) (ci := 7) (v := .int (S5.1 34 0)) (C := RX7) (T := TX7) (N := 48) hx hb hts hin7 hown hK hP 0 (mw_o (S := S5)) rfl 34 (by decide) hfl165 (fun _ h9 => h9) mw_f34 dX7_looks_43 ?_
      refine lv_iconst (v := (nI 1)) hx hb dX7_looks_46 (by decide) ?_
      refine lv_isub hx hb dX7_looks_47 ?_
      obtain ⟨hin, hf⟩ := zg_k hf
      refine va_iald hx hb hK hP 30 0 (mw_a35 (S := S5)) rfl (inb_k hin) dX7_looks_48 ?_
      refine lv_topi (fun x6 ex6 => ?_)
      have hf := zb_x hf ex6
      refine lv_istore_n (lv' := [(2, .int x6), (0, .ref (bd 0)), (1, .int p1)]) hx hb dX7_looks_49 rfl hl (by decide) rfl (fun ls hl => ?_)
      refine lv_aload_n hx hb dX7_looks_50 rfl (lv_at hl 1 rfl) ?_
      refine va_get (D := D) (ci := 7) (v := .ref (bd 31)) (C := RX7) (T := TX7) (N := 48) hx hb hts hin7 hown hK hP 0 (mw_o (S := S5)) rfl 36 (by decide) hfl102 (fun _ h9 => h9) mw_f36 dX7_looks_51 ?_
      refine lv_iload_n hx hb dX7_looks_54 rfl (lv_at hl 0 rfl) ?_
      obtain ⟨hin, hf⟩ := zg_k hf
      refine va_zald hx hb hK hP 31 2 (mw_a36 (S := S5)) rfl (inb_k hin) dX7_looks_55 ?_
      refine lv_if_eq (tgt := 67) hx hb dX7_looks_56 (by decide) (fun hc => ?_) (fun hc => ?_)
      · have hf := ifp hf hc
        refine lv_aload_n hx hb dX7_looks_67 rfl (lv_at hl 1 rfl) ?_
        refine lv_iload_n hx hb dX7_looks_68 rfl (lv_at hl 0 rfl) ?_
        obtain ⟨S7, hc69, hf⟩ := zo_k hf
        refine cal_v (rnV (As := [.int x6]) (rest := []) ⟨hx, hb, hml, hown, hts⟩ (c_X7_readsOne hAd  hc69) (cwV 1 hts gX7_looks_X7_readsOne rfl rfl rfl cdV_X7_readsOne ⟨Nat.le_of_ble_eq_true rfl, Nat.le_of_ble_eq_true rfl⟩) hP hK hN (mw_o (S := S5)) rfl rfl hl.1 rfl (Nat.le_of_ble_eq_true rfl) dX7_looks_69 ⟨Nat.zero_le _, Nat.zero_le _⟩) hS (fun H locs hP hS => ?_)
        refine lv_goto (tgt := 31) hx hb dX7_looks_72 (by decide) ?_
        exact ih31 S7 hf _ _ _ hP hS (lv_sub hl [1, 2] rfl)
      · have hf := ifn hf hc
        refine lv_aload_n hx hb dX7_looks_59 rfl (lv_at hl 1 rfl) ?_
        refine lv_iload_n hx hb dX7_looks_60 rfl (lv_at hl 0 rfl) ?_
        obtain ⟨S8, hc61, hf⟩ := zo_k hf
        refine cal_v (rnV (As := [.int x6]) (rest := []) ⟨hx, hb, hml, hown, hts⟩ (c_X7_comparesOne hAd  hc61) (cwV 1 hts gX7_looks_X7_comparesOne rfl rfl rfl cdV_X7_comparesOne ⟨Nat.le_of_ble_eq_true rfl, Nat.le_of_ble_eq_true rfl⟩) hP hK hN (mw_o (S := S5)) rfl rfl hl.1 rfl (Nat.le_of_ble_eq_true rfl) dX7_looks_61 ⟨Nat.zero_le _, Nat.zero_le _⟩) hS (fun H locs hP hS => ?_)
        refine lv_goto (tgt := 72) hx hb dX7_looks_64 (by decide) ?_
        refine lv_goto (tgt := 31) hx hb dX7_looks_72 (by decide) ?_
        exact ih31 S8 hf _ _ _ hP hS (lv_sub hl [1, 2] rfl)
  · have hf := ifn hf hc
    refine lv_aload_n hx hb dX7_looks_8 rfl (lv_at hl 0 rfl) ?_
    refine va_get (D := D) (ci := 7) (v := .ref (bd 25)) (C := RX7) (T := TX7) (N := 48) hx hb hts hin7 hown hK hP 0 (mw_o (S := S1)) rfl 29 (by decide) hfl84 (fun _ h9 => h9) mw_f29 dX7_looks_9 ?_
    refine lv_iload_n hx hb dX7_looks_12 rfl (lv_at hl 2 rfl) ?_
    refine lv_iconst (v := (nI 0)) hx hb dX7_looks_13 (by decide) ?_
    obtain ⟨hin, hf⟩ := zg_k hf
    refine va_iast hx hb hK hP (mw_D hAd) hS 25 0 (mw_a29 (S := S1)) rfl (inb_k hin) dX7_looks_14 (fun H locs hP _ hS => ?_)
    have hP : va_P D vwCl (mw cyI cyJ cyZ bd (wi S1 29 (Int32.toNatClampNeg x2) (nI 0))) H := by rw [← mw_s29]; exact hP
    obtain ⟨S9, eS9, hf⟩ := zb_k hf
    rw [← eS9] at hP
    obtain ⟨x10, ex10, hf⟩ := zb_k hf
    refine lv_iinc (v := x10) (lv' := [(2, .int x10), (0, .ref (bd 0)), (1, .int p1)]) hx hb dX7_looks_15 hl (k := 2) rfl (by rw [ex10]; rfl) (by decide) rfl (fun ls hl => ?_)
    refine lv_goto (tgt := 2) hx hb dX7_looks_18 (by decide) ?_
    exact ih2 S9 x10 hf _ _ _ hP hS (lv_sub hl [1, 2, 0] rfl)
