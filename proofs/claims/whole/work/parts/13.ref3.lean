set_option maxHeartbeats 4000000 in
set_option maxRecDepth 100000 in
theorem c_X7_build {l : Launch} {D : va_G} {cyI cyJ cyZ : ClassId} {bd : Nat → Nat}  (hAd : AdOK 41 bd)  {S : St} {p1 : Int32} {p2 : Int32} {r : Int32} {SZ : St} (hf : m_X7_build S p1 p2 = some (r, SZ)) : Met l yX7_build wsX7_build rl_X7_build (PreW D [(cyI, .int), (cyJ, .long), (cyZ, .boolean)] (mw cyI cyJ cyZ bd S) [.ref (bd 0), .int p1, .int p2]) (PoI D (mw cyI cyJ cyZ bd SZ) (MA bd) r) 0 0 (MA bd) := by
  refine met_go (cc := cX7_build) (maxL := 5) (ret := (some .int)) (by decide) rfl (Nat.le_of_ble_eq_true rfl) ?_
  intro p e s m args below meth c ls hx hb hr hml hts hown hlk hP hK hN hl
  have hown : s.vm.findClass RX7 = some m.cls := hown
  have hS : va_S (MA bd) s.heap s.heap [] := va_S.rf
  have hl : lv_has ls 5 [(0, .ref (bd 0)), (1, .int p1), (2, .int p2)] := hl
  have hin7 : ∀ w ∈ wsX70, w ∈ wsX7_build := by decide +kernel
  have hfl172 := hts (.fieldLink RX7 172 "MakewheelModel" "isPlain" "Z") (by decide +kernel)
  have hfl44 := hts (.fieldLink RX7 44 "MakewheelModel" "isKept" "[Z") (by decide +kernel)
  have hfl72 := hts (.fieldLink RX7 72 "MakewheelModel" "isDropped" "[Z") (by decide +kernel)
  have hfl90 := hts (.fieldLink RX7 90 "MakewheelModel" "dones" "[I") (by decide +kernel)
  have hfl93 := hts (.fieldLink RX7 93 "MakewheelModel" "whys" "[I") (by decide +kernel)
  have hfl96 := hts (.fieldLink RX7 96 "MakewheelModel" "counted" "[I") (by decide +kernel)
  unfold m_X7_build at hf
  refine lv_aload_n hx hb dX7_build_0 rfl (lv_at hl 0 rfl) ?_
  refine lv_iload_n hx hb dX7_build_1 rfl (lv_at hl 1 rfl) ?_
  refine lv_iload_n hx hb dX7_build_2 rfl (lv_at hl 2 rfl) ?_
  obtain ⟨x1, hc3, hf⟩ := zo_k hf
  refine cal_i (rnS (As := [.int p1, .int p2]) (rest := [.ref (bd 0)]) ⟨hx, hb, hml, hown, hts⟩ (c_X7_isNode hAd  hc3) (va_cwS 2 hts gX7_build_X7_isNode rfl rfl rfl cdS_X7_isNode ⟨Nat.le_of_ble_eq_true rfl, Nat.le_of_ble_eq_true rfl⟩) hP hK hN rfl hl.1 rfl (Nat.le_of_ble_eq_true rfl) dX7_build_3 ⟨Nat.zero_le _, Nat.zero_le _⟩) hS (fun H locs hP hS => ?_)
  have hJ14 : ∀ (t2 : Int32), m_X7_build_J14 S p1 p2 t2 = some (r, SZ) → ∀ (H : Heap) (locs : List Loc) (ls : Array Slot), va_P D vwCl (mw cyI cyJ cyZ bd S) H → va_S (MA bd) s.heap H locs → lv_has ls 5 [(0, .ref (bd 0)), (1, .int p1), (2, .int p2)] → W p l e rl_X7_build s m args below meth c H locs 0 0 (MQ below (PoI D (mw cyI cyJ cyZ bd SZ) (MA bd) r) args s 0 0 (MA bd)) (F0 m 14 ls [.int t2, .ref (bd 0)]) := by
    intro t2 hf H locs ls hP hS hl
    unfold m_X7_build_J14 at hf
    obtain ⟨x3, S4, hc14, hf⟩ := zo2_k hf
    refine cal_i (rnV (As := [.int t2]) (rest := []) ⟨hx, hb, hml, hown, hts⟩ (c_X7_goes hAd  hc14) (cwV 1 hts gX7_build_X7_goes rfl rfl rfl cdV_X7_goes ⟨Nat.le_of_ble_eq_true rfl, Nat.le_of_ble_eq_true rfl⟩) hP hK hN (mw_o (S := S)) rfl rfl hl.1 rfl (Nat.le_of_ble_eq_true rfl) dX7_build_14 ⟨Nat.zero_le _, Nat.zero_le _⟩) hS (fun H locs hP hS => ?_)
    refine lv_if_ne (tgt := 22) hx hb dX7_build_17 (by decide) (fun hc => ?_) (fun hc => ?_)
    · have hf := ifn hf hc
      refine lv_iconst (v := (nI 0)) hx hb dX7_build_22 (by decide) ?_
      refine lv_istore_n (lv' := [(3, .int (nI 0)), (0, .ref (bd 0)), (1, .int p1), (2, .int p2)]) hx hb dX7_build_23 rfl hl (by decide) rfl (fun ls hl => ?_)
      refine zl2_ind (F := (m_X7_build_B24 p1 p2)) (R := (r, SZ)) (P := fun S5 x6 => ∀ (H : Heap) (locs : List Loc) (ls : Array Slot), va_P D vwCl (mw cyI cyJ cyZ bd S5) H → va_S (MA bd) s.heap H locs → lv_has ls 5 [(0, .ref (bd 0)), (1, .int p1), (2, .int p2), (3, .int x6)] → W p l e rl_X7_build s m args below meth c H locs 0 0 (MQ below (PoI D (mw cyI cyJ cyZ bd SZ) (MA bd) r) args s 0 0 (MA bd)) (F0 m 24 ls [])) (fun rec24 ih24 S5 x6 hf H locs ls hP hS hl => ?_) FU S4 (nI 0) hf _ _ _ hP hS (lv_sub hl [1, 2, 3, 0] rfl)
      unfold m_X7_build_B24 at hf
      refine lv_iload_n hx hb dX7_build_24 rfl (lv_at hl 3 rfl) ?_
      refine lv_iconst (v := (nI 4)) hx hb dX7_build_25 (by decide) ?_
      refine lv_icmp_ge (tgt := 42) hx hb dX7_build_26 (by decide) (fun hc => ?_) (fun hc => ?_)
      · have hf := ifp hf hc
        refine lv_iconst (v := (nI 0)) hx hb dX7_build_42 (by decide) ?_
        refine lv_istore_n (lv' := [(3, .int (nI 0)), (0, .ref (bd 0)), (1, .int p1), (2, .int p2)]) hx hb dX7_build_43 rfl hl (by decide) rfl (fun ls hl => ?_)
        refine zl2_ind (F := (m_X7_build_B44 p1 p2)) (R := (r, SZ)) (P := fun S7 x8 => ∀ (H : Heap) (locs : List Loc) (ls : Array Slot), va_P D vwCl (mw cyI cyJ cyZ bd S7) H → va_S (MA bd) s.heap H locs → lv_has ls 5 [(0, .ref (bd 0)), (1, .int p1), (2, .int p2), (3, .int x8)] → W p l e rl_X7_build s m args below meth c H locs 0 0 (MQ below (PoI D (mw cyI cyJ cyZ bd SZ) (MA bd) r) args s 0 0 (MA bd)) (F0 m 44 ls [])) (fun rec44 ih44 S7 x8 hf H locs ls hP hS hl => ?_) FU S5 (nI 0) hf _ _ _ hP hS (lv_sub hl [1, 2, 3, 0] rfl)
        unfold m_X7_build_B44 at hf
        refine lv_iload_n hx hb dX7_build_44 rfl (lv_at hl 3 rfl) ?_
        refine lv_bipush (v := (nI 32)) hx hb dX7_build_45 (by decide) ?_
        refine lv_icmp_ge (tgt := 77) hx hb dX7_build_47 (by decide) (fun hc => ?_) (fun hc => ?_)
        · have hf := ifp hf hc
          refine lv_aload_n hx hb dX7_build_77 rfl (lv_at hl 0 rfl) ?_
          refine lv_iconst (v := (nI 0)) hx hb dX7_build_78 (by decide) ?_
          refine va_put (D := D) (ci := 7) (v := .int (nI 0)) (ty := .boolean) (C := RX7) (T := TX7) (N := 48) hx hb hts hin7 tyX7 tyX7_ok nmX7 hown hK hP (mw_D hAd) hS 0 (mw_o (S := S7)) rfl 43 (by decide) hfl172 (fun _ h9 => h9) rfl (by decide +kernel) rfl rfl (Nat.le_of_ble_eq_true rfl) dX7_build_79 (fun H locs hP _ hS => ?_)
          have hP : va_P D vwCl (mw cyI cyJ cyZ bd (wi S7 43 0 (nI 0))) H := by rw [← mw_s43]; exact hP
          obtain ⟨S9, eS9, hf⟩ := zb_k hf
          rw [← eS9] at hP
          refine lv_aload_n hx hb dX7_build_82 rfl (lv_at hl 0 rfl) ?_
          refine lv_iconst (v := (nI 2)) hx hb dX7_build_83 (by decide) ?_
          refine lv_iload_n hx hb dX7_build_84 rfl (lv_at hl 1 rfl) ?_
          refine lv_imul hx hb dX7_build_85 ?_
          refine lv_iload_n hx hb dX7_build_86 rfl (lv_at hl 2 rfl) ?_
          refine lv_iadd hx hb dX7_build_87 ?_
          obtain ⟨x10, S11, hc88, hf⟩ := zo2_k hf
          refine cal_i (rnV (As := [.int (((nI 2) * p1) + p2)]) (rest := []) ⟨hx, hb, hml, hown, hts⟩ (c_X7_looks hAd  hc88) (cwV 1 hts gX7_build_X7_looks rfl rfl rfl cdV_X7_looks ⟨Nat.le_of_ble_eq_true rfl, Nat.le_of_ble_eq_true rfl⟩) hP hK hN (mw_o (S := S9)) rfl rfl hl.1 rfl (Nat.le_of_ble_eq_true rfl) dX7_build_88 ⟨Nat.zero_le _, Nat.zero_le _⟩) hS (fun H locs hP hS => ?_)
          refine lv_istore_n (lv' := [(3, .int x10), (0, .ref (bd 0)), (1, .int p1), (2, .int p2)]) hx hb dX7_build_91 rfl hl (by decide) rfl (fun ls hl => ?_)
          refine lv_iconst (v := (nI 0)) hx hb dX7_build_92 (by decide) ?_
          refine lv_istore (lv' := [(4, .int (nI 0)), (3, .int x10), (0, .ref (bd 0)), (1, .int p1), (2, .int p2)]) hx hb dX7_build_93 hl (by decide) rfl (fun ls hl => ?_)
          refine zl2_ind (F := (m_X7_build_B95 x10)) (R := (r, SZ)) (P := fun S12 x13 => ∀ (H : Heap) (locs : List Loc) (ls : Array Slot), va_P D vwCl (mw cyI cyJ cyZ bd S12) H → va_S (MA bd) s.heap H locs → lv_has ls 5 [(3, .int x10), (0, .ref (bd 0)), (4, .int x13)] → W p l e rl_X7_build s m args below meth c H locs 0 0 (MQ below (PoI D (mw cyI cyJ cyZ bd SZ) (MA bd) r) args s 0 0 (MA bd)) (F0 m 95 ls [])) (fun rec95 ih95 S12 x13 hf H locs ls hP hS hl => ?_) FU S11 (nI 0) hf _ _ _ hP hS (lv_sub hl [1, 2, 0] rfl)
          unfold m_X7_build_B95 at hf
          refine lv_iload hx hb dX7_build_95 (lv_at hl 2 rfl) ?_
          refine lv_bipush (v := (nI 32)) hx hb dX7_build_97 (by decide) ?_
          refine lv_icmp_ge (tgt := 140) hx hb dX7_build_99 (by decide) (fun hc => ?_) (fun hc => ?_)
          · have hf := ifp hf hc
            refine lv_iload_n hx hb dX7_build_140 rfl (lv_at hl 0 rfl) ?_
            cases Option.some.inj hf
            exact fin_i hx hb hr hlk hS hP rfl dX7_build_141
          · have hf := ifn hf hc
            refine lv_aload_n hx hb dX7_build_102 rfl (lv_at hl 1 rfl) ?_
            refine va_get (D := D) (ci := 7) (v := .ref (bd 12)) (C := RX7) (T := TX7) (N := 48) hx hb hts hin7 hown hK hP 0 (mw_o (S := S12)) rfl 15 (by decide) hfl44 (fun _ h9 => h9) mw_f15 dX7_build_103 ?_
            refine lv_iload hx hb dX7_build_106 (lv_at hl 2 rfl) ?_
            refine lv_aload_n hx hb dX7_build_108 rfl (lv_at hl 1 rfl) ?_
            refine va_get (D := D) (ci := 7) (v := .ref (bd 12)) (C := RX7) (T := TX7) (N := 48) hx hb hts hin7 hown hK hP 0 (mw_o (S := S12)) rfl 15 (by decide) hfl44 (fun _ h9 => h9) mw_f15 dX7_build_109 ?_
            refine lv_iload hx hb dX7_build_112 (lv_at hl 2 rfl) ?_
            obtain ⟨hin, hf⟩ := zg_k hf
            refine va_zald hx hb hK hP 12 2 (mw_a15 (S := S12)) rfl (inb_k hin) dX7_build_114 ?_
            refine lv_if_eq (tgt := 132) hx hb dX7_build_115 (by decide) (fun hc => ?_) (fun hc => ?_)
            · have hf := ifp hf hc
              refine lv_iconst (v := (nI 0)) hx hb dX7_build_132 (by decide) ?_
              obtain ⟨hin, hf⟩ := zg_k hf
              refine va_zast hx hb hK hP (mw_D hAd) hS 12 2 (mw_a15 (S := S12)) rfl (inb_k hin) dX7_build_133 (fun H locs hP _ hS => ?_)
              have hP : va_P D vwCl (mw cyI cyJ cyZ bd (wi S12 15 (Int32.toNatClampNeg x13) (nI 0))) H := by rw [← mw_s15]; exact hP
              obtain ⟨S14, eS14, hf⟩ := zb_k hf
              rw [← eS14] at hP
              obtain ⟨x15, ex15, hf⟩ := zb_k hf
              refine lv_iinc (v := x15) (lv' := [(4, .int x15), (3, .int x10), (0, .ref (bd 0))]) hx hb dX7_build_134 hl (k := 2) rfl (by rw [ex15]; rfl) (by decide) rfl (fun ls hl => ?_)
              refine lv_goto (tgt := 95) hx hb dX7_build_137 (by decide) ?_
              exact ih95 S14 x15 hf _ _ _ hP hS (lv_sub hl [1, 2, 0] rfl)
            · have hf := ifn hf hc
              refine lv_aload_n hx hb dX7_build_118 rfl (lv_at hl 1 rfl) ?_
              refine va_get (D := D) (ci := 7) (v := .ref (bd 21)) (C := RX7) (T := TX7) (N := 48) hx hb hts hin7 hown hK hP 0 (mw_o (S := S12)) rfl 24 (by decide) hfl72 (fun _ h9 => h9) mw_f24 dX7_build_119 ?_
              refine lv_iload hx hb dX7_build_122 (lv_at hl 2 rfl) ?_
              obtain ⟨hin, hf⟩ := zg_k hf
              refine va_zald hx hb hK hP 21 2 (mw_a24 (S := S12)) rfl (inb_k hin) dX7_build_124 ?_
              refine lv_if_ne (tgt := 132) hx hb dX7_build_125 (by decide) (fun hc => ?_) (fun hc => ?_)
              · have hf := ifn hf hc
                refine lv_iconst (v := (nI 0)) hx hb dX7_build_132 (by decide) ?_
                obtain ⟨hin, hf⟩ := zg_k hf
                refine va_zast hx hb hK hP (mw_D hAd) hS 12 2 (mw_a15 (S := S12)) rfl (inb_k hin) dX7_build_133 (fun H locs hP _ hS => ?_)
                have hP : va_P D vwCl (mw cyI cyJ cyZ bd (wi S12 15 (Int32.toNatClampNeg x13) (nI 0))) H := by rw [← mw_s15]; exact hP
                obtain ⟨S16, eS16, hf⟩ := zb_k hf
                rw [← eS16] at hP
                obtain ⟨x17, ex17, hf⟩ := zb_k hf
                refine lv_iinc (v := x17) (lv' := [(4, .int x17), (3, .int x10), (0, .ref (bd 0))]) hx hb dX7_build_134 hl (k := 2) rfl (by rw [ex17]; rfl) (by decide) rfl (fun ls hl => ?_)
                refine lv_goto (tgt := 95) hx hb dX7_build_137 (by decide) ?_
                exact ih95 S16 x17 hf _ _ _ hP hS (lv_sub hl [1, 2, 0] rfl)
              · have hf := ifp hf hc
                refine lv_iconst (v := (nI 1)) hx hb dX7_build_128 (by decide) ?_
                refine lv_goto (tgt := 133) hx hb dX7_build_129 (by decide) ?_
                obtain ⟨hin, hf⟩ := zg_k hf
                refine va_zast hx hb hK hP (mw_D hAd) hS 12 2 (mw_a15 (S := S12)) rfl (inb_k hin) dX7_build_133 (fun H locs hP _ hS => ?_)
                have hP : va_P D vwCl (mw cyI cyJ cyZ bd (wi S12 15 (Int32.toNatClampNeg x13) (nI 1))) H := by rw [← mw_s15]; exact hP
                obtain ⟨S18, eS18, hf⟩ := zb_k hf
                rw [← eS18] at hP
                obtain ⟨x19, ex19, hf⟩ := zb_k hf
                refine lv_iinc (v := x19) (lv' := [(4, .int x19), (3, .int x10), (0, .ref (bd 0))]) hx hb dX7_build_134 hl (k := 2) rfl (by rw [ex19]; rfl) (by decide) rfl (fun ls hl => ?_)
                refine lv_goto (tgt := 95) hx hb dX7_build_137 (by decide) ?_
                exact ih95 S18 x19 hf _ _ _ hP hS (lv_sub hl [1, 2, 0] rfl)
        · have hf := ifn hf hc
          refine lv_aload_n hx hb dX7_build_50 rfl (lv_at hl 0 rfl) ?_
          refine va_get (D := D) (ci := 7) (v := .ref (bd 27)) (C := RX7) (T := TX7) (N := 48) hx hb hts hin7 hown hK hP 0 (mw_o (S := S7)) rfl 31 (by decide) hfl90 (fun _ h9 => h9) mw_f31 dX7_build_51 ?_
          refine lv_iload_n hx hb dX7_build_54 rfl (lv_at hl 3 rfl) ?_
          refine lv_iconst (v := (nI 0)) hx hb dX7_build_55 (by decide) ?_
          obtain ⟨hin, hf⟩ := zg_k hf
          refine va_iast hx hb hK hP (mw_D hAd) hS 27 0 (mw_a31 (S := S7)) rfl (inb_k hin) dX7_build_56 (fun H locs hP _ hS => ?_)
          have hP : va_P D vwCl (mw cyI cyJ cyZ bd (wi S7 31 (Int32.toNatClampNeg x8) (nI 0))) H := by rw [← mw_s31]; exact hP
          obtain ⟨S20, eS20, hf⟩ := zb_k hf
          rw [← eS20] at hP
          refine lv_aload_n hx hb dX7_build_57 rfl (lv_at hl 0 rfl) ?_
          refine va_get (D := D) (ci := 7) (v := .ref (bd 28)) (C := RX7) (T := TX7) (N := 48) hx hb hts hin7 hown hK hP 0 (mw_o (S := S20)) rfl 32 (by decide) hfl93 (fun _ h9 => h9) mw_f32 dX7_build_58 ?_
          refine lv_iload_n hx hb dX7_build_61 rfl (lv_at hl 3 rfl) ?_
          refine lv_iconst (v := (nI 0)) hx hb dX7_build_62 (by decide) ?_
          obtain ⟨hin, hf⟩ := zg_k hf
          refine va_iast hx hb hK hP (mw_D hAd) hS 28 0 (mw_a32 (S := S20)) rfl (inb_k hin) dX7_build_63 (fun H locs hP _ hS => ?_)
          have hP : va_P D vwCl (mw cyI cyJ cyZ bd (wi S20 32 (Int32.toNatClampNeg x8) (nI 0))) H := by rw [← mw_s32]; exact hP
          obtain ⟨S21, eS21, hf⟩ := zb_k hf
          rw [← eS21] at hP
          refine lv_aload_n hx hb dX7_build_64 rfl (lv_at hl 0 rfl) ?_
          refine va_get (D := D) (ci := 7) (v := .ref (bd 21)) (C := RX7) (T := TX7) (N := 48) hx hb hts hin7 hown hK hP 0 (mw_o (S := S21)) rfl 24 (by decide) hfl72 (fun _ h9 => h9) mw_f24 dX7_build_65 ?_
          refine lv_iload_n hx hb dX7_build_68 rfl (lv_at hl 3 rfl) ?_
          refine lv_iconst (v := (nI 0)) hx hb dX7_build_69 (by decide) ?_
          obtain ⟨hin, hf⟩ := zg_k hf
          refine va_zast hx hb hK hP (mw_D hAd) hS 21 2 (mw_a24 (S := S21)) rfl (inb_k hin) dX7_build_70 (fun H locs hP _ hS => ?_)
          have hP : va_P D vwCl (mw cyI cyJ cyZ bd (wi S21 24 (Int32.toNatClampNeg x8) (nI 0))) H := by rw [← mw_s24]; exact hP
          obtain ⟨S22, eS22, hf⟩ := zb_k hf
          rw [← eS22] at hP
          obtain ⟨x23, ex23, hf⟩ := zb_k hf
          refine lv_iinc (v := x23) (lv' := [(3, .int x23), (0, .ref (bd 0)), (1, .int p1), (2, .int p2)]) hx hb dX7_build_71 hl (k := 3) rfl (by rw [ex23]; rfl) (by decide) rfl (fun ls hl => ?_)
          refine lv_goto (tgt := 44) hx hb dX7_build_74 (by decide) ?_
          exact ih44 S22 x23 hf _ _ _ hP hS (lv_sub hl [1, 2, 3, 0] rfl)
      · have hf := ifn hf hc
        refine lv_aload_n hx hb dX7_build_29 rfl (lv_at hl 0 rfl) ?_
        refine va_get (D := D) (ci := 7) (v := .ref (bd 29)) (C := RX7) (T := TX7) (N := 48) hx hb hts hin7 hown hK hP 0 (mw_o (S := S5)) rfl 33 (by decide) hfl96 (fun _ h9 => h9) mw_f33 dX7_build_30 ?_
        refine lv_iload_n hx hb dX7_build_33 rfl (lv_at hl 3 rfl) ?_
        refine lv_iconst (v := (nI 0)) hx hb dX7_build_34 (by decide) ?_
        obtain ⟨hin, hf⟩ := zg_k hf
        refine va_iast hx hb hK hP (mw_D hAd) hS 29 0 (mw_a33 (S := S5)) rfl (inb_k hin) dX7_build_35 (fun H locs hP _ hS => ?_)
        have hP : va_P D vwCl (mw cyI cyJ cyZ bd (wi S5 33 (Int32.toNatClampNeg x6) (nI 0))) H := by rw [← mw_s33]; exact hP
        obtain ⟨S24, eS24, hf⟩ := zb_k hf
        rw [← eS24] at hP
        obtain ⟨x25, ex25, hf⟩ := zb_k hf
        refine lv_iinc (v := x25) (lv' := [(3, .int x25), (0, .ref (bd 0)), (1, .int p1), (2, .int p2)]) hx hb dX7_build_36 hl (k := 3) rfl (by rw [ex25]; rfl) (by decide) rfl (fun ls hl => ?_)
        refine lv_goto (tgt := 24) hx hb dX7_build_39 (by decide) ?_
        exact ih24 S24 x25 hf _ _ _ hP hS (lv_sub hl [1, 2, 3, 0] rfl)
    · have hf := ifp hf hc
      refine lv_iconst (v := (nI 0)) hx hb dX7_build_20 (by decide) ?_
      cases Option.some.inj hf
      exact fin_i hx hb hr hlk hS hP rfl dX7_build_21
  refine lv_if_eq (tgt := 13) hx hb dX7_build_6 (by decide) (fun hc => ?_) (fun hc => ?_)
  · have hf := ifp hf hc
    refine lv_iconst (v := (nI 1)) hx hb dX7_build_13 (by decide) ?_
    exact hJ14 (nI 1) hf _ _ _ hP hS (lv_sub hl [0, 1, 2] rfl)
  · have hf := ifn hf hc
    refine lv_iconst (v := (nI 0)) hx hb dX7_build_9 (by decide) ?_
    refine lv_goto (tgt := 14) hx hb dX7_build_10 (by decide) ?_
    exact hJ14 (nI 0) hf _ _ _ hP hS (lv_sub hl [0, 1, 2] rfl)
set_option maxHeartbeats 4000000 in
set_option maxRecDepth 100000 in
theorem c_X7_checks {l : Launch} {D : va_G} {cyI cyJ cyZ : ClassId} {bd : Nat → Nat}  (hAd : AdOK 41 bd)  {S : St} {p1 : Int32} {r : Int32} {SZ : St} (hf : m_X7_checks S p1 = some (r, SZ)) : Met l yX7_checks wsX7_checks rl_X7_checks (PreW D [(cyI, .int), (cyJ, .long), (cyZ, .boolean)] (mw cyI cyJ cyZ bd S) [.ref (bd 0), .int p1]) (PoI D (mw cyI cyJ cyZ bd SZ) (MA bd) r) 0 0 (MA bd) := by
  refine met_go (cc := cX7_checks) (maxL := 3) (ret := (some .boolean)) (by decide) rfl (Nat.le_of_ble_eq_true rfl) ?_
  intro p e s m args below meth c ls hx hb hr hml hts hown hlk hP hK hN hl
  have hown : s.vm.findClass RX7 = some m.cls := hown
  have hS : va_S (MA bd) s.heap s.heap [] := va_S.rf
  have hl : lv_has ls 3 [(0, .ref (bd 0)), (1, .int p1)] := hl
  have hin7 : ∀ w ∈ wsX70, w ∈ wsX7_checks := by decide +kernel
  have hfl132 := hts (.fieldLink RX7 132 "MakewheelModel" "thrown" "I") (by decide +kernel)
  have hfl147 := hts (.fieldLink RX7 147 "MakewheelModel" "isChecked" "Z") (by decide +kernel)
  unfold m_X7_checks at hf
  refine lv_aload_n hx hb dX7_checks_0 rfl (lv_at hl 0 rfl) ?_
  refine lv_iconst (v := (nI 0)) hx hb dX7_checks_1 (by decide) ?_
  refine va_put (D := D) (ci := 7) (v := .int (nI 0)) (ty := .int) (C := RX7) (T := TX7) (N := 48) hx hb hts hin7 tyX7 tyX7_ok nmX7 hown hK hP (mw_D hAd) hS 0 (mw_o (S := S)) rfl 47 (by decide) hfl132 (fun _ h9 => h9) rfl (by decide +kernel) rfl rfl (Nat.le_of_ble_eq_true rfl) dX7_checks_2 (fun H locs hP _ hS => ?_)
  have hP : va_P D vwCl (mw cyI cyJ cyZ bd (wi S 47 0 (nI 0))) H := by rw [← mw_s47]; exact hP
  obtain ⟨S1, eS1, hf⟩ := zb_k hf
  rw [← eS1] at hP
  refine lv_aload_n hx hb dX7_checks_5 rfl (lv_at hl 0 rfl) ?_
  refine va_get (D := D) (ci := 7) (v := .int (S1.1 12 0)) (C := RX7) (T := TX7) (N := 48) hx hb hts hin7 hown hK hP 0 (mw_o (S := S1)) rfl 12 (by decide) hfl147 (fun _ h9 => h9) mw_f12 dX7_checks_6 ?_
  refine lv_topi (fun x2 ex2 => ?_)
  have hf := zb_x hf ex2
  refine lv_istore_n (lv' := [(2, .int x2), (0, .ref (bd 0)), (1, .int p1)]) hx hb dX7_checks_9 rfl hl (by decide) rfl (fun ls hl => ?_)
  refine lv_aload_n hx hb dX7_checks_10 rfl (lv_at hl 1 rfl) ?_
  refine lv_iload_n hx hb dX7_checks_11 rfl (lv_at hl 2 rfl) ?_
  obtain ⟨hbz, hf⟩ := zg_k hf
  refine va_put (D := D) (ci := 7) (v := .int p1) (ty := .boolean) (C := RX7) (T := TX7) (N := 48) hx hb hts hin7 tyX7 tyX7_ok nmX7 hown hK hP (mw_D hAd) hS 0 (mw_o (S := S1)) rfl 12 (by decide) hfl147 (fun _ h9 => h9) rfl (by decide +kernel) (bz_n hbz) (bz_f hbz) (Nat.le_of_ble_eq_true rfl) dX7_checks_12 (fun H locs hP _ hS => ?_)
  have hP : va_P D vwCl (mw cyI cyJ cyZ bd (wi S1 12 0 p1)) H := by rw [← mw_s12]; exact hP
  obtain ⟨S3, eS3, hf⟩ := zb_k hf
  rw [← eS3] at hP
  refine lv_iload_n hx hb dX7_checks_15 rfl (lv_at hl 0 rfl) ?_
  obtain ⟨hbz, hf⟩ := zg_k hf
  cases Option.some.inj hf
  exact fin_z hx hb hr hlk hS hP (bz_n hbz) rfl dX7_checks_16
set_option maxHeartbeats 4000000 in
set_option maxRecDepth 100000 in
theorem c_X7_counts {l : Launch} {D : va_G} {cyI cyJ cyZ : ClassId} {bd : Nat → Nat}  (hAd : AdOK 41 bd)  {S : St} {p1 : Int32} {r : Int32} {SZ : St} (hf : m_X7_counts S p1 = some (r, SZ)) : Met l yX7_counts wsX7_counts rl_X7_counts (PreW D [(cyI, .int), (cyJ, .long), (cyZ, .boolean)] (mw cyI cyJ cyZ bd S) [.ref (bd 0), .int p1]) (PoI D (mw cyI cyJ cyZ bd SZ) (MA bd) r) 0 0 (MA bd) := by
  refine met_go (cc := cX7_counts) (maxL := 2) (ret := (some .int)) (by decide) rfl (Nat.le_of_ble_eq_true rfl) ?_
  intro p e s m args below meth c ls hx hb hr hml hts hown hlk hP hK hN hl
  have hown : s.vm.findClass RX7 = some m.cls := hown
  have hS : va_S (MA bd) s.heap s.heap [] := va_S.rf
  have hl : lv_has ls 2 [(0, .ref (bd 0)), (1, .int p1)] := hl
  have hin7 : ∀ w ∈ wsX70, w ∈ wsX7_counts := by decide +kernel
  have hfl96 := hts (.fieldLink RX7 96 "MakewheelModel" "counted" "[I") (by decide +kernel)
  unfold m_X7_counts at hf
  refine lv_aload_n hx hb dX7_counts_0 rfl (lv_at hl 0 rfl) ?_
  refine lv_iload_n hx hb dX7_counts_1 rfl (lv_at hl 1 rfl) ?_
  refine lv_iconst (v := (nI 0)) hx hb dX7_counts_2 (by decide) ?_
  refine lv_iconst (v := (nI 3)) hx hb dX7_counts_3 (by decide) ?_
  obtain ⟨x1, hc4, hf⟩ := zo_k hf
  refine cal_i (rnS (As := [.int p1, .int (nI 0), .int (nI 3)]) (rest := [.ref (bd 0)]) ⟨hx, hb, hml, hown, hts⟩ (c_X7_isIn hAd  hc4) (va_cwS 3 hts gX7_counts_X7_isIn rfl rfl rfl cdS_X7_isIn ⟨Nat.le_of_ble_eq_true rfl, Nat.le_of_ble_eq_true rfl⟩) hP hK hN rfl hl.1 rfl (Nat.le_of_ble_eq_true rfl) dX7_counts_4 ⟨Nat.zero_le _, Nat.zero_le _⟩) hS (fun H locs hP hS => ?_)
  refine lv_if_eq (tgt := 14) hx hb dX7_counts_7 (by decide) (fun hc => ?_) (fun hc => ?_)
  · have hf := ifp hf hc
    refine lv_iconst (v := (nI 1)) hx hb dX7_counts_14 (by decide) ?_
    obtain ⟨x2, S3, hc15, hf⟩ := zo2_k hf
    refine cal_i (rnV (As := [.int (nI 1)]) (rest := []) ⟨hx, hb, hml, hown, hts⟩ (c_X7_goes hAd  hc15) (cwV 1 hts gX7_counts_X7_goes rfl rfl rfl cdV_X7_goes ⟨Nat.le_of_ble_eq_true rfl, Nat.le_of_ble_eq_true rfl⟩) hP hK hN (mw_o (S := S)) rfl rfl hl.1 rfl (Nat.le_of_ble_eq_true rfl) dX7_counts_15 ⟨Nat.zero_le _, Nat.zero_le _⟩) hS (fun H locs hP hS => ?_)
    refine lv_if_eq (tgt := 30) hx hb dX7_counts_18 (by decide) (fun hc => ?_) (fun hc => ?_)
    · have hf := ifp hf hc
      refine lv_iconst (v := (nI 0)) hx hb dX7_counts_30 (by decide) ?_
      cases Option.some.inj hf
      exact fin_i hx hb hr hlk hS hP rfl dX7_counts_31
    · have hf := ifn hf hc
      refine lv_aload_n hx hb dX7_counts_21 rfl (lv_at hl 0 rfl) ?_
      refine va_get (D := D) (ci := 7) (v := .ref (bd 29)) (C := RX7) (T := TX7) (N := 48) hx hb hts hin7 hown hK hP 0 (mw_o (S := S3)) rfl 33 (by decide) hfl96 (fun _ h9 => h9) mw_f33 dX7_counts_22 ?_
      refine lv_iload_n hx hb dX7_counts_25 rfl (lv_at hl 1 rfl) ?_
      obtain ⟨hin, hf⟩ := zg_k hf
      refine va_iald hx hb hK hP 29 0 (mw_a33 (S := S3)) rfl (inb_k hin) dX7_counts_26 ?_
      refine lv_goto (tgt := 31) hx hb dX7_counts_27 (by decide) ?_
      cases Option.some.inj hf
      exact fin_i hx hb hr hlk hS hP rfl dX7_counts_31
  · have hf := ifn hf hc
    refine lv_iconst (v := (nI 0)) hx hb dX7_counts_10 (by decide) ?_
    refine lv_goto (tgt := 15) hx hb dX7_counts_11 (by decide) ?_
    obtain ⟨x4, S5, hc15, hf⟩ := zo2_k hf
    refine cal_i (rnV (As := [.int (nI 0)]) (rest := []) ⟨hx, hb, hml, hown, hts⟩ (c_X7_goes hAd  hc15) (cwV 1 hts gX7_counts_X7_goes rfl rfl rfl cdV_X7_goes ⟨Nat.le_of_ble_eq_true rfl, Nat.le_of_ble_eq_true rfl⟩) hP hK hN (mw_o (S := S)) rfl rfl hl.1 rfl (Nat.le_of_ble_eq_true rfl) dX7_counts_15 ⟨Nat.zero_le _, Nat.zero_le _⟩) hS (fun H locs hP hS => ?_)
    refine lv_if_eq (tgt := 30) hx hb dX7_counts_18 (by decide) (fun hc => ?_) (fun hc => ?_)
    · have hf := ifp hf hc
      refine lv_iconst (v := (nI 0)) hx hb dX7_counts_30 (by decide) ?_
      cases Option.some.inj hf
      exact fin_i hx hb hr hlk hS hP rfl dX7_counts_31
    · have hf := ifn hf hc
      refine lv_aload_n hx hb dX7_counts_21 rfl (lv_at hl 0 rfl) ?_
      refine va_get (D := D) (ci := 7) (v := .ref (bd 29)) (C := RX7) (T := TX7) (N := 48) hx hb hts hin7 hown hK hP 0 (mw_o (S := S5)) rfl 33 (by decide) hfl96 (fun _ h9 => h9) mw_f33 dX7_counts_22 ?_
      refine lv_iload_n hx hb dX7_counts_25 rfl (lv_at hl 1 rfl) ?_
      obtain ⟨hin, hf⟩ := zg_k hf
      refine va_iald hx hb hK hP 29 0 (mw_a33 (S := S5)) rfl (inb_k hin) dX7_counts_26 ?_
      refine lv_goto (tgt := 31) hx hb dX7_counts_27 (by decide) ?_
      cases Option.some.inj hf
      exact fin_i hx hb hr hlk hS hP rfl dX7_counts_31
set_option maxHeartbeats 4000000 in
set_option maxRecDepth 100000 in
theorem c_X7_done {l : Launch} {D : va_G} {cyI cyJ cyZ : ClassId} {bd : Nat → Nat}  (hAd : AdOK 41 bd)  {S : St} {p1 : Int32} {p2 : Int32} {r : Int32} {SZ : St} (hf : m_X7_done S p1 p2 = some (r, SZ)) : Met l yX7_done wsX7_done rl_X7_done (PreW D [(cyI, .int), (cyJ, .long), (cyZ, .boolean)] (mw cyI cyJ cyZ bd S) [.ref (bd 0), .int p1, .int p2]) (PoI D (mw cyI cyJ cyZ bd SZ) (MA bd) r) 0 0 (MA bd) := by
  refine met_go (cc := cX7_done) (maxL := 3) (ret := (some .int)) (by decide) rfl (Nat.le_of_ble_eq_true rfl) ?_
  intro p e s m args below meth c ls hx hb hr hml hts hown hlk hP hK hN hl
  have hown : s.vm.findClass RX7 = some m.cls := hown
  have hS : va_S (MA bd) s.heap s.heap [] := va_S.rf
  have hl : lv_has ls 3 [(0, .ref (bd 0)), (1, .int p1), (2, .int p2)] := hl
  have hin7 : ∀ w ∈ wsX70, w ∈ wsX7_done := by decide +kernel
  have hfl90 := hts (.fieldLink RX7 90 "MakewheelModel" "dones" "[I") (by decide +kernel)
  unfold m_X7_done at hf
  refine lv_aload_n hx hb dX7_done_0 rfl (lv_at hl 0 rfl) ?_
  refine lv_iload_n hx hb dX7_done_1 rfl (lv_at hl 1 rfl) ?_
  refine lv_iload_n hx hb dX7_done_2 rfl (lv_at hl 2 rfl) ?_
  obtain ⟨x1, hc3, hf⟩ := zo_k hf
  refine cal_i (rnS (As := [.int p1, .int p2]) (rest := [.ref (bd 0)]) ⟨hx, hb, hml, hown, hts⟩ (c_X7_isNode hAd  hc3) (va_cwS 2 hts gX7_done_X7_isNode rfl rfl rfl cdS_X7_isNode ⟨Nat.le_of_ble_eq_true rfl, Nat.le_of_ble_eq_true rfl⟩) hP hK hN rfl hl.1 rfl (Nat.le_of_ble_eq_true rfl) dX7_done_3 ⟨Nat.zero_le _, Nat.zero_le _⟩) hS (fun H locs hP hS => ?_)
  refine lv_if_eq (tgt := 13) hx hb dX7_done_6 (by decide) (fun hc => ?_) (fun hc => ?_)
  · have hf := ifp hf hc
    refine lv_iconst (v := (nI 1)) hx hb dX7_done_13 (by decide) ?_
    obtain ⟨x2, S3, hc14, hf⟩ := zo2_k hf
    refine cal_i (rnV (As := [.int (nI 1)]) (rest := []) ⟨hx, hb, hml, hown, hts⟩ (c_X7_goes hAd  hc14) (cwV 1 hts gX7_done_X7_goes rfl rfl rfl cdV_X7_goes ⟨Nat.le_of_ble_eq_true rfl, Nat.le_of_ble_eq_true rfl⟩) hP hK hN (mw_o (S := S)) rfl rfl hl.1 rfl (Nat.le_of_ble_eq_true rfl) dX7_done_14 ⟨Nat.zero_le _, Nat.zero_le _⟩) hS (fun H locs hP hS => ?_)
    refine lv_if_eq (tgt := 33) hx hb dX7_done_17 (by decide) (fun hc => ?_) (fun hc => ?_)
    · have hf := ifp hf hc
      refine lv_iconst (v := (nI 0)) hx hb dX7_done_33 (by decide) ?_
      cases Option.some.inj hf
      exact fin_i hx hb hr hlk hS hP rfl dX7_done_34
    · have hf := ifn hf hc
      refine lv_aload_n hx hb dX7_done_20 rfl (lv_at hl 0 rfl) ?_
      refine va_get (D := D) (ci := 7) (v := .ref (bd 27)) (C := RX7) (T := TX7) (N := 48) hx hb hts hin7 hown hK hP 0 (mw_o (S := S3)) rfl 31 (by decide) hfl90 (fun _ h9 => h9) mw_f31 dX7_done_21 ?_
      refine lv_iconst (v := (nI 2)) hx hb dX7_done_24 (by decide) ?_
      refine lv_iload_n hx hb dX7_done_25 rfl (lv_at hl 1 rfl) ?_
      refine lv_imul hx hb dX7_done_26 ?_
      refine lv_iload_n hx hb dX7_done_27 rfl (lv_at hl 2 rfl) ?_
      refine lv_iadd hx hb dX7_done_28 ?_
      obtain ⟨hin, hf⟩ := zg_k hf
      refine va_iald hx hb hK hP 27 0 (mw_a31 (S := S3)) rfl (inb_k hin) dX7_done_29 ?_
      refine lv_goto (tgt := 34) hx hb dX7_done_30 (by decide) ?_
      cases Option.some.inj hf
      exact fin_i hx hb hr hlk hS hP rfl dX7_done_34
  · have hf := ifn hf hc
    refine lv_iconst (v := (nI 0)) hx hb dX7_done_9 (by decide) ?_
    refine lv_goto (tgt := 14) hx hb dX7_done_10 (by decide) ?_
    obtain ⟨x4, S5, hc14, hf⟩ := zo2_k hf
    refine cal_i (rnV (As := [.int (nI 0)]) (rest := []) ⟨hx, hb, hml, hown, hts⟩ (c_X7_goes hAd  hc14) (cwV 1 hts gX7_done_X7_goes rfl rfl rfl cdV_X7_goes ⟨Nat.le_of_ble_eq_true rfl, Nat.le_of_ble_eq_true rfl⟩) hP hK hN (mw_o (S := S)) rfl rfl hl.1 rfl (Nat.le_of_ble_eq_true rfl) dX7_done_14 ⟨Nat.zero_le _, Nat.zero_le _⟩) hS (fun H locs hP hS => ?_)
    refine lv_if_eq (tgt := 33) hx hb dX7_done_17 (by decide) (fun hc => ?_) (fun hc => ?_)
    · have hf := ifp hf hc
      refine lv_iconst (v := (nI 0)) hx hb dX7_done_33 (by decide) ?_
      cases Option.some.inj hf
      exact fin_i hx hb hr hlk hS hP rfl dX7_done_34
    · have hf := ifn hf hc
      refine lv_aload_n hx hb dX7_done_20 rfl (lv_at hl 0 rfl) ?_
      refine va_get (D := D) (ci := 7) (v := .ref (bd 27)) (C := RX7) (T := TX7) (N := 48) hx hb hts hin7 hown hK hP 0 (mw_o (S := S5)) rfl 31 (by decide) hfl90 (fun _ h9 => h9) mw_f31 dX7_done_21 ?_
      refine lv_iconst (v := (nI 2)) hx hb dX7_done_24 (by decide) ?_
      refine lv_iload_n hx hb dX7_done_25 rfl (lv_at hl 1 rfl) ?_
      refine lv_imul hx hb dX7_done_26 ?_
      refine lv_iload_n hx hb dX7_done_27 rfl (lv_at hl 2 rfl) ?_
      refine lv_iadd hx hb dX7_done_28 ?_
      obtain ⟨hin, hf⟩ := zg_k hf
      refine va_iald hx hb hK hP 27 0 (mw_a31 (S := S5)) rfl (inb_k hin) dX7_done_29 ?_
      refine lv_goto (tgt := 34) hx hb dX7_done_30 (by decide) ?_
      cases Option.some.inj hf
      exact fin_i hx hb hr hlk hS hP rfl dX7_done_34
set_option maxHeartbeats 4000000 in
set_option maxRecDepth 100000 in
theorem c_X7_empty {l : Launch} {D : va_G} {cyI cyJ cyZ : ClassId} {bd : Nat → Nat}  (hAd : AdOK 41 bd)  {S : St}  {r : Int32} {SZ : St} (hf : m_X7_empty S = some (r, SZ)) : Met l yX7_empty wsX7_empty rl_X7_empty (PreW D [(cyI, .int), (cyJ, .long), (cyZ, .boolean)] (mw cyI cyJ cyZ bd S) [.ref (bd 0)]) (PoI D (mw cyI cyJ cyZ bd SZ) (MA bd) r) 0 0 (MA bd) := by
  refine met_go (cc := cX7_empty) (maxL := 2) (ret := (some .int)) (by decide) rfl (Nat.le_of_ble_eq_true rfl) ?_
  intro p e s m args below meth c ls hx hb hr hml hts hown hlk hP hK hN hl
  have hown : s.vm.findClass RX7 = some m.cls := hown
  have hS : va_S (MA bd) s.heap s.heap [] := va_S.rf
  have hl : lv_has ls 2 [(0, .ref (bd 0))] := hl
  have hin7 : ∀ w ∈ wsX70, w ∈ wsX7_empty := by decide +kernel
  have hfl132 := hts (.fieldLink RX7 132 "MakewheelModel" "thrown" "I") (by decide +kernel)
  have hfl154 := hts (.fieldLink RX7 154 "MakewheelModel" "entries" "I") (by decide +kernel)
  unfold m_X7_empty at hf
  refine lv_aload_n hx hb dX7_empty_0 rfl (lv_at hl 0 rfl) ?_
  refine lv_iconst (v := (nI 0)) hx hb dX7_empty_1 (by decide) ?_
  refine va_put (D := D) (ci := 7) (v := .int (nI 0)) (ty := .int) (C := RX7) (T := TX7) (N := 48) hx hb hts hin7 tyX7 tyX7_ok nmX7 hown hK hP (mw_D hAd) hS 0 (mw_o (S := S)) rfl 47 (by decide) hfl132 (fun _ h9 => h9) rfl (by decide +kernel) rfl rfl (Nat.le_of_ble_eq_true rfl) dX7_empty_2 (fun H locs hP _ hS => ?_)
  have hP : va_P D vwCl (mw cyI cyJ cyZ bd (wi S 47 0 (nI 0))) H := by rw [← mw_s47]; exact hP
  obtain ⟨S1, eS1, hf⟩ := zb_k hf
  rw [← eS1] at hP
  refine lv_aload_n hx hb dX7_empty_5 rfl (lv_at hl 0 rfl) ?_
  refine va_get (D := D) (ci := 7) (v := .int (S1.1 25 0)) (C := RX7) (T := TX7) (N := 48) hx hb hts hin7 hown hK hP 0 (mw_o (S := S1)) rfl 25 (by decide) hfl154 (fun _ h9 => h9) mw_f25 dX7_empty_6 ?_
  refine lv_topi (fun x2 ex2 => ?_)
  have hf := zb_x hf ex2
  refine lv_istore_n (lv' := [(1, .int x2), (0, .ref (bd 0))]) hx hb dX7_empty_9 rfl hl (by decide) rfl (fun ls hl => ?_)
  refine lv_aload_n hx hb dX7_empty_10 rfl (lv_at hl 1 rfl) ?_
  refine lv_iconst (v := (nI 0)) hx hb dX7_empty_11 (by decide) ?_
  refine va_put (D := D) (ci := 7) (v := .int (nI 0)) (ty := .int) (C := RX7) (T := TX7) (N := 48) hx hb hts hin7 tyX7 tyX7_ok nmX7 hown hK hP (mw_D hAd) hS 0 (mw_o (S := S1)) rfl 25 (by decide) hfl154 (fun _ h9 => h9) rfl (by decide +kernel) rfl rfl (Nat.le_of_ble_eq_true rfl) dX7_empty_12 (fun H locs hP _ hS => ?_)
  have hP : va_P D vwCl (mw cyI cyJ cyZ bd (wi S1 25 0 (nI 0))) H := by rw [← mw_s25]; exact hP
  obtain ⟨S3, eS3, hf⟩ := zb_k hf
  rw [← eS3] at hP
  refine lv_iload_n hx hb dX7_empty_15 rfl (lv_at hl 0 rfl) ?_
  cases Option.some.inj hf
  exact fin_i hx hb hr hlk hS hP rfl dX7_empty_16
set_option maxHeartbeats 4000000 in
set_option maxRecDepth 100000 in
theorem c_X7_entries {l : Launch} {D : va_G} {cyI cyJ cyZ : ClassId} {bd : Nat → Nat}  (hAd : AdOK 41 bd)  {S : St}  {r : Int32} {SZ : St} (hf : m_X7_entries S = some (r, SZ)) : Met l yX7_entries wsX7_entries rl_X7_entries (PreW D [(cyI, .int), (cyJ, .long), (cyZ, .boolean)] (mw cyI cyJ cyZ bd S) [.ref (bd 0)]) (PoI D (mw cyI cyJ cyZ bd SZ) (MA bd) r) 0 0 (MA bd) := by
  refine met_go (cc := cX7_entries) (maxL := 1) (ret := (some .int)) (by decide) rfl (Nat.le_of_ble_eq_true rfl) ?_
  intro p e s m args below meth c ls hx hb hr hml hts hown hlk hP hK hN hl
  have hown : s.vm.findClass RX7 = some m.cls := hown
  have hS : va_S (MA bd) s.heap s.heap [] := va_S.rf
  have hl : lv_has ls 1 [(0, .ref (bd 0))] := hl
  have hin7 : ∀ w ∈ wsX70, w ∈ wsX7_entries := by decide +kernel
  have hfl132 := hts (.fieldLink RX7 132 "MakewheelModel" "thrown" "I") (by decide +kernel)
  have hfl154 := hts (.fieldLink RX7 154 "MakewheelModel" "entries" "I") (by decide +kernel)
  unfold m_X7_entries at hf
  refine lv_aload_n hx hb dX7_entries_0 rfl (lv_at hl 0 rfl) ?_
  refine lv_iconst (v := (nI 0)) hx hb dX7_entries_1 (by decide) ?_
  refine va_put (D := D) (ci := 7) (v := .int (nI 0)) (ty := .int) (C := RX7) (T := TX7) (N := 48) hx hb hts hin7 tyX7 tyX7_ok nmX7 hown hK hP (mw_D hAd) hS 0 (mw_o (S := S)) rfl 47 (by decide) hfl132 (fun _ h9 => h9) rfl (by decide +kernel) rfl rfl (Nat.le_of_ble_eq_true rfl) dX7_entries_2 (fun H locs hP _ hS => ?_)
  have hP : va_P D vwCl (mw cyI cyJ cyZ bd (wi S 47 0 (nI 0))) H := by rw [← mw_s47]; exact hP
  obtain ⟨S1, eS1, hf⟩ := zb_k hf
  rw [← eS1] at hP
  refine lv_aload_n hx hb dX7_entries_5 rfl (lv_at hl 0 rfl) ?_
  refine va_get (D := D) (ci := 7) (v := .int (S1.1 25 0)) (C := RX7) (T := TX7) (N := 48) hx hb hts hin7 hown hK hP 0 (mw_o (S := S1)) rfl 25 (by decide) hfl154 (fun _ h9 => h9) mw_f25 dX7_entries_6 ?_
  cases Option.some.inj hf
  exact fin_i hx hb hr hlk hS hP rfl dX7_entries_9
set_option maxHeartbeats 4000000 in
set_option maxRecDepth 100000 in
theorem c_X7_fails {l : Launch} {D : va_G} {cyI cyJ cyZ : ClassId} {bd : Nat → Nat}  (hAd : AdOK 41 bd)  {S : St} {p1 : Int32} {p2 : Int32} {r : Int32} {SZ : St} (hf : m_X7_fails S p1 p2 = some (r, SZ)) : Met l yX7_fails wsX7_fails rl_X7_fails (PreW D [(cyI, .int), (cyJ, .long), (cyZ, .boolean)] (mw cyI cyJ cyZ bd S) [.ref (bd 0), .int p1, .int p2]) (PoI D (mw cyI cyJ cyZ bd SZ) (MA bd) r) 0 0 (MA bd) := by
  refine met_go (cc := cX7_fails) (maxL := 4) (ret := (some .int)) (by decide) rfl (Nat.le_of_ble_eq_true rfl) ?_
  intro p e s m args below meth c ls hx hb hr hml hts hown hlk hP hK hN hl
  have hown : s.vm.findClass RX7 = some m.cls := hown
  have hS : va_S (MA bd) s.heap s.heap [] := va_S.rf
  have hl : lv_has ls 4 [(0, .ref (bd 0)), (1, .int p1), (2, .int p2)] := hl
  have hin7 : ∀ w ∈ wsX70, w ∈ wsX7_fails := by decide +kernel
  have hfl34 := hts (.fieldLink RX7 34 "MakewheelModel" "toFail" "[I") (by decide +kernel)
  unfold m_X7_fails at hf
  refine lv_aload_n hx hb dX7_fails_0 rfl (lv_at hl 0 rfl) ?_
  refine lv_iload_n hx hb dX7_fails_1 rfl (lv_at hl 1 rfl) ?_
  obtain ⟨x1, hc2, hf⟩ := zo_k hf
  refine cal_i (rnS (As := [.int p1]) (rest := [.ref (bd 0)]) ⟨hx, hb, hml, hown, hts⟩ (c_X7_isTarget hAd  hc2) (va_cwS 1 hts gX7_fails_X7_isTarget rfl rfl rfl cdS_X7_isTarget ⟨Nat.le_of_ble_eq_true rfl, Nat.le_of_ble_eq_true rfl⟩) hP hK hN rfl hl.1 rfl (Nat.le_of_ble_eq_true rfl) dX7_fails_2 ⟨Nat.zero_le _, Nat.zero_le _⟩) hS (fun H locs hP hS => ?_)
  refine lv_if_ne (tgt := 12) hx hb dX7_fails_5 (by decide) (fun hc => ?_) (fun hc => ?_)
  · have hf := ifn hf hc
    refine lv_iload_n hx hb dX7_fails_12 rfl (lv_at hl 2 rfl) ?_
    refine lv_iconst (v := (nI 0)) hx hb dX7_fails_13 (by decide) ?_
    refine lv_bipush (v := (nI 20)) hx hb dX7_fails_14 (by decide) ?_
    obtain ⟨x2, hc16, hf⟩ := zo_k hf
    refine cal_i (rnS (As := [.int p2, .int (nI 0), .int (nI 20)]) (rest := [.ref (bd 0)]) ⟨hx, hb, hml, hown, hts⟩ (c_X7_isIn hAd  hc16) (va_cwS 3 hts gX7_fails_X7_isIn rfl rfl rfl cdS_X7_isIn ⟨Nat.le_of_ble_eq_true rfl, Nat.le_of_ble_eq_true rfl⟩) hP hK hN rfl hl.1 rfl (Nat.le_of_ble_eq_true rfl) dX7_fails_16 ⟨Nat.zero_le _, Nat.zero_le _⟩) hS (fun H locs hP hS => ?_)
    refine lv_if_eq (tgt := 26) hx hb dX7_fails_19 (by decide) (fun hc => ?_) (fun hc => ?_)
    · have hf := ifp hf hc
      refine lv_iconst (v := (nI 2)) hx hb dX7_fails_26 (by decide) ?_
      obtain ⟨x3, S4, hc27, hf⟩ := zo2_k hf
      refine cal_i (rnV (As := [.int (nI 2)]) (rest := []) ⟨hx, hb, hml, hown, hts⟩ (c_X7_goes hAd  hc27) (cwV 1 hts gX7_fails_X7_goes rfl rfl rfl cdV_X7_goes ⟨Nat.le_of_ble_eq_true rfl, Nat.le_of_ble_eq_true rfl⟩) hP hK hN (mw_o (S := S)) rfl rfl hl.1 rfl (Nat.le_of_ble_eq_true rfl) dX7_fails_27 ⟨Nat.zero_le _, Nat.zero_le _⟩) hS (fun H locs hP hS => ?_)
      refine lv_if_ne (tgt := 35) hx hb dX7_fails_30 (by decide) (fun hc => ?_) (fun hc => ?_)
      · have hf := ifn hf hc
        refine lv_aload_n hx hb dX7_fails_35 rfl (lv_at hl 0 rfl) ?_
        refine va_get (D := D) (ci := 7) (v := .ref (bd 9)) (C := RX7) (T := TX7) (N := 48) hx hb hts hin7 hown hK hP 0 (mw_o (S := S4)) rfl 8 (by decide) hfl34 (fun _ h9 => h9) mw_f8 dX7_fails_36 ?_
        refine lv_iload_n hx hb dX7_fails_39 rfl (lv_at hl 1 rfl) ?_
        obtain ⟨hin, hf⟩ := zg_k hf
        refine va_iald hx hb hK hP 9 0 (mw_a8 (S := S4)) rfl (inb_k hin) dX7_fails_40 ?_
        refine lv_topi (fun x5 ex5 => ?_)
        have hf := zb_x hf ex5
        refine lv_istore_n (lv' := [(3, .int x5), (0, .ref (bd 0)), (1, .int p1), (2, .int p2)]) hx hb dX7_fails_41 rfl hl (by decide) rfl (fun ls hl => ?_)
        refine lv_aload_n hx hb dX7_fails_42 rfl (lv_at hl 1 rfl) ?_
        refine va_get (D := D) (ci := 7) (v := .ref (bd 9)) (C := RX7) (T := TX7) (N := 48) hx hb hts hin7 hown hK hP 0 (mw_o (S := S4)) rfl 8 (by decide) hfl34 (fun _ h9 => h9) mw_f8 dX7_fails_43 ?_
        refine lv_iload_n hx hb dX7_fails_46 rfl (lv_at hl 2 rfl) ?_
        refine lv_iload_n hx hb dX7_fails_47 rfl (lv_at hl 3 rfl) ?_
        obtain ⟨hin, hf⟩ := zg_k hf
        refine va_iast hx hb hK hP (mw_D hAd) hS 9 0 (mw_a8 (S := S4)) rfl (inb_k hin) dX7_fails_48 (fun H locs hP _ hS => ?_)
        have hP : va_P D vwCl (mw cyI cyJ cyZ bd (wi S4 8 (Int32.toNatClampNeg p1) p2)) H := by rw [← mw_s8]; exact hP
        obtain ⟨S6, eS6, hf⟩ := zb_k hf
        rw [← eS6] at hP
        refine lv_iload_n hx hb dX7_fails_49 rfl (lv_at hl 0 rfl) ?_
        cases Option.some.inj hf
        exact fin_i hx hb hr hlk hS hP rfl dX7_fails_50
      · have hf := ifp hf hc
        refine lv_iconst (v := (nI 0)) hx hb dX7_fails_33 (by decide) ?_
        cases Option.some.inj hf
        exact fin_i hx hb hr hlk hS hP rfl dX7_fails_34
    · have hf := ifn hf hc
      refine lv_iconst (v := (nI 0)) hx hb dX7_fails_22 (by decide) ?_
      refine lv_goto (tgt := 27) hx hb dX7_fails_23 (by decide) ?_
      obtain ⟨x7, S8, hc27, hf⟩ := zo2_k hf
      refine cal_i (rnV (As := [.int (nI 0)]) (rest := []) ⟨hx, hb, hml, hown, hts⟩ (c_X7_goes hAd  hc27) (cwV 1 hts gX7_fails_X7_goes rfl rfl rfl cdV_X7_goes ⟨Nat.le_of_ble_eq_true rfl, Nat.le_of_ble_eq_true rfl⟩) hP hK hN (mw_o (S := S)) rfl rfl hl.1 rfl (Nat.le_of_ble_eq_true rfl) dX7_fails_27 ⟨Nat.zero_le _, Nat.zero_le _⟩) hS (fun H locs hP hS => ?_)
      refine lv_if_ne (tgt := 35) hx hb dX7_fails_30 (by decide) (fun hc => ?_) (fun hc => ?_)
      · have hf := ifn hf hc
        refine lv_aload_n hx hb dX7_fails_35 rfl (lv_at hl 0 rfl) ?_
        refine va_get (D := D) (ci := 7) (v := .ref (bd 9)) (C := RX7) (T := TX7) (N := 48) hx hb hts hin7 hown hK hP 0 (mw_o (S := S8)) rfl 8 (by decide) hfl34 (fun _ h9 => h9) mw_f8 dX7_fails_36 ?_
        refine lv_iload_n hx hb dX7_fails_39 rfl (lv_at hl 1 rfl) ?_
        obtain ⟨hin, hf⟩ := zg_k hf
        refine va_iald hx hb hK hP 9 0 (mw_a8 (S := S8)) rfl (inb_k hin) dX7_fails_40 ?_
        refine lv_topi (fun x9 ex9 => ?_)
        have hf := zb_x hf ex9
        refine lv_istore_n (lv' := [(3, .int x9), (0, .ref (bd 0)), (1, .int p1), (2, .int p2)]) hx hb dX7_fails_41 rfl hl (by decide) rfl (fun ls hl => ?_)
        refine lv_aload_n hx hb dX7_fails_42 rfl (lv_at hl 1 rfl) ?_
        refine va_get (D := D) (ci := 7) (v := .ref (bd 9)) (C := RX7) (T := TX7) (N := 48) hx hb hts hin7 hown hK hP 0 (mw_o (S := S8)) rfl 8 (by decide) hfl34 (fun _ h9 => h9) mw_f8 dX7_fails_43 ?_
        refine lv_iload_n hx hb dX7_fails_46 rfl (lv_at hl 2 rfl) ?_
        refine lv_iload_n hx hb dX7_fails_47 rfl (lv_at hl 3 rfl) ?_
        obtain ⟨hin, hf⟩ := zg_k hf
        refine va_iast hx hb hK hP (mw_D hAd) hS 9 0 (mw_a8 (S := S8)) rfl (inb_k hin) dX7_fails_48 (fun H locs hP _ hS => ?_)
        have hP : va_P D vwCl (mw cyI cyJ cyZ bd (wi S8 8 (Int32.toNatClampNeg p1) p2)) H := by rw [← mw_s8]; exact hP
        obtain ⟨S10, eS10, hf⟩ := zb_k hf
        rw [← eS10] at hP
        refine lv_iload_n hx hb dX7_fails_49 rfl (lv_at hl 0 rfl) ?_
        cases Option.some.inj hf
        exact fin_i hx hb hr hlk hS hP rfl dX7_fails_50
      · have hf := ifp hf hc
        refine lv_iconst (v := (nI 0)) hx hb dX7_fails_33 (by decide) ?_
        cases Option.some.inj hf
        exact fin_i hx hb hr hlk hS hP rfl dX7_fails_34
  · have hf := ifp hf hc
    refine lv_iconst (v := (nI 1)) hx hb dX7_fails_8 (by decide) ?_
    refine lv_goto (tgt := 27) hx hb dX7_fails_9 (by decide) ?_
    obtain ⟨x11, S12, hc27, hf⟩ := zo2_k hf
    refine cal_i (rnV (As := [.int (nI 1)]) (rest := []) ⟨hx, hb, hml, hown, hts⟩ (c_X7_goes hAd  hc27) (cwV 1 hts gX7_fails_X7_goes rfl rfl rfl cdV_X7_goes ⟨Nat.le_of_ble_eq_true rfl, Nat.le_of_ble_eq_true rfl⟩) hP hK hN (mw_o (S := S)) rfl rfl hl.1 rfl (Nat.le_of_ble_eq_true rfl) dX7_fails_27 ⟨Nat.zero_le _, Nat.zero_le _⟩) hS (fun H locs hP hS => ?_)
    refine lv_if_ne (tgt := 35) hx hb dX7_fails_30 (by decide) (fun hc => ?_) (fun hc => ?_)
    · have hf := ifn hf hc
      refine lv_aload_n hx hb dX7_fails_35 rfl (lv_at hl 0 rfl) ?_
      refine va_get (D := D) (ci := 7) (v := .ref (bd 9)) (C := RX7) (T := TX7) (N := 48) hx hb hts hin7 hown hK hP 0 (mw_o (S := S12)) rfl 8 (by decide) hfl34 (fun _ h9 => h9) mw_f8 dX7_fails_36 ?_
      refine lv_iload_n hx hb dX7_fails_39 rfl (lv_at hl 1 rfl) ?_
      obtain ⟨hin, hf⟩ := zg_k hf
      refine va_iald hx hb hK hP 9 0 (mw_a8 (S := S12)) rfl (inb_k hin) dX7_fails_40 ?_
      refine lv_topi (fun x13 ex13 => ?_)
      have hf := zb_x hf ex13
      refine lv_istore_n (lv' := [(3, .int x13), (0, .ref (bd 0)), (1, .int p1), (2, .int p2)]) hx hb dX7_fails_41 rfl hl (by decide) rfl (fun ls hl => ?_)
      refine lv_aload_n hx hb dX7_fails_42 rfl (lv_at hl 1 rfl) ?_
      refine va_get (D := D) (ci := 7) (v := .ref (bd 9)) (C := RX7) (T := TX7) (N := 48) hx hb hts hin7 hown hK hP 0 (mw_o (S := S12)) rfl 8 (by decide) hfl34 (fun _ h9 => h9) mw_f8 dX7_fails_43 ?_
      refine lv_iload_n hx hb dX7_fails_46 rfl (lv_at hl 2 rfl) ?_
      refine lv_iload_n hx hb dX7_fails_47 rfl (lv_at hl 3 rfl) ?_
      obtain ⟨hin, hf⟩ := zg_k hf
      refine va_iast hx hb hK hP (mw_D hAd) hS 9 0 (mw_a8 (S := S12)) rfl (inb_k hin) dX7_fails_48 (fun H locs hP _ hS => ?_)
      have hP : va_P D vwCl (mw cyI cyJ cyZ bd (wi S12 8 (Int32.toNatClampNeg p1) p2)) H := by rw [← mw_s8]; exact hP
      obtain ⟨S14, eS14, hf⟩ := zb_k hf
      rw [← eS14] at hP
      refine lv_iload_n hx hb dX7_fails_49 rfl (lv_at hl 0 rfl) ?_
      cases Option.some.inj hf
      exact fin_i hx hb hr hlk hS hP rfl dX7_fails_50
    · have hf := ifp hf hc
      refine lv_iconst (v := (nI 0)) hx hb dX7_fails_33 (by decide) ?_
      cases Option.some.inj hf
      exact fin_i hx hb hr hlk hS hP rfl dX7_fails_34
set_option maxHeartbeats 4000000 in
set_option maxRecDepth 100000 in
theorem c_X7_forget {l : Launch} {D : va_G} {cyI cyJ cyZ : ClassId} {bd : Nat → Nat}  (hAd : AdOK 41 bd)  {S : St}  {r : Int32} {SZ : St} (hf : m_X7_forget S = some (r, SZ)) : Met l yX7_forget wsX7_forget rl_X7_forget (PreW D [(cyI, .int), (cyJ, .long), (cyZ, .boolean)] (mw cyI cyJ cyZ bd S) [.ref (bd 0)]) (PoI D (mw cyI cyJ cyZ bd SZ) (MA bd) r) 0 0 (MA bd) := by
  refine met_go (cc := cX7_forget) (maxL := 3) (ret := (some .int)) (by decide) rfl (Nat.le_of_ble_eq_true rfl) ?_
  intro p e s m args below meth c ls hx hb hr hml hts hown hlk hP hK hN hl
  have hown : s.vm.findClass RX7 = some m.cls := hown
  have hS : va_S (MA bd) s.heap s.heap [] := va_S.rf
  have hl : lv_has ls 3 [(0, .ref (bd 0))] := hl
  have hin7 : ∀ w ∈ wsX70, w ∈ wsX7_forget := by decide +kernel
  have hfl132 := hts (.fieldLink RX7 132 "MakewheelModel" "thrown" "I") (by decide +kernel)
  have hfl44 := hts (.fieldLink RX7 44 "MakewheelModel" "isKept" "[Z") (by decide +kernel)
  unfold m_X7_forget at hf
  refine lv_aload_n hx hb dX7_forget_0 rfl (lv_at hl 0 rfl) ?_
  refine lv_iconst (v := (nI 0)) hx hb dX7_forget_1 (by decide) ?_
  refine va_put (D := D) (ci := 7) (v := .int (nI 0)) (ty := .int) (C := RX7) (T := TX7) (N := 48) hx hb hts hin7 tyX7 tyX7_ok nmX7 hown hK hP (mw_D hAd) hS 0 (mw_o (S := S)) rfl 47 (by decide) hfl132 (fun _ h9 => h9) rfl (by decide +kernel) rfl rfl (Nat.le_of_ble_eq_true rfl) dX7_forget_2 (fun H locs hP _ hS => ?_)
  have hP : va_P D vwCl (mw cyI cyJ cyZ bd (wi S 47 0 (nI 0))) H := by rw [← mw_s47]; exact hP
  obtain ⟨S1, eS1, hf⟩ := zb_k hf
  rw [← eS1] at hP
  refine lv_iconst (v := (nI 0)) hx hb dX7_forget_5 (by decide) ?_
  refine lv_istore_n (lv' := [(1, .int (nI 0)), (0, .ref (bd 0))]) hx hb dX7_forget_6 rfl hl (by decide) rfl (fun ls hl => ?_)
  refine lv_iconst (v := (nI 0)) hx hb dX7_forget_7 (by decide) ?_
  refine lv_istore_n (lv' := [(2, .int (nI 0)), (1, .int (nI 0)), (0, .ref (bd 0))]) hx hb dX7_forget_8 rfl hl (by decide) rfl (fun ls hl => ?_)
  refine zl3_ind (F := m_X7_forget_B9) (R := (r, SZ)) (P := fun S2 x3 x4 => ∀ (H : Heap) (locs : List Loc) (ls : Array Slot), va_P D vwCl (mw cyI cyJ cyZ bd S2) H → va_S (MA bd) s.heap H locs → lv_has ls 3 [(0, .ref (bd 0)), (1, .int x3), (2, .int x4)] → W p l e rl_X7_forget s m args below meth c H locs 0 0 (MQ below (PoI D (mw cyI cyJ cyZ bd SZ) (MA bd) r) args s 0 0 (MA bd)) (F0 m 9 ls [])) (fun rec9 ih9 S2 x3 x4 hf H locs ls hP hS hl => ?_) FU S1 (nI 0) (nI 0) hf _ _ _ hP hS (lv_sub hl [2, 1, 0] rfl)
  unfold m_X7_forget_B9 at hf
  refine lv_iload_n hx hb dX7_forget_9 rfl (lv_at hl 2 rfl) ?_
  refine lv_bipush (v := (nI 32)) hx hb dX7_forget_10 (by decide) ?_
  refine lv_icmp_ge (tgt := 45) hx hb dX7_forget_12 (by decide) (fun hc => ?_) (fun hc => ?_)
  · have hf := ifp hf hc
    refine lv_iload_n hx hb dX7_forget_45 rfl (lv_at hl 1 rfl) ?_
    cases Option.some.inj hf
    exact fin_i hx hb hr hlk hS hP rfl dX7_forget_46
  · have hf := ifn hf hc
    refine lv_iload_n hx hb dX7_forget_15 rfl (lv_at hl 1 rfl) ?_
    refine lv_aload_n hx hb dX7_forget_16 rfl (lv_at hl 0 rfl) ?_
    refine va_get (D := D) (ci := 7) (v := .ref (bd 12)) (C := RX7) (T := TX7) (N := 48) hx hb hts hin7 hown hK hP 0 (mw_o (S := S2)) rfl 15 (by decide) hfl44 (fun _ h9 => h9) mw_f15 dX7_forget_17 ?_
    refine lv_iload_n hx hb dX7_forget_20 rfl (lv_at hl 2 rfl) ?_
    obtain ⟨hin, hf⟩ := zg_k hf
    refine va_zald hx hb hK hP 12 2 (mw_a15 (S := S2)) rfl (inb_k hin) dX7_forget_21 ?_
    refine lv_if_eq (tgt := 29) hx hb dX7_forget_22 (by decide) (fun hc => ?_) (fun hc => ?_)
    · have hf := ifp hf hc
      refine lv_iconst (v := (nI 0)) hx hb dX7_forget_29 (by decide) ?_
      refine lv_iadd hx hb dX7_forget_30 ?_
      refine lv_topi (fun x5 ex5 => ?_)
      have hf := zb_x hf ex5
      refine lv_istore_n (lv' := [(1, .int x5), (0, .ref (bd 0)), (2, .int x4)]) hx hb dX7_forget_31 rfl hl (by decide) rfl (fun ls hl => ?_)
      refine lv_aload_n hx hb dX7_forget_32 rfl (lv_at hl 1 rfl) ?_
      refine va_get (D := D) (ci := 7) (v := .ref (bd 12)) (C := RX7) (T := TX7) (N := 48) hx hb hts hin7 hown hK hP 0 (mw_o (S := S2)) rfl 15 (by decide) hfl44 (fun _ h9 => h9) mw_f15 dX7_forget_33 ?_
      refine lv_iload_n hx hb dX7_forget_36 rfl (lv_at hl 2 rfl) ?_
      refine lv_iconst (v := (nI 0)) hx hb dX7_forget_37 (by decide) ?_
      obtain ⟨hin, hf⟩ := zg_k hf
      refine va_zast hx hb hK hP (mw_D hAd) hS 12 2 (mw_a15 (S := S2)) rfl (inb_k hin) dX7_forget_38 (fun H locs hP _ hS => ?_)
      have hP : va_P D vwCl (mw cyI cyJ cyZ bd (wi S2 15 (Int32.toNatClampNeg x4) (nI 0))) H := by rw [← mw_s15]; exact hP
      obtain ⟨S6, eS6, hf⟩ := zb_k hf
      rw [← eS6] at hP
      obtain ⟨x7, ex7, hf⟩ := zb_k hf
      refine lv_iinc (v := x7) (lv' := [(2, .int x7), (1, .int x5), (0, .ref (bd 0))]) hx hb dX7_forget_39 hl (k := 2) rfl (by rw [ex7]; rfl) (by decide) rfl (fun ls hl => ?_)
      refine lv_goto (tgt := 9) hx hb dX7_forget_42 (by decide) ?_
      exact ih9 S6 x5 x7 hf _ _ _ hP hS (lv_sub hl [2, 1, 0] rfl)
    · have hf := ifn hf hc
      refine lv_iconst (v := (nI 1)) hx hb dX7_forget_25 (by decide) ?_
      refine lv_goto (tgt := 30) hx hb dX7_forget_26 (by decide) ?_
      refine lv_iadd hx hb dX7_forget_30 ?_
      refine lv_topi (fun x8 ex8 => ?_)
      have hf := zb_x hf ex8
      refine lv_istore_n (lv' := [(1, .int x8), (0, .ref (bd 0)), (2, .int x4)]) hx hb dX7_forget_31 rfl hl (by decide) rfl (fun ls hl => ?_)
      refine lv_aload_n hx hb dX7_forget_32 rfl (lv_at hl 1 rfl) ?_
      refine va_get (D := D) (ci := 7) (v := .ref (bd 12)) (C := RX7) (T := TX7) (N := 48) hx hb hts hin7 hown hK hP 0 (mw_o (S := S2)) rfl 15 (by decide) hfl44 (fun _ h9 => h9) mw_f15 dX7_forget_33 ?_
      refine lv_iload_n hx hb dX7_forget_36 rfl (lv_at hl 2 rfl) ?_
      refine lv_iconst (v := (nI 0)) hx hb dX7_forget_37 (by decide) ?_
      obtain ⟨hin, hf⟩ := zg_k hf
      refine va_zast hx hb hK hP (mw_D hAd) hS 12 2 (mw_a15 (S := S2)) rfl (inb_k hin) dX7_forget_38 (fun H locs hP _ hS => ?_)
      have hP : va_P D vwCl (mw cyI cyJ cyZ bd (wi S2 15 (Int32.toNatClampNeg x4) (nI 0))) H := by rw [← mw_s15]; exact hP
      obtain ⟨S9, eS9, hf⟩ := zb_k hf
      rw [← eS9] at hP
      obtain ⟨x10, ex10, hf⟩ := zb_k hf
      refine lv_iinc (v := x10) (lv' := [(2, .int x10), (1, .int x8), (0, .ref (bd 0))]) hx hb dX7_forget_39 hl (k := 2) rfl (by rw [ex10]; rfl) (by decide) rfl (fun ls hl => ?_)
      refine lv_goto (tgt := 9) hx hb dX7_forget_42 (by decide) ?_
      exact ih9 S9 x8 x10 hf _ _ _ hP hS (lv_sub hl [2, 1, 0] rfl)
set_option maxHeartbeats 4000000 in
set_option maxRecDepth 100000 in
theorem c_X7_goingAt {l : Launch} {D : va_G} {cyI cyJ cyZ : ClassId} {bd : Nat → Nat}  (hAd : AdOK 41 bd)  {S : St} {p1 : Int32} {r : Int32} (hf : m_X7_goingAt S p1 = some r) : Met l yX7_goingAt wsX7_goingAt rl_X7_goingAt (PreW D [(cyI, .int), (cyJ, .long), (cyZ, .boolean)] (mw cyI cyJ cyZ bd S) [.ref (bd 0), .int p1]) (PoI D (mw cyI cyJ cyZ bd S) (MA bd) r) 0 0 (MA bd) := by
  refine met_go (cc := cX7_goingAt) (maxL := 4) (ret := (some .int)) (by decide) rfl (Nat.le_of_ble_eq_true rfl) ?_
  intro p e s m args below meth c ls hx hb hr hml hts hown hlk hP hK hN hl
  have hown : s.vm.findClass RX7 = some m.cls := hown
  have hS : va_S (MA bd) s.heap s.heap [] := va_S.rf
  have hl : lv_has ls 4 [(0, .ref (bd 0)), (1, .int p1)] := hl
  have hin7 : ∀ w ∈ wsX70, w ∈ wsX7_goingAt := by decide +kernel
  have hfl129 := hts (.fieldLink RX7 129 "MakewheelModel" "ends" "[I") (by decide +kernel)
  unfold m_X7_goingAt at hf
  refine lv_iconst (v := (nI 0)) hx hb dX7_goingAt_0 (by decide) ?_
  refine lv_istore_n (lv' := [(2, .int (nI 0)), (0, .ref (bd 0)), (1, .int p1)]) hx hb dX7_goingAt_1 rfl hl (by decide) rfl (fun ls hl => ?_)
  refine lv_iconst (v := (nI 0)) hx hb dX7_goingAt_2 (by decide) ?_
  refine lv_istore_n (lv' := [(3, .int (nI 0)), (2, .int (nI 0)), (0, .ref (bd 0)), (1, .int p1)]) hx hb dX7_goingAt_3 rfl hl (by decide) rfl (fun ls hl => ?_)
  refine zl2_ind (F := (m_X7_goingAt_B4 S p1)) (R := r) (P := fun x1 x2 => ∀ (H : Heap) (locs : List Loc) (ls : Array Slot), va_P D vwCl (mw cyI cyJ cyZ bd S) H → va_S (MA bd) s.heap H locs → lv_has ls 4 [(0, .ref (bd 0)), (1, .int p1), (2, .int x1), (3, .int x2)] → W p l e rl_X7_goingAt s m args below meth c H locs 0 0 (MQ below (PoI D (mw cyI cyJ cyZ bd S) (MA bd) r) args s 0 0 (MA bd)) (F0 m 4 ls [])) (fun rec4 ih4 x1 x2 hf H locs ls hP hS hl => ?_) FU (nI 0) (nI 0) hf _ _ _ hP hS (lv_sub hl [2, 3, 1, 0] rfl)
  unfold m_X7_goingAt_B4 at hf
  refine lv_iload_n hx hb dX7_goingAt_4 rfl (lv_at hl 3 rfl) ?_
  refine lv_bipush (v := (nI 32)) hx hb dX7_goingAt_5 (by decide) ?_
  refine lv_icmp_ge (tgt := 34) hx hb dX7_goingAt_7 (by decide) (fun hc => ?_) (fun hc => ?_)
  · have hf := ifp hf hc
    refine lv_iload_n hx hb dX7_goingAt_34 rfl (lv_at hl 2 rfl) ?_
    exact fin_i hx hb hr hlk hS hP (Option.some.inj hf) dX7_goingAt_35
  · have hf := ifn hf hc
    refine lv_iload_n hx hb dX7_goingAt_10 rfl (lv_at hl 2 rfl) ?_
    refine lv_aload_n hx hb dX7_goingAt_11 rfl (lv_at hl 0 rfl) ?_
    refine va_get (D := D) (ci := 7) (v := .ref (bd 40)) (C := RX7) (T := TX7) (N := 48) hx hb hts hin7 hown hK hP 0 (mw_o (S := S)) rfl 46 (by decide) hfl129 (fun _ h9 => h9) mw_f46 dX7_goingAt_12 ?_
    refine lv_iload_n hx hb dX7_goingAt_15 rfl (lv_at hl 3 rfl) ?_
    obtain ⟨hin, hf⟩ := zg_k hf
    refine va_iald hx hb hK hP 40 0 (mw_a46 (S := S)) rfl (inb_k hin) dX7_goingAt_16 ?_
    refine lv_iload_n hx hb dX7_goingAt_17 rfl (lv_at hl 1 rfl) ?_
    refine lv_icmp_le (tgt := 25) hx hb dX7_goingAt_18 (by decide) (fun hc => ?_) (fun hc => ?_)
    · have hf := ifp hf hc
      refine lv_iconst (v := (nI 0)) hx hb dX7_goingAt_25 (by decide) ?_
      refine lv_iadd hx hb dX7_goingAt_26 ?_
      refine lv_topi (fun x3 ex3 => ?_)
      have hf := zb_x hf ex3
      refine lv_istore_n (lv' := [(2, .int x3), (0, .ref (bd 0)), (1, .int p1), (3, .int x2)]) hx hb dX7_goingAt_27 rfl hl (by decide) rfl (fun ls hl => ?_)
      obtain ⟨x4, ex4, hf⟩ := zb_k hf
      refine lv_iinc (v := x4) (lv' := [(3, .int x4), (2, .int x3), (0, .ref (bd 0)), (1, .int p1)]) hx hb dX7_goingAt_28 hl (k := 3) rfl (by rw [ex4]; rfl) (by decide) rfl (fun ls hl => ?_)
      refine lv_goto (tgt := 4) hx hb dX7_goingAt_31 (by decide) ?_
      exact ih4 x3 x4 hf _ _ _ hP hS (lv_sub hl [2, 3, 1, 0] rfl)
    · have hf := ifn hf hc
      refine lv_iconst (v := (nI 1)) hx hb dX7_goingAt_21 (by decide) ?_
      refine lv_goto (tgt := 26) hx hb dX7_goingAt_22 (by decide) ?_
      refine lv_iadd hx hb dX7_goingAt_26 ?_
      refine lv_topi (fun x5 ex5 => ?_)
      have hf := zb_x hf ex5
      refine lv_istore_n (lv' := [(2, .int x5), (0, .ref (bd 0)), (1, .int p1), (3, .int x2)]) hx hb dX7_goingAt_27 rfl hl (by decide) rfl (fun ls hl => ?_)
      obtain ⟨x6, ex6, hf⟩ := zb_k hf
      refine lv_iinc (v := x6) (lv' := [(3, .int x6), (2, .int x5), (0, .ref (bd 0)), (1, .int p1)]) hx hb dX7_goingAt_28 hl (k := 3) rfl (by rw [ex6]; rfl) (by decide) rfl (fun ls hl => ?_)
      refine lv_goto (tgt := 4) hx hb dX7_goingAt_31 (by decide) ?_
      exact ih4 x5 x6 hf _ _ _ hP hS (lv_sub hl [2, 3, 1, 0] rfl)
set_option maxHeartbeats 4000000 in
set_option maxRecDepth 100000 in
theorem c_X7_input {l : Launch} {D : va_G} {cyI cyJ cyZ : ClassId} {bd : Nat → Nat}  (hAd : AdOK 41 bd)  {S : St} {p1 : Int32} {p2 : Int32} {p3 : Int32} {r : Int32} {SZ : St} (hf : m_X7_input S p1 p2 p3 = some (r, SZ)) : Met l yX7_input wsX7_input rl_X7_input (PreW D [(cyI, .int), (cyJ, .long), (cyZ, .boolean)] (mw cyI cyJ cyZ bd S) [.ref (bd 0), .int p1, .int p2, .int p3]) (PoI D (mw cyI cyJ cyZ bd SZ) (MA bd) r) 0 0 (MA bd) := by
  refine met_go (cc := cX7_input) (maxL := 6) (ret := (some .int)) (by decide) rfl (Nat.le_of_ble_eq_true rfl) ?_
  intro p e s m args below meth c ls hx hb hr hml hts hown hlk hP hK hN hl
  have hown : s.vm.findClass RX7 = some m.cls := hown
  have hS : va_S (MA bd) s.heap s.heap [] := va_S.rf
  have hl : lv_has ls 6 [(0, .ref (bd 0)), (1, .int p1), (2, .int p2), (3, .int p3)] := hl
  have hin7 : ∀ w ∈ wsX70, w ∈ wsX7_input := by decide +kernel
  have hfl28 := hts (.fieldLink RX7 28 "MakewheelModel" "whats" "[I") (by decide +kernel)
  have hfl25 := hts (.fieldLink RX7 25 "MakewheelModel" "many" "[I") (by decide +kernel)
  have hfl31 := hts (.fieldLink RX7 31 "MakewheelModel" "whiches" "[I") (by decide +kernel)
  have hfl13 := hts (.fieldLink RX7 13 "MakewheelModel" "kinds" "[I") (by decide +kernel)
  unfold m_X7_input at hf
  refine lv_iload_n hx hb dX7_input_0 rfl (lv_at hl 2 rfl) ?_
  refine lv_iconst (v := (nI 0)) hx hb dX7_input_1 (by decide) ?_
  refine lv_iconst (v := (nI 3)) hx hb dX7_input_2 (by decide) ?_
  obtain ⟨x1, hc3, hf⟩ := zo_k hf
  refine cal_i (rnS (As := [.int p2, .int (nI 0), .int (nI 3)]) (rest := []) ⟨hx, hb, hml, hown, hts⟩ (c_X7_isIn hAd  hc3) (va_cwS 3 hts gX7_input_X7_isIn rfl rfl rfl cdS_X7_isIn ⟨Nat.le_of_ble_eq_true rfl, Nat.le_of_ble_eq_true rfl⟩) hP hK hN rfl hl.1 rfl (Nat.le_of_ble_eq_true rfl) dX7_input_3 ⟨Nat.zero_le _, Nat.zero_le _⟩) hS (fun H locs hP hS => ?_)
  refine lv_istore (lv' := [(4, .int x1), (0, .ref (bd 0)), (1, .int p1), (2, .int p2), (3, .int p3)]) hx hb dX7_input_6 hl (by decide) rfl (fun ls hl => ?_)
  refine lv_iload hx hb dX7_input_8 (lv_at hl 0 rfl) ?_
  have hJ46 : ∀ (t2 : Int32), m_X7_input_J46 S p1 p2 p3 x1 t2 = some (r, SZ) → ∀ (H : Heap) (locs : List Loc) (ls : Array Slot), va_P D vwCl (mw cyI cyJ cyZ bd S) H → va_S (MA bd) s.heap H locs → lv_has ls 6 [(4, .int x1), (0, .ref (bd 0)), (1, .int p1), (2, .int p2), (3, .int p3)] → W p l e rl_X7_input s m args below meth c H locs 0 0 (MQ below (PoI D (mw cyI cyJ cyZ bd SZ) (MA bd) r) args s 0 0 (MA bd)) (F0 m 46 ls [.int t2]) := by
    intro t2 hf H locs ls hP hS hl
    unfold m_X7_input_J46 at hf
    refine lv_istore (lv' := [(5, .int t2), (4, .int x1), (0, .ref (bd 0)), (1, .int p1), (2, .int p2), (3, .int p3)]) hx hb dX7_input_46 hl (by decide) rfl (fun ls hl => ?_)
    refine lv_aload_n hx hb dX7_input_48 rfl (lv_at hl 2 rfl) ?_
    refine lv_iload_n hx hb dX7_input_49 rfl (lv_at hl 3 rfl) ?_
    obtain ⟨x3, hc50, hf⟩ := zo_k hf
    refine cal_i (rnS (As := [.int p1]) (rest := [.ref (bd 0)]) ⟨hx, hb, hml, hown, hts⟩ (c_X7_isTarget hAd  hc50) (va_cwS 1 hts gX7_input_X7_isTarget rfl rfl rfl cdS_X7_isTarget ⟨Nat.le_of_ble_eq_true rfl, Nat.le_of_ble_eq_true rfl⟩) hP hK hN rfl hl.1 rfl (Nat.le_of_ble_eq_true rfl) dX7_input_50 ⟨Nat.zero_le _, Nat.zero_le _⟩) hS (fun H locs hP hS => ?_)
    have hJ99 : ∀ (t4 : Int32), m_X7_input_J99 S p1 p2 p3 t4 = some (r, SZ) → ∀ (H : Heap) (locs : List Loc) (ls : Array Slot), va_P D vwCl (mw cyI cyJ cyZ bd S) H → va_S (MA bd) s.heap H locs → lv_has ls 6 [(0, .ref (bd 0)), (1, .int p1), (2, .int p2), (3, .int p3)] → W p l e rl_X7_input s m args below meth c H locs 0 0 (MQ below (PoI D (mw cyI cyJ cyZ bd SZ) (MA bd) r) args s 0 0 (MA bd)) (F0 m 99 ls [.int t4, .ref (bd 0)]) := by
      intro t4 hf H locs ls hP hS hl
      unfold m_X7_input_J99 at hf
      obtain ⟨x5, S6, hc99, hf⟩ := zo2_k hf
      refine cal_i (rnV (As := [.int t4]) (rest := []) ⟨hx, hb, hml, hown, hts⟩ (c_X7_goes hAd  hc99) (cwV 1 hts gX7_input_X7_goes rfl rfl rfl cdV_X7_goes ⟨Nat.le_of_ble_eq_true rfl, Nat.le_of_ble_eq_true rfl⟩) hP hK hN (mw_o (S := S)) rfl rfl hl.1 rfl (Nat.le_of_ble_eq_true rfl) dX7_input_99 ⟨Nat.zero_le _, Nat.zero_le _⟩) hS (fun H locs hP hS => ?_)
      refine lv_if_ne (tgt := 107) hx hb dX7_input_102 (by decide) (fun hc => ?_) (fun hc => ?_)
      · have hf := ifn hf hc
        refine lv_aload_n hx hb dX7_input_107 rfl (lv_at hl 0 rfl) ?_
        refine va_get (D := D) (ci := 7) (v := .ref (bd 7)) (C := RX7) (T := TX7) (N := 48) hx hb hts hin7 hown hK hP 0 (mw_o (S := S6)) rfl 6 (by decide) hfl28 (fun _ h9 => h9) mw_f6 dX7_input_108 ?_
        refine lv_iconst (v := (nI 4)) hx hb dX7_input_111 (by decide) ?_
        refine lv_iload_n hx hb dX7_input_112 rfl (lv_at hl 1 rfl) ?_
        refine lv_imul hx hb dX7_input_113 ?_
        refine lv_aload_n hx hb dX7_input_114 rfl (lv_at hl 0 rfl) ?_
        refine va_get (D := D) (ci := 7) (v := .ref (bd 6)) (C := RX7) (T := TX7) (N := 48) hx hb hts hin7 hown hK hP 0 (mw_o (S := S6)) rfl 5 (by decide) hfl25 (fun _ h9 => h9) mw_f5 dX7_input_115 ?_
        refine lv_iload_n hx hb dX7_input_118 rfl (lv_at hl 1 rfl) ?_
        obtain ⟨hin, hf⟩ := zg_k hf
        refine va_iald hx hb hK hP 6 0 (mw_a5 (S := S6)) rfl (inb_k hin) dX7_input_119 ?_
        refine lv_iadd hx hb dX7_input_120 ?_
        refine lv_iload_n hx hb dX7_input_121 rfl (lv_at hl 2 rfl) ?_
        obtain ⟨hin, hf⟩ := zg_k hf
        refine va_iast hx hb hK hP (mw_D hAd) hS 7 0 (mw_a6 (S := S6)) rfl (inb_k hin) dX7_input_122 (fun H locs hP _ hS => ?_)
        have hP : va_P D vwCl (mw cyI cyJ cyZ bd (wi S6 6 (Int32.toNatClampNeg (((nI 4) * p1) + (ri S6 5 p1))) p2)) H := by rw [← mw_s6]; exact hP
        obtain ⟨S7, eS7, hf⟩ := zb_k hf
        rw [← eS7] at hP
        refine lv_aload_n hx hb dX7_input_123 rfl (lv_at hl 0 rfl) ?_
        refine va_get (D := D) (ci := 7) (v := .ref (bd 8)) (C := RX7) (T := TX7) (N := 48) hx hb hts hin7 hown hK hP 0 (mw_o (S := S7)) rfl 7 (by decide) hfl31 (fun _ h9 => h9) mw_f7 dX7_input_124 ?_
        refine lv_iconst (v := (nI 4)) hx hb dX7_input_127 (by decide) ?_
        refine lv_iload_n hx hb dX7_input_128 rfl (lv_at hl 1 rfl) ?_
        refine lv_imul hx hb dX7_input_129 ?_
        refine lv_aload_n hx hb dX7_input_130 rfl (lv_at hl 0 rfl) ?_
        refine va_get (D := D) (ci := 7) (v := .ref (bd 6)) (C := RX7) (T := TX7) (N := 48) hx hb hts hin7 hown hK hP 0 (mw_o (S := S7)) rfl 5 (by decide) hfl25 (fun _ h9 => h9) mw_f5 dX7_input_131 ?_
        refine lv_iload_n hx hb dX7_input_134 rfl (lv_at hl 1 rfl) ?_
        obtain ⟨hin, hf⟩ := zg_k hf
        refine va_iald hx hb hK hP 6 0 (mw_a5 (S := S7)) rfl (inb_k hin) dX7_input_135 ?_
        refine lv_iadd hx hb dX7_input_136 ?_
        refine lv_iload_n hx hb dX7_input_137 rfl (lv_at hl 3 rfl) ?_
        obtain ⟨hin, hf⟩ := zg_k hf
        refine va_iast hx hb hK hP (mw_D hAd) hS 8 0 (mw_a7 (S := S7)) rfl (inb_k hin) dX7_input_138 (fun H locs hP _ hS => ?_)
        have hP : va_P D vwCl (mw cyI cyJ cyZ bd (wi S7 7 (Int32.toNatClampNeg (((nI 4) * p1) + (ri S7 5 p1))) p3)) H := by rw [← mw_s7]; exact hP
        obtain ⟨S8, eS8, hf⟩ := zb_k hf
        rw [← eS8] at hP
        refine lv_aload_n hx hb dX7_input_139 rfl (lv_at hl 0 rfl) ?_
        refine va_get (D := D) (ci := 7) (v := .ref (bd 6)) (C := RX7) (T := TX7) (N := 48) hx hb hts hin7 hown hK hP 0 (mw_o (S := S8)) rfl 5 (by decide) hfl25 (fun _ h9 => h9) mw_f5 dX7_input_140 ?_
        refine lv_iload_n hx hb dX7_input_143 rfl (lv_at hl 1 rfl) ?_
        refine lv_dup2_11 hx hb dX7_input_144 rfl rfl ?_
        obtain ⟨hin, hf⟩ := zg_k hf
        refine va_iald hx hb hK hP 6 0 (mw_a5 (S := S8)) rfl (inb_k hin) dX7_input_145 ?_
        refine lv_iconst (v := (nI 1)) hx hb dX7_input_146 (by decide) ?_
        refine lv_iadd hx hb dX7_input_147 ?_
        obtain ⟨hin, hf⟩ := zg_k hf
        refine va_iast hx hb hK hP (mw_D hAd) hS 6 0 (mw_a5 (S := S8)) rfl (inb_k hin) dX7_input_148 (fun H locs hP _ hS => ?_)
        have hP : va_P D vwCl (mw cyI cyJ cyZ bd (wi S8 5 (Int32.toNatClampNeg p1) ((ri S8 5 p1) + (nI 1)))) H := by rw [← mw_s5]; exact hP
        obtain ⟨S9, eS9, hf⟩ := zb_k hf
        rw [← eS9] at hP
        refine lv_aload_n hx hb dX7_input_149 rfl (lv_at hl 0 rfl) ?_
        refine va_get (D := D) (ci := 7) (v := .ref (bd 6)) (C := RX7) (T := TX7) (N := 48) hx hb hts hin7 hown hK hP 0 (mw_o (S := S9)) rfl 5 (by decide) hfl25 (fun _ h9 => h9) mw_f5 dX7_input_150 ?_
        refine lv_iload_n hx hb dX7_input_153 rfl (lv_at hl 1 rfl) ?_
        obtain ⟨hin, hf⟩ := zg_k hf
        refine va_iald hx hb hK hP 6 0 (mw_a5 (S := S9)) rfl (inb_k hin) dX7_input_154 ?_
        cases Option.some.inj hf
        exact fin_i hx hb hr hlk hS hP rfl dX7_input_155
      · have hf := ifp hf hc
        refine lv_iconst (v := (nI 0)) hx hb dX7_input_105 (by decide) ?_
        cases Option.some.inj hf
        exact fin_i hx hb hr hlk hS hP rfl dX7_input_106
    refine lv_if_eq (tgt := 61) hx hb dX7_input_53 (by decide) (fun hc => ?_) (fun hc => ?_)
    · have hf := ifp hf hc
      refine lv_iconst (v := (nI 1)) hx hb dX7_input_61 (by decide) ?_
      refine lv_goto (tgt := 99) hx hb dX7_input_62 (by decide) ?_
      exact hJ99 (nI 1) hf _ _ _ hP hS (lv_sub hl [2, 3, 4, 5] rfl)
    · have hf := ifn hf hc
      refine lv_iload hx hb dX7_input_56 (lv_at hl 0 rfl) ?_
      refine lv_if_ne (tgt := 65) hx hb dX7_input_58 (by decide) (fun hc => ?_) (fun hc => ?_)
      · have hf := ifn hf hc
        refine lv_iload hx hb dX7_input_65 (lv_at hl 1 rfl) ?_
        refine lv_if_ne (tgt := 74) hx hb dX7_input_67 (by decide) (fun hc => ?_) (fun hc => ?_)
        · have hf := ifn hf hc
          refine lv_aload_n hx hb dX7_input_74 rfl (lv_at hl 2 rfl) ?_
          refine va_get (D := D) (ci := 7) (v := .ref (bd 2)) (C := RX7) (T := TX7) (N := 48) hx hb hts hin7 hown hK hP 0 (mw_o (S := S)) rfl 1 (by decide) hfl13 (fun _ h9 => h9) mw_f1 dX7_input_75 ?_
          refine lv_iload_n hx hb dX7_input_78 rfl (lv_at hl 3 rfl) ?_
          obtain ⟨hin, hf⟩ := zg_k hf
          refine va_iald hx hb hK hP 2 0 (mw_a1 (S := S)) rfl (inb_k hin) dX7_input_79 ?_
          refine lv_iconst (v := (-1)) hx hb dX7_input_80 (by decide) ?_
          refine lv_icmp_eq (tgt := 94) hx hb dX7_input_81 (by decide) (fun hc => ?_) (fun hc => ?_)
          · have hf := ifp hf hc
            refine lv_iconst (v := (nI 3)) hx hb dX7_input_94 (by decide) ?_
            refine lv_goto (tgt := 99) hx hb dX7_input_95 (by decide) ?_
            exact hJ99 (nI 3) hf _ _ _ hP hS (lv_sub hl [2, 3, 4, 5] rfl)
          · have hf := ifn hf hc
            refine lv_aload_n hx hb dX7_input_84 rfl (lv_at hl 2 rfl) ?_
            refine va_get (D := D) (ci := 7) (v := .ref (bd 6)) (C := RX7) (T := TX7) (N := 48) hx hb hts hin7 hown hK hP 0 (mw_o (S := S)) rfl 5 (by decide) hfl25 (fun _ h9 => h9) mw_f5 dX7_input_85 ?_
            refine lv_iload_n hx hb dX7_input_88 rfl (lv_at hl 3 rfl) ?_
            obtain ⟨hin, hf⟩ := zg_k hf
            refine va_iald hx hb hK hP 6 0 (mw_a5 (S := S)) rfl (inb_k hin) dX7_input_89 ?_
            refine lv_iconst (v := (nI 4)) hx hb dX7_input_90 (by decide) ?_
            refine lv_icmp_ne (tgt := 98) hx hb dX7_input_91 (by decide) (fun hc => ?_) (fun hc => ?_)
            · have hf := ifn hf hc
              refine lv_iconst (v := (nI 0)) hx hb dX7_input_98 (by decide) ?_
              exact hJ99 (nI 0) hf _ _ _ hP hS (lv_sub hl [2, 3, 4, 5] rfl)
            · have hf := ifp hf hc
              refine lv_iconst (v := (nI 3)) hx hb dX7_input_94 (by decide) ?_
              refine lv_goto (tgt := 99) hx hb dX7_input_95 (by decide) ?_
              exact hJ99 (nI 3) hf _ _ _ hP hS (lv_sub hl [2, 3, 4, 5] rfl)
        · have hf := ifp hf hc
          refine lv_iconst (v := (nI 2)) hx hb dX7_input_70 (by decide) ?_
          refine lv_goto (tgt := 99) hx hb dX7_input_71 (by decide) ?_
          exact hJ99 (nI 2) hf _ _ _ hP hS (lv_sub hl [2, 3, 4, 5] rfl)
      · have hf := ifp hf hc
        refine lv_iconst (v := (nI 1)) hx hb dX7_input_61 (by decide) ?_
        refine lv_goto (tgt := 99) hx hb dX7_input_62 (by decide) ?_
        exact hJ99 (nI 1) hf _ _ _ hP hS (lv_sub hl [2, 3, 4, 5] rfl)
  have hJ41 : m_X7_input_J41 S p1 p2 p3 x1 = some (r, SZ) → ∀ (H : Heap) (locs : List Loc) (ls : Array Slot), va_P D vwCl (mw cyI cyJ cyZ bd S) H → va_S (MA bd) s.heap H locs → lv_has ls 6 [(4, .int x1), (0, .ref (bd 0)), (1, .int p1), (2, .int p2), (3, .int p3)] → W p l e rl_X7_input s m args below meth c H locs 0 0 (MQ below (PoI D (mw cyI cyJ cyZ bd SZ) (MA bd) r) args s 0 0 (MA bd)) (F0 m 41 ls []) := by
    intro  hf H locs ls hP hS hl
    unfold m_X7_input_J41 at hf
    refine lv_iconst (v := (nI 1)) hx hb dX7_input_41 (by decide) ?_
    refine lv_goto (tgt := 46) hx hb dX7_input_42 (by decide) ?_
    exact hJ46 (nI 1) hf _ _ _ hP hS (lv_sub hl [0, 1, 2, 3, 4] rfl)
  refine lv_if_eq (tgt := 41) hx hb dX7_input_10 (by decide) (fun hc => ?_) (fun hc => ?_)
  · have hf := ifp hf hc
    exact hJ41  hf _ _ _ hP hS (lv_sub hl [0, 1, 2, 3, 4] rfl)
  · have hf := ifn hf hc
    refine lv_iload_n hx hb dX7_input_13 rfl (lv_at hl 4 rfl) ?_
    refine lv_iconst (v := (nI 0)) hx hb dX7_input_14 (by decide) ?_
    refine lv_iload_n hx hb dX7_input_15 rfl (lv_at hl 3 rfl) ?_
    have hJ35 : ∀ (t10 : Int32), m_X7_input_J35 S p3 p1 p2 x1 t10 = some (r, SZ) → ∀ (H : Heap) (locs : List Loc) (ls : Array Slot), va_P D vwCl (mw cyI cyJ cyZ bd S) H → va_S (MA bd) s.heap H locs → lv_has ls 6 [(4, .int x1), (0, .ref (bd 0)), (1, .int p1), (2, .int p2), (3, .int p3)] → W p l e rl_X7_input s m args below meth c H locs 0 0 (MQ below (PoI D (mw cyI cyJ cyZ bd SZ) (MA bd) r) args s 0 0 (MA bd)) (F0 m 35 ls [.int t10, .int (nI 0), .int p3]) := by
      intro t10 hf H locs ls hP hS hl
      unfold m_X7_input_J35 at hf
      obtain ⟨x11, hc35, hf⟩ := zo_k hf
      refine cal_i (rnS (As := [.int p3, .int (nI 0), .int t10]) (rest := []) ⟨hx, hb, hml, hown, hts⟩ (c_X7_isIn hAd  hc35) (va_cwS 3 hts gX7_input_X7_isIn rfl rfl rfl cdS_X7_isIn ⟨Nat.le_of_ble_eq_true rfl, Nat.le_of_ble_eq_true rfl⟩) hP hK hN rfl hl.1 rfl (Nat.le_of_ble_eq_true rfl) dX7_input_35 ⟨Nat.zero_le _, Nat.zero_le _⟩) hS (fun H locs hP hS => ?_)
      refine lv_if_eq (tgt := 45) hx hb dX7_input_38 (by decide) (fun hc => ?_) (fun hc => ?_)
      · have hf := ifp hf hc
        refine lv_iconst (v := (nI 0)) hx hb dX7_input_45 (by decide) ?_
        exact hJ46 (nI 0) hf _ _ _ hP hS (lv_sub hl [0, 1, 2, 3, 4] rfl)
      · have hf := ifn hf hc
        exact hJ41  hf _ _ _ hP hS (lv_sub hl [0, 1, 2, 3, 4] rfl)
    refine lv_if_ne (tgt := 24) hx hb dX7_input_16 (by decide) (fun hc => ?_) (fun hc => ?_)
    · have hf := ifn hf hc
      refine lv_iload_n hx hb dX7_input_24 rfl (lv_at hl 3 rfl) ?_
      refine lv_iconst (v := (nI 1)) hx hb dX7_input_25 (by decide) ?_
      refine lv_icmp_ne (tgt := 33) hx hb dX7_input_26 (by decide) (fun hc => ?_) (fun hc => ?_)
      · have hf := ifn hf hc
        refine lv_bipush (v := (nI 15)) hx hb dX7_input_33 (by decide) ?_
        exact hJ35 (nI 15) hf _ _ _ hP hS (lv_sub hl [0, 1, 2, 3, 4] rfl)
      · have hf := ifp hf hc
        refine lv_iconst (v := (nI 3)) hx hb dX7_input_29 (by decide) ?_
        refine lv_goto (tgt := 35) hx hb dX7_input_30 (by decide) ?_
        exact hJ35 (nI 3) hf _ _ _ hP hS (lv_sub hl [0, 1, 2, 3, 4] rfl)
    · have hf := ifp hf hc
      refine lv_bipush (v := (nI 19)) hx hb dX7_input_19 (by decide) ?_
      refine lv_goto (tgt := 35) hx hb dX7_input_21 (by decide) ?_
      exact hJ35 (nI 19) hf _ _ _ hP hS (lv_sub hl [0, 1, 2, 3, 4] rfl)
set_option maxHeartbeats 4000000 in
set_option maxRecDepth 100000 in
theorem c_X7_inputsOf {l : Launch} {D : va_G} {cyI cyJ cyZ : ClassId} {bd : Nat → Nat}  (hAd : AdOK 41 bd)  {S : St} {p1 : Int32} {r : Int32} (hf : m_X7_inputsOf S p1 = some r) : Met l yX7_inputsOf wsX7_inputsOf rl_X7_inputsOf (PreW D [(cyI, .int), (cyJ, .long), (cyZ, .boolean)] (mw cyI cyJ cyZ bd S) [.ref (bd 0), .int p1]) (PoI D (mw cyI cyJ cyZ bd S) (MA bd) r) 0 0 (MA bd) := by
  refine met_go (cc := cX7_inputsOf) (maxL := 4) (ret := (some .int)) (by decide) rfl (Nat.le_of_ble_eq_true rfl) ?_
  intro p e s m args below meth c ls hx hb hr hml hts hown hlk hP hK hN hl
  have hown : s.vm.findClass RX7 = some m.cls := hown
  have hS : va_S (MA bd) s.heap s.heap [] := va_S.rf
  have hl : lv_has ls 4 [(0, .ref (bd 0)), (1, .int p1)] := hl
  have hin7 : ∀ w ∈ wsX70, w ∈ wsX7_inputsOf := by decide +kernel
  have hfl25 := hts (.fieldLink RX7 25 "MakewheelModel" "many" "[I") (by decide +kernel)
  have hfl13 := hts (.fieldLink RX7 13 "MakewheelModel" "kinds" "[I") (by decide +kernel)
  have hfl28 := hts (.fieldLink RX7 28 "MakewheelModel" "whats" "[I") (by decide +kernel)
  have hfl31 := hts (.fieldLink RX7 31 "MakewheelModel" "whiches" "[I") (by decide +kernel)
  unfold m_X7_inputsOf at hf
  refine lv_iconst (v := (nI 0)) hx hb dX7_inputsOf_0 (by decide) ?_
  refine lv_istore_n (lv' := [(2, .int (nI 0)), (0, .ref (bd 0)), (1, .int p1)]) hx hb dX7_inputsOf_1 rfl hl (by decide) rfl (fun ls hl => ?_)
  refine lv_iconst (v := (nI 0)) hx hb dX7_inputsOf_2 (by decide) ?_
  refine lv_istore_n (lv' := [(3, .int (nI 0)), (2, .int (nI 0)), (0, .ref (bd 0)), (1, .int p1)]) hx hb dX7_inputsOf_3 rfl hl (by decide) rfl (fun ls hl => ?_)
  refine zl2_ind (F := (m_X7_inputsOf_B4 p1 S)) (R := r) (P := fun x1 x2 => ∀ (H : Heap) (locs : List Loc) (ls : Array Slot), va_P D vwCl (mw cyI cyJ cyZ bd S) H → va_S (MA bd) s.heap H locs → lv_has ls 4 [(0, .ref (bd 0)), (1, .int p1), (2, .int x1), (3, .int x2)] → W p l e rl_X7_inputsOf s m args below meth c H locs 0 0 (MQ below (PoI D (mw cyI cyJ cyZ bd S) (MA bd) r) args s 0 0 (MA bd)) (F0 m 4 ls [])) (fun rec4 ih4 x1 x2 hf H locs ls hP hS hl => ?_) FU (nI 0) (nI 0) hf _ _ _ hP hS (lv_sub hl [2, 3, 1, 0] rfl)
  unfold m_X7_inputsOf_B4 at hf
  refine lv_iload_n hx hb dX7_inputsOf_4 rfl (lv_at hl 3 rfl) ?_
  refine lv_aload_n hx hb dX7_inputsOf_5 rfl (lv_at hl 0 rfl) ?_
  refine va_get (D := D) (ci := 7) (v := .ref (bd 6)) (C := RX7) (T := TX7) (N := 48) hx hb hts hin7 hown hK hP 0 (mw_o (S := S)) rfl 5 (by decide) hfl25 (fun _ h9 => h9) mw_f5 dX7_inputsOf_6 ?_
  refine lv_iload_n hx hb dX7_inputsOf_9 rfl (lv_at hl 1 rfl) ?_
  obtain ⟨hin, hf⟩ := zg_k hf
  refine va_iald hx hb hK hP 6 0 (mw_a5 (S := S)) rfl (inb_k hin) dX7_inputsOf_10 ?_
  refine lv_icmp_ge (tgt := 63) hx hb dX7_inputsOf_11 (by decide) (fun hc => ?_) (fun hc => ?_)
  · have hf := ifp hf hc
    refine lv_iload_n hx hb dX7_inputsOf_63 rfl (lv_at hl 2 rfl) ?_
    exact fin_i hx hb hr hlk hS hP (Option.some.inj hf) dX7_inputsOf_64
  · have hf := ifn hf hc
    refine lv_aload_n hx hb dX7_inputsOf_14 rfl (lv_at hl 0 rfl) ?_
    refine va_get (D := D) (ci := 7) (v := .ref (bd 2)) (C := RX7) (T := TX7) (N := 48) hx hb hts hin7 hown hK hP 0 (mw_o (S := S)) rfl 1 (by decide) hfl13 (fun _ h9 => h9) mw_f1 dX7_inputsOf_15 ?_
    refine lv_iload_n hx hb dX7_inputsOf_18 rfl (lv_at hl 1 rfl) ?_
    obtain ⟨hin, hf⟩ := zg_k hf
    refine va_iald hx hb hK hP 2 0 (mw_a1 (S := S)) rfl (inb_k hin) dX7_inputsOf_19 ?_
    refine lv_iconst (v := (-1)) hx hb dX7_inputsOf_20 (by decide) ?_
    refine lv_icmp_eq (tgt := 63) hx hb dX7_inputsOf_21 (by decide) (fun hc => ?_) (fun hc => ?_)
    · have hf := ifp hf hc
      refine lv_iload_n hx hb dX7_inputsOf_63 rfl (lv_at hl 2 rfl) ?_
      exact fin_i hx hb hr hlk hS hP (Option.some.inj hf) dX7_inputsOf_64
    · have hf := ifn hf hc
      refine lv_iload_n hx hb dX7_inputsOf_24 rfl (lv_at hl 2 rfl) ?_
      refine lv_aload_n hx hb dX7_inputsOf_25 rfl (lv_at hl 0 rfl) ?_
      refine va_get (D := D) (ci := 7) (v := .ref (bd 7)) (C := RX7) (T := TX7) (N := 48) hx hb hts hin7 hown hK hP 0 (mw_o (S := S)) rfl 6 (by decide) hfl28 (fun _ h9 => h9) mw_f6 dX7_inputsOf_26 ?_
      refine lv_iconst (v := (nI 4)) hx hb dX7_inputsOf_29 (by decide) ?_
      refine lv_iload_n hx hb dX7_inputsOf_30 rfl (lv_at hl 1 rfl) ?_
      refine lv_imul hx hb dX7_inputsOf_31 ?_
      refine lv_iload_n hx hb dX7_inputsOf_32 rfl (lv_at hl 3 rfl) ?_
      refine lv_iadd hx hb dX7_inputsOf_33 ?_
      obtain ⟨hin, hf⟩ := zg_k hf
      refine va_iald hx hb hK hP 7 0 (mw_a6 (S := S)) rfl (inb_k hin) dX7_inputsOf_34 ?_
      refine lv_iconst (v := (nI 1)) hx hb dX7_inputsOf_35 (by decide) ?_
      refine lv_icmp_le (tgt := 54) hx hb dX7_inputsOf_36 (by decide) (fun hc => ?_) (fun hc => ?_)
      · have hf := ifp hf hc
        refine lv_iconst (v := (nI 0)) hx hb dX7_inputsOf_54 (by decide) ?_
        refine lv_ior hx hb dX7_inputsOf_55 ?_
        refine lv_topi (fun x3 ex3 => ?_)
        have hf := zb_x hf ex3
        refine lv_istore_n (lv' := [(2, .int x3), (0, .ref (bd 0)), (1, .int p1), (3, .int x2)]) hx hb dX7_inputsOf_56 rfl hl (by decide) rfl (fun ls hl => ?_)
        obtain ⟨x4, ex4, hf⟩ := zb_k hf
        refine lv_iinc (v := x4) (lv' := [(3, .int x4), (2, .int x3), (0, .ref (bd 0)), (1, .int p1)]) hx hb dX7_inputsOf_57 hl (k := 3) rfl (by rw [ex4]; rfl) (by decide) rfl (fun ls hl => ?_)
        refine lv_goto (tgt := 4) hx hb dX7_inputsOf_60 (by decide) ?_
        exact ih4 x3 x4 hf _ _ _ hP hS (lv_sub hl [2, 3, 1, 0] rfl)
      · have hf := ifn hf hc
        refine lv_iconst (v := (nI 1)) hx hb dX7_inputsOf_39 (by decide) ?_
        refine lv_aload_n hx hb dX7_inputsOf_40 rfl (lv_at hl 0 rfl) ?_
        refine va_get (D := D) (ci := 7) (v := .ref (bd 8)) (C := RX7) (T := TX7) (N := 48) hx hb hts hin7 hown hK hP 0 (mw_o (S := S)) rfl 7 (by decide) hfl31 (fun _ h9 => h9) mw_f7 dX7_inputsOf_41 ?_
        refine lv_iconst (v := (nI 4)) hx hb dX7_inputsOf_44 (by decide) ?_
        refine lv_iload_n hx hb dX7_inputsOf_45 rfl (lv_at hl 1 rfl) ?_
        refine lv_imul hx hb dX7_inputsOf_46 ?_
        refine lv_iload_n hx hb dX7_inputsOf_47 rfl (lv_at hl 3 rfl) ?_
        refine lv_iadd hx hb dX7_inputsOf_48 ?_
        obtain ⟨hin, hf⟩ := zg_k hf
        refine va_iald hx hb hK hP 8 0 (mw_a7 (S := S)) rfl (inb_k hin) dX7_inputsOf_49 ?_
        refine lv_ishl hx hb dX7_inputsOf_50 ?_
        refine lv_goto (tgt := 55) hx hb dX7_inputsOf_51 (by decide) ?_
        refine lv_ior hx hb dX7_inputsOf_55 ?_
        refine lv_topi (fun x5 ex5 => ?_)
        have hf := zb_x hf ex5
        refine lv_istore_n (lv' := [(2, .int x5), (0, .ref (bd 0)), (1, .int p1), (3, .int x2)]) hx hb dX7_inputsOf_56 rfl hl (by decide) rfl (fun ls hl => ?_)
        obtain ⟨x6, ex6, hf⟩ := zb_k hf
        refine lv_iinc (v := x6) (lv' := [(3, .int x6), (2, .int x5), (0, .ref (bd 0)), (1, .int p1)]) hx hb dX7_inputsOf_57 hl (k := 3) rfl (by rw [ex6]; rfl) (by decide) rfl (fun ls hl => ?_)
        refine lv_goto (tgt := 4) hx hb dX7_inputsOf_60 (by decide) ?_
        exact ih4 x5 x6 hf _ _ _ hP hS (lv_sub hl [2, 3, 1, 0] rfl)
set_option maxHeartbeats 4000000 in
set_option maxRecDepth 100000 in
theorem c_X7_laysLongest {l : Launch} {D : va_G} {cyI cyJ cyZ : ClassId} {bd : Nat → Nat}  (hAd : AdOK 41 bd)  {S : St} {p1 : Int32} {SZ : St} (hf : m_X7_laysLongest S p1 = some SZ) : Met l yX7_laysLongest wsX7_laysLongest rl_X7_laysLongest (PreW D [(cyI, .int), (cyJ, .long), (cyZ, .boolean)] (mw cyI cyJ cyZ bd S) [.ref (bd 0), .int p1]) (PoV D (mw cyI cyJ cyZ bd SZ) (MA bd)) 0 0 (MA bd) := by
  refine met_go (cc := cX7_laysLongest) (maxL := 7) (ret := none) (by decide) rfl (Nat.le_of_ble_eq_true rfl) ?_
  intro p e s m args below meth c ls hx hb hr hml hts hown hlk hP hK hN hl
  have hown : s.vm.findClass RX7 = some m.cls := hown
  have hS : va_S (MA bd) s.heap s.heap [] := va_S.rf
  have hl : lv_has ls 7 [(0, .ref (bd 0)), (1, .int p1)] := hl
  have hin7 : ∀ w ∈ wsX70, w ∈ wsX7_laysLongest := by decide +kernel
  have hfl84 := hts (.fieldLink RX7 84 "MakewheelModel" "looked" "[I") (by decide +kernel)
  have hfl126 := hts (.fieldLink RX7 126 "MakewheelModel" "longest" "[I") (by decide +kernel)
  have hfl22 := hts (.fieldLink RX7 22 "MakewheelModel" "times" "[I") (by decide +kernel)
  have hfl123 := hts (.fieldLink RX7 123 "MakewheelModel" "needed" "[I") (by decide +kernel)
  unfold m_X7_laysLongest at hf
  refine lv_iconst (v := (nI 0)) hx hb dX7_laysLongest_0 (by decide) ?_
  refine lv_istore_n (lv' := [(2, .int (nI 0)), (0, .ref (bd 0)), (1, .int p1)]) hx hb dX7_laysLongest_1 rfl hl (by decide) rfl (fun ls hl => ?_)
  refine zl2_ind (F := (m_X7_laysLongest_B2 p1)) (R := SZ) (P := fun S1 x2 => ∀ (H : Heap) (locs : List Loc) (ls : Array Slot), va_P D vwCl (mw cyI cyJ cyZ bd S1) H → va_S (MA bd) s.heap H locs → lv_has ls 7 [(0, .ref (bd 0)), (1, .int p1), (2, .int x2)] → W p l e rl_X7_laysLongest s m args below meth c H locs 0 0 (MQ below (PoV D (mw cyI cyJ cyZ bd SZ) (MA bd)) args s 0 0 (MA bd)) (F0 m 2 ls [])) (fun rec2 ih2 S1 x2 hf H locs ls hP hS hl => ?_) FU S (nI 0) hf _ _ _ hP hS (lv_sub hl [1, 2, 0] rfl)
  unfold m_X7_laysLongest_B2 at hf
  refine lv_iload_n hx hb dX7_laysLongest_2 rfl (lv_at hl 2 rfl) ?_
  refine lv_bipush (v := (nI 32)) hx hb dX7_laysLongest_3 (by decide) ?_
  refine lv_icmp_ge (tgt := 37) hx hb dX7_laysLongest_5 (by decide) (fun hc => ?_) (fun hc => ?_)
  · have hf := ifp hf hc
    refine lv_iconst (v := (nI 0)) hx hb dX7_laysLongest_37 (by decide) ?_
    refine lv_istore_n (lv' := [(2, .int (nI 0)), (0, .ref (bd 0)), (1, .int p1)]) hx hb dX7_laysLongest_38 rfl hl (by decide) rfl (fun ls hl => ?_)
    refine zl2_ind (F := m_X7_laysLongest_B39) (R := SZ) (P := fun S3 x4 => ∀ (H : Heap) (locs : List Loc) (ls : Array Slot), va_P D vwCl (mw cyI cyJ cyZ bd S3) H → va_S (MA bd) s.heap H locs → lv_has ls 7 [(0, .ref (bd 0)), (2, .int x4)] → W p l e rl_X7_laysLongest s m args below meth c H locs 0 0 (MQ below (PoV D (mw cyI cyJ cyZ bd SZ) (MA bd)) args s 0 0 (MA bd)) (F0 m 39 ls [])) (fun rec39 ih39 S3 x4 hf H locs ls hP hS hl => ?_) FU S1 (nI 0) hf _ _ _ hP hS (lv_sub hl [1, 0] rfl)
    unfold m_X7_laysLongest_B39 at hf
    refine lv_iload_n hx hb dX7_laysLongest_39 rfl (lv_at hl 1 rfl) ?_
    refine lv_bipush (v := (nI 32)) hx hb dX7_laysLongest_40 (by decide) ?_
    refine lv_icmp_ge (tgt := 174) hx hb dX7_laysLongest_42 (by decide) (fun hc => ?_) (fun hc => ?_)
    · have hf := ifp hf hc
      cases Option.some.inj hf
      exact fin_v hx hb hr hlk hS hP dX7_laysLongest_174
    · have hf := ifn hf hc
      refine lv_iconst (v := (nI 0)) hx hb dX7_laysLongest_45 (by decide) ?_
      refine lv_istore_n (lv' := [(3, .int (nI 0)), (0, .ref (bd 0)), (2, .int x4)]) hx hb dX7_laysLongest_46 rfl hl (by decide) rfl (fun ls hl => ?_)
      refine zl2_ind (F := (m_X7_laysLongest_B47 x4 rec39)) (R := SZ) (P := fun S5 x6 => ∀ (H : Heap) (locs : List Loc) (ls : Array Slot), va_P D vwCl (mw cyI cyJ cyZ bd S5) H → va_S (MA bd) s.heap H locs → lv_has ls 7 [(0, .ref (bd 0)), (2, .int x4), (3, .int x6)] → W p l e rl_X7_laysLongest s m args below meth c H locs 0 0 (MQ below (PoV D (mw cyI cyJ cyZ bd SZ) (MA bd)) args s 0 0 (MA bd)) (F0 m 47 ls [])) (fun rec47 ih47 S5 x6 hf H locs ls hP hS hl => ?_) FU S3 (nI 0) hf _ _ _ hP hS (lv_sub hl [1, 2, 0] rfl)
      unfold m_X7_laysLongest_B47 at hf
      refine lv_iload_n hx hb dX7_laysLongest_47 rfl (lv_at hl 2 rfl) ?_
      refine lv_bipush (v := (nI 32)) hx hb dX7_laysLongest_48 (by decide) ?_
      refine lv_icmp_ge (tgt := 168) hx hb dX7_laysLongest_50 (by decide) (fun hc => ?_) (fun hc => ?_)
      · have hf := ifp hf hc
        obtain ⟨x7, ex7, hf⟩ := zb_k hf
        refine lv_iinc (v := x7) (lv' := [(2, .int x7), (0, .ref (bd 0)), (3, .int x6)]) hx hb dX7_laysLongest_168 hl (k := 1) rfl (by rw [ex7]; rfl) (by decide) rfl (fun ls hl => ?_)
        refine lv_goto (tgt := 39) hx hb dX7_laysLongest_171 (by decide) ?_
        exact ih39 S5 x7 hf _ _ _ hP hS (lv_sub hl [1, 0] rfl)
      · have hf := ifn hf hc
        refine lv_iconst (v := (nI 0)) hx hb dX7_laysLongest_53 (by decide) ?_
        refine lv_istore (lv' := [(4, .int (nI 0)), (0, .ref (bd 0)), (2, .int x4), (3, .int x6)]) hx hb dX7_laysLongest_54 hl (by decide) rfl (fun ls hl => ?_)
        refine zl2_ind (F := (m_X7_laysLongest_B56 x6 rec47)) (R := SZ) (P := fun S8 x9 => ∀ (H : Heap) (locs : List Loc) (ls : Array Slot), va_P D vwCl (mw cyI cyJ cyZ bd S8) H → va_S (MA bd) s.heap H locs → lv_has ls 7 [(0, .ref (bd 0)), (2, .int x4), (3, .int x6), (4, .int x9)] → W p l e rl_X7_laysLongest s m args below meth c H locs 0 0 (MQ below (PoV D (mw cyI cyJ cyZ bd SZ) (MA bd)) args s 0 0 (MA bd)) (F0 m 56 ls [])) (fun rec56 ih56 S8 x9 hf H locs ls hP hS hl => ?_) FU S5 (nI 0) hf _ _ _ hP hS (lv_sub hl [1, 2, 3, 0] rfl)
        unfold m_X7_laysLongest_B56 at hf
        refine lv_iload hx hb dX7_laysLongest_56 (lv_at hl 3 rfl) ?_
        refine lv_bipush (v := (nI 32)) hx hb dX7_laysLongest_58 (by decide) ?_
        refine lv_icmp_ge (tgt := 162) hx hb dX7_laysLongest_60 (by decide) (fun hc => ?_) (fun hc => ?_)
        · have hf := ifp hf hc
          obtain ⟨x10, ex10, hf⟩ := zb_k hf
          refine lv_iinc (v := x10) (lv' := [(3, .int x10), (0, .ref (bd 0)), (2, .int x4), (4, .int x9)]) hx hb dX7_laysLongest_162 hl (k := 2) rfl (by rw [ex10]; rfl) (by decide) rfl (fun ls hl => ?_)
          refine lv_goto (tgt := 47) hx hb dX7_laysLongest_165 (by decide) ?_
          exact ih47 S8 x10 hf _ _ _ hP hS (lv_sub hl [1, 2, 0] rfl)
        · have hf := ifn hf hc
          refine lv_aload_n hx hb dX7_laysLongest_63 rfl (lv_at hl 0 rfl) ?_
          refine va_get (D := D) (ci := 7) (v := .ref (bd 25)) (C := RX7) (T := TX7) (N := 48) hx hb hts hin7 hown hK hP 0 (mw_o (S := S8)) rfl 29 (by decide) hfl84 (fun _ h9 => h9) mw_f29 dX7_laysLongest_64 ?_
          refine lv_iload hx hb dX7_laysLongest_67 (lv_at hl 3 rfl) ?_
          obtain ⟨hin, hf⟩ := zg_k hf
          refine va_iald hx hb hK hP 25 0 (mw_a29 (S := S8)) rfl (inb_k hin) dX7_laysLongest_69 ?_
          refine lv_iconst (v := (nI 2)) hx hb dX7_laysLongest_70 (by decide) ?_
          have hJ103 : ∀ (t11 : Int32), m_X7_laysLongest_J103 x9 x6 S8 rec56 t11 = some SZ → ∀ (H : Heap) (locs : List Loc) (ls : Array Slot), va_P D vwCl (mw cyI cyJ cyZ bd S8) H → va_S (MA bd) s.heap H locs → lv_has ls 7 [(0, .ref (bd 0)), (2, .int x4), (3, .int x6), (4, .int x9)] → W p l e rl_X7_laysLongest s m args below meth c H locs 0 0 (MQ below (PoV D (mw cyI cyJ cyZ bd SZ) (MA bd)) args s 0 0 (MA bd)) (F0 m 103 ls [.int t11]) := by
            intro t11 hf H locs ls hP hS hl
            unfold m_X7_laysLongest_J103 at hf
            refine lv_istore (lv' := [(5, .int t11), (0, .ref (bd 0)), (2, .int x4), (3, .int x6), (4, .int x9)]) hx hb dX7_laysLongest_103 hl (by decide) rfl (fun ls hl => ?_)
            refine lv_aload_n hx hb dX7_laysLongest_105 rfl (lv_at hl 1 rfl) ?_
            refine va_get (D := D) (ci := 7) (v := .ref (bd 39)) (C := RX7) (T := TX7) (N := 48) hx hb hts hin7 hown hK hP 0 (mw_o (S := S8)) rfl 45 (by decide) hfl126 (fun _ h9 => h9) mw_f45 dX7_laysLongest_106 ?_
            refine lv_iload hx hb dX7_laysLongest_109 (lv_at hl 4 rfl) ?_
            obtain ⟨hin, hf⟩ := zg_k hf
            refine va_iald hx hb hK hP 39 0 (mw_a45 (S := S8)) rfl (inb_k hin) dX7_laysLongest_111 ?_
            refine lv_aload_n hx hb dX7_laysLongest_112 rfl (lv_at hl 1 rfl) ?_
            refine va_get (D := D) (ci := 7) (v := .ref (bd 5)) (C := RX7) (T := TX7) (N := 48) hx hb hts hin7 hown hK hP 0 (mw_o (S := S8)) rfl 4 (by decide) hfl22 (fun _ h9 => h9) mw_f4 dX7_laysLongest_113 ?_
            refine lv_iload_n hx hb dX7_laysLongest_116 rfl (lv_at hl 3 rfl) ?_
            refine lv_iconst (v := (nI 2)) hx hb dX7_laysLongest_117 (by decide) ?_
            refine lv_idiv hx hb dX7_laysLongest_118 (by decide) ?_
            obtain ⟨hin, hf⟩ := zg_k hf
            refine va_iald hx hb hK hP 5 0 (mw_a4 (S := S8)) rfl (inb_k hin) dX7_laysLongest_119 ?_
            refine lv_iadd hx hb dX7_laysLongest_120 ?_
            refine lv_topi (fun x12 ex12 => ?_)
            have hf := zb_x hf ex12
            refine lv_istore (lv' := [(6, .int x12), (5, .int t11), (0, .ref (bd 0)), (2, .int x4), (3, .int x6), (4, .int x9)]) hx hb dX7_laysLongest_121 hl (by decide) rfl (fun ls hl => ?_)
            refine lv_aload_n hx hb dX7_laysLongest_123 rfl (lv_at hl 2 rfl) ?_
            refine va_get (D := D) (ci := 7) (v := .ref (bd 39)) (C := RX7) (T := TX7) (N := 48) hx hb hts hin7 hown hK hP 0 (mw_o (S := S8)) rfl 45 (by decide) hfl126 (fun _ h9 => h9) mw_f45 dX7_laysLongest_124 ?_
            refine lv_iload_n hx hb dX7_laysLongest_127 rfl (lv_at hl 4 rfl) ?_
            refine lv_iload hx hb dX7_laysLongest_128 (lv_at hl 1 rfl) ?_
            have hJ155 : ∀ (t13 : Int32), m_X7_laysLongest_J155 x6 S8 x9 rec56 t13 = some SZ → ∀ (H : Heap) (locs : List Loc) (ls : Array Slot), va_P D vwCl (mw cyI cyJ cyZ bd S8) H → va_S (MA bd) s.heap H locs → lv_has ls 7 [(0, .ref (bd 0)), (2, .int x4), (3, .int x6), (4, .int x9)] → W p l e rl_X7_laysLongest s m args below meth c H locs 0 0 (MQ below (PoV D (mw cyI cyJ cyZ bd SZ) (MA bd)) args s 0 0 (MA bd)) (F0 m 155 ls [.int t13, .int x6, .ref (bd 39)]) := by
              intro t13 hf H locs ls hP hS hl
              unfold m_X7_laysLongest_J155 at hf
              obtain ⟨hin, hf⟩ := zg_k hf
              refine va_iast hx hb hK hP (mw_D hAd) hS 39 0 (mw_a45 (S := S8)) rfl (inb_k hin) dX7_laysLongest_155 (fun H locs hP _ hS => ?_)
              have hP : va_P D vwCl (mw cyI cyJ cyZ bd (wi S8 45 (Int32.toNatClampNeg x6) t13)) H := by rw [← mw_s45]; exact hP
              obtain ⟨S14, eS14, hf⟩ := zb_k hf
              rw [← eS14] at hP
              obtain ⟨x15, ex15, hf⟩ := zb_k hf
              refine lv_iinc (v := x15) (lv' := [(4, .int x15), (0, .ref (bd 0)), (2, .int x4), (3, .int x6)]) hx hb dX7_laysLongest_156 hl (k := 3) rfl (by rw [ex15]; rfl) (by decide) rfl (fun ls hl => ?_)
              refine lv_goto (tgt := 56) hx hb dX7_laysLongest_159 (by decide) ?_
              exact ih56 S14 x15 hf _ _ _ hP hS (lv_sub hl [1, 2, 3, 0] rfl)
            have hJ149 : m_X7_laysLongest_J149 x6 S8 x9 rec56 = some SZ → ∀ (H : Heap) (locs : List Loc) (ls : Array Slot), va_P D vwCl (mw cyI cyJ cyZ bd S8) H → va_S (MA bd) s.heap H locs → lv_has ls 7 [(0, .ref (bd 0)), (2, .int x4), (3, .int x6), (4, .int x9)] → W p l e rl_X7_laysLongest s m args below meth c H locs 0 0 (MQ below (PoV D (mw cyI cyJ cyZ bd SZ) (MA bd)) args s 0 0 (MA bd)) (F0 m 149 ls [.int x6, .ref (bd 39)]) := by
              intro  hf H locs ls hP hS hl
              unfold m_X7_laysLongest_J149 at hf
              refine lv_aload_n hx hb dX7_laysLongest_149 rfl (lv_at hl 0 rfl) ?_
              refine va_get (D := D) (ci := 7) (v := .ref (bd 39)) (C := RX7) (T := TX7) (N := 48) hx hb hts hin7 hown hK hP 0 (mw_o (S := S8)) rfl 45 (by decide) hfl126 (fun _ h9 => h9) mw_f45 dX7_laysLongest_150 ?_
              refine lv_iload_n hx hb dX7_laysLongest_153 rfl (lv_at hl 2 rfl) ?_
              obtain ⟨hin, hf⟩ := zg_k hf
              refine va_iald hx hb hK hP 39 0 (mw_a45 (S := S8)) rfl (inb_k hin) dX7_laysLongest_154 ?_
              exact hJ155 (ri S8 45 x6) hf _ _ _ hP hS (lv_sub hl [0, 1, 2, 3] rfl)
            refine lv_if_eq (tgt := 149) hx hb dX7_laysLongest_130 (by decide) (fun hc => ?_) (fun hc => ?_)
            · have hf := ifp hf hc
              exact hJ149  hf _ _ _ hP hS (lv_sub hl [2, 3, 4, 5] rfl)
            · have hf := ifn hf hc
              refine lv_iload hx hb dX7_laysLongest_133 (lv_at hl 0 rfl) ?_
              refine lv_aload_n hx hb dX7_laysLongest_135 rfl (lv_at hl 2 rfl) ?_
              refine va_get (D := D) (ci := 7) (v := .ref (bd 39)) (C := RX7) (T := TX7) (N := 48) hx hb hts hin7 hown hK hP 0 (mw_o (S := S8)) rfl 45 (by decide) hfl126 (fun _ h9 => h9) mw_f45 dX7_laysLongest_136 ?_
              refine lv_iload_n hx hb dX7_laysLongest_139 rfl (lv_at hl 4 rfl) ?_
              obtain ⟨hin, hf⟩ := zg_k hf
              refine va_iald hx hb hK hP 39 0 (mw_a45 (S := S8)) rfl (inb_k hin) dX7_laysLongest_140 ?_
              refine lv_icmp_le (tgt := 149) hx hb dX7_laysLongest_141 (by decide) (fun hc => ?_) (fun hc => ?_)
              · have hf := ifp hf hc
                exact hJ149  hf _ _ _ hP hS (lv_sub hl [2, 3, 4, 5] rfl)
              · have hf := ifn hf hc
                refine lv_iload hx hb dX7_laysLongest_144 (lv_at hl 0 rfl) ?_
                refine lv_goto (tgt := 155) hx hb dX7_laysLongest_146 (by decide) ?_
                exact hJ155 x12 hf _ _ _ hP hS (lv_sub hl [2, 3, 4, 5] rfl)
          have hJ102 : m_X7_laysLongest_J102 x9 x6 S8 rec56 = some SZ → ∀ (H : Heap) (locs : List Loc) (ls : Array Slot), va_P D vwCl (mw cyI cyJ cyZ bd S8) H → va_S (MA bd) s.heap H locs → lv_has ls 7 [(0, .ref (bd 0)), (2, .int x4), (3, .int x6), (4, .int x9)] → W p l e rl_X7_laysLongest s m args below meth c H locs 0 0 (MQ below (PoV D (mw cyI cyJ cyZ bd SZ) (MA bd)) args s 0 0 (MA bd)) (F0 m 102 ls []) := by
            intro  hf H locs ls hP hS hl
            unfold m_X7_laysLongest_J102 at hf
            refine lv_iconst (v := (nI 0)) hx hb dX7_laysLongest_102 (by decide) ?_
            exact hJ103 (nI 0) hf _ _ _ hP hS (lv_sub hl [0, 1, 2, 3] rfl)
          refine lv_icmp_ne (tgt := 102) hx hb dX7_laysLongest_71 (by decide) (fun hc => ?_) (fun hc => ?_)
          · have hf := ifn hf hc
            exact hJ102  hf _ _ _ hP hS (lv_sub hl [0, 1, 2, 3] rfl)
          · have hf := ifp hf hc
            refine lv_aload_n hx hb dX7_laysLongest_74 rfl (lv_at hl 0 rfl) ?_
            refine va_get (D := D) (ci := 7) (v := .ref (bd 38)) (C := RX7) (T := TX7) (N := 48) hx hb hts hin7 hown hK hP 0 (mw_o (S := S8)) rfl 44 (by decide) hfl123 (fun _ h9 => h9) mw_f44 dX7_laysLongest_75 ?_
            refine lv_iload hx hb dX7_laysLongest_78 (lv_at hl 3 rfl) ?_
            obtain ⟨hin, hf⟩ := zg_k hf
            refine va_iald hx hb hK hP 38 0 (mw_a44 (S := S8)) rfl (inb_k hin) dX7_laysLongest_80 ?_
            refine lv_iload_n hx hb dX7_laysLongest_81 rfl (lv_at hl 2 rfl) ?_
            obtain ⟨x16, hc82, hf⟩ := zo_k hf
            refine cal_i (rnS (As := [.int (ri S8 44 x9), .int x6]) (rest := []) ⟨hx, hb, hml, hown, hts⟩ (c_X7_has hAd  hc82) (va_cwS 2 hts gX7_laysLongest_X7_has rfl rfl rfl cdS_X7_has ⟨Nat.le_of_ble_eq_true rfl, Nat.le_of_ble_eq_true rfl⟩) hP hK hN rfl hl.1 rfl (Nat.le_of_ble_eq_true rfl) dX7_laysLongest_82 ⟨Nat.zero_le _, Nat.zero_le _⟩) hS (fun H locs hP hS => ?_)
            refine lv_if_eq (tgt := 102) hx hb dX7_laysLongest_85 (by decide) (fun hc => ?_) (fun hc => ?_)
            · have hf := ifp hf hc
              exact hJ102  hf _ _ _ hP hS (lv_sub hl [0, 1, 2, 3] rfl)
            · have hf := ifn hf hc
              refine lv_aload_n hx hb dX7_laysLongest_88 rfl (lv_at hl 0 rfl) ?_
              refine va_get (D := D) (ci := 7) (v := .ref (bd 39)) (C := RX7) (T := TX7) (N := 48) hx hb hts hin7 hown hK hP 0 (mw_o (S := S8)) rfl 45 (by decide) hfl126 (fun _ h9 => h9) mw_f45 dX7_laysLongest_89 ?_
              refine lv_iload hx hb dX7_laysLongest_92 (lv_at hl 3 rfl) ?_
              obtain ⟨hin, hf⟩ := zg_k hf
              refine va_iald hx hb hK hP 39 0 (mw_a45 (S := S8)) rfl (inb_k hin) dX7_laysLongest_94 ?_
              refine lv_if_le (tgt := 102) hx hb dX7_laysLongest_95 (by decide) (fun hc => ?_) (fun hc => ?_)
              · have hf := ifp hf hc
                exact hJ102  hf _ _ _ hP hS (lv_sub hl [0, 1, 2, 3] rfl)
              · have hf := ifn hf hc
                refine lv_iconst (v := (nI 1)) hx hb dX7_laysLongest_98 (by decide) ?_
                refine lv_goto (tgt := 103) hx hb dX7_laysLongest_99 (by decide) ?_
                exact hJ103 (nI 1) hf _ _ _ hP hS (lv_sub hl [0, 1, 2, 3] rfl)
  · have hf := ifn hf hc
    refine lv_aload_n hx hb dX7_laysLongest_8 rfl (lv_at hl 0 rfl) ?_
    refine va_get (D := D) (ci := 7) (v := .ref (bd 39)) (C := RX7) (T := TX7) (N := 48) hx hb hts hin7 hown hK hP 0 (mw_o (S := S1)) rfl 45 (by decide) hfl126 (fun _ h9 => h9) mw_f45 dX7_laysLongest_9 ?_
    refine lv_iload_n hx hb dX7_laysLongest_12 rfl (lv_at hl 2 rfl) ?_
    refine lv_iload_n hx hb dX7_laysLongest_13 rfl (lv_at hl 2 rfl) ?_
    refine lv_iload_n hx hb dX7_laysLongest_14 rfl (lv_at hl 1 rfl) ?_
    have hJ30 : ∀ (t17 : Int32), m_X7_laysLongest_J30 x2 S1 rec2 t17 = some SZ → ∀ (H : Heap) (locs : List Loc) (ls : Array Slot), va_P D vwCl (mw cyI cyJ cyZ bd S1) H → va_S (MA bd) s.heap H locs → lv_has ls 7 [(0, .ref (bd 0)), (1, .int p1), (2, .int x2)] → W p l e rl_X7_laysLongest s m args below meth c H locs 0 0 (MQ below (PoV D (mw cyI cyJ cyZ bd SZ) (MA bd)) args s 0 0 (MA bd)) (F0 m 30 ls [.int t17, .int x2, .ref (bd 39)]) := by
      intro t17 hf H locs ls hP hS hl
      unfold m_X7_laysLongest_J30 at hf
      obtain ⟨hin, hf⟩ := zg_k hf
      refine va_iast hx hb hK hP (mw_D hAd) hS 39 0 (mw_a45 (S := S1)) rfl (inb_k hin) dX7_laysLongest_30 (fun H locs hP _ hS => ?_)
      have hP : va_P D vwCl (mw cyI cyJ cyZ bd (wi S1 45 (Int32.toNatClampNeg x2) t17)) H := by rw [← mw_s45]; exact hP
      obtain ⟨S18, eS18, hf⟩ := zb_k hf
      rw [← eS18] at hP
      obtain ⟨x19, ex19, hf⟩ := zb_k hf
      refine lv_iinc (v := x19) (lv' := [(2, .int x19), (0, .ref (bd 0)), (1, .int p1)]) hx hb dX7_laysLongest_31 hl (k := 2) rfl (by rw [ex19]; rfl) (by decide) rfl (fun ls hl => ?_)
      refine lv_goto (tgt := 2) hx hb dX7_laysLongest_34 (by decide) ?_
      exact ih2 S18 x19 hf _ _ _ hP hS (lv_sub hl [1, 2, 0] rfl)
    refine lv_icmp_ne (tgt := 29) hx hb dX7_laysLongest_15 (by decide) (fun hc => ?_) (fun hc => ?_)
    · have hf := ifn hf hc
      refine lv_iconst (v := (nI 0)) hx hb dX7_laysLongest_29 (by decide) ?_
      exact hJ30 (nI 0) hf _ _ _ hP hS (lv_sub hl [0, 1, 2] rfl)
    · have hf := ifp hf hc
      refine lv_aload_n hx hb dX7_laysLongest_18 rfl (lv_at hl 0 rfl) ?_
      refine va_get (D := D) (ci := 7) (v := .ref (bd 5)) (C := RX7) (T := TX7) (N := 48) hx hb hts hin7 hown hK hP 0 (mw_o (S := S1)) rfl 4 (by decide) hfl22 (fun _ h9 => h9) mw_f4 dX7_laysLongest_19 ?_
      refine lv_iload_n hx hb dX7_laysLongest_22 rfl (lv_at hl 2 rfl) ?_
      refine lv_iconst (v := (nI 2)) hx hb dX7_laysLongest_23 (by decide) ?_
      refine lv_idiv hx hb dX7_laysLongest_24 (by decide) ?_
      obtain ⟨hin, hf⟩ := zg_k hf
      refine va_iald hx hb hK hP 5 0 (mw_a4 (S := S1)) rfl (inb_k hin) dX7_laysLongest_25 ?_
      refine lv_goto (tgt := 30) hx hb dX7_laysLongest_26 (by decide) ?_
      exact hJ30 (ri S1 4 (x2 / (nI 2))) hf _ _ _ hP hS (lv_sub hl [0, 1, 2] rfl)
set_option maxHeartbeats 4000000 in
set_option maxRecDepth 100000 in
theorem c_X7_laysNeeded {l : Launch} {D : va_G} {cyI cyJ cyZ : ClassId} {bd : Nat → Nat}  (hAd : AdOK 41 bd)  {S : St}  {SZ : St} (hf : m_X7_laysNeeded S = some SZ) : Met l yX7_laysNeeded wsX7_laysNeeded rl_X7_laysNeeded (PreW D [(cyI, .int), (cyJ, .long), (cyZ, .boolean)] (mw cyI cyJ cyZ bd S) [.ref (bd 0)]) (PoV D (mw cyI cyJ cyZ bd SZ) (MA bd)) 0 0 (MA bd) := by
  refine met_go (cc := cX7_laysNeeded) (maxL := 6) (ret := none) (by decide) rfl (Nat.le_of_ble_eq_true rfl) ?_
  intro p e s m args below meth c ls hx hb hr hml hts hown hlk hP hK hN hl
  have hown : s.vm.findClass RX7 = some m.cls := hown
  have hS : va_S (MA bd) s.heap s.heap [] := va_S.rf
  have hl : lv_has ls 6 [(0, .ref (bd 0))] := hl
  have hin7 : ∀ w ∈ wsX70, w ∈ wsX7_laysNeeded := by decide +kernel
  have hfl123 := hts (.fieldLink RX7 123 "MakewheelModel" "needed" "[I") (by decide +kernel)
  have hfl108 := hts (.fieldLink RX7 108 "MakewheelModel" "reads" "[I") (by decide +kernel)
  have hfl84 := hts (.fieldLink RX7 84 "MakewheelModel" "looked" "[I") (by decide +kernel)
  have hfl111 := hts (.fieldLink RX7 111 "MakewheelModel" "slots" "[I") (by decide +kernel)
  have hfl28 := hts (.fieldLink RX7 28 "MakewheelModel" "whats" "[I") (by decide +kernel)
  have hfl31 := hts (.fieldLink RX7 31 "MakewheelModel" "whiches" "[I") (by decide +kernel)
  unfold m_X7_laysNeeded at hf
  refine lv_iconst (v := (nI 0)) hx hb dX7_laysNeeded_0 (by decide) ?_
  refine lv_istore_n (lv' := [(1, .int (nI 0)), (0, .ref (bd 0))]) hx hb dX7_laysNeeded_1 rfl hl (by decide) rfl (fun ls hl => ?_)
  refine zl2_ind (F := m_X7_laysNeeded_B2) (R := SZ) (P := fun S1 x2 => ∀ (H : Heap) (locs : List Loc) (ls : Array Slot), va_P D vwCl (mw cyI cyJ cyZ bd S1) H → va_S (MA bd) s.heap H locs → lv_has ls 6 [(0, .ref (bd 0)), (1, .int x2)] → W p l e rl_X7_laysNeeded s m args below meth c H locs 0 0 (MQ below (PoV D (mw cyI cyJ cyZ bd SZ) (MA bd)) args s 0 0 (MA bd)) (F0 m 2 ls [])) (fun rec2 ih2 S1 x2 hf H locs ls hP hS hl => ?_) FU S (nI 0) hf _ _ _ hP hS (lv_sub hl [1, 0] rfl)
  unfold m_X7_laysNeeded_B2 at hf
  refine lv_iload_n hx hb dX7_laysNeeded_2 rfl (lv_at hl 1 rfl) ?_
  refine lv_bipush (v := (nI 32)) hx hb dX7_laysNeeded_3 (by decide) ?_
  refine lv_icmp_ge (tgt := 132) hx hb dX7_laysNeeded_5 (by decide) (fun hc => ?_) (fun hc => ?_)
  · have hf := ifp hf hc
    cases Option.some.inj hf
    exact fin_v hx hb hr hlk hS hP dX7_laysNeeded_132
  · have hf := ifn hf hc
    refine lv_aload_n hx hb dX7_laysNeeded_8 rfl (lv_at hl 0 rfl) ?_
    refine va_get (D := D) (ci := 7) (v := .ref (bd 38)) (C := RX7) (T := TX7) (N := 48) hx hb hts hin7 hown hK hP 0 (mw_o (S := S1)) rfl 44 (by decide) hfl123 (fun _ h9 => h9) mw_f44 dX7_laysNeeded_9 ?_
    refine lv_iload_n hx hb dX7_laysNeeded_12 rfl (lv_at hl 1 rfl) ?_
    refine lv_iconst (v := (nI 0)) hx hb dX7_laysNeeded_13 (by decide) ?_
    obtain ⟨hin, hf⟩ := zg_k hf
    refine va_iast hx hb hK hP (mw_D hAd) hS 38 0 (mw_a44 (S := S1)) rfl (inb_k hin) dX7_laysNeeded_14 (fun H locs hP _ hS => ?_)
    have hP : va_P D vwCl (mw cyI cyJ cyZ bd (wi S1 44 (Int32.toNatClampNeg x2) (nI 0))) H := by rw [← mw_s44]; exact hP
    obtain ⟨S3, eS3, hf⟩ := zb_k hf
    rw [← eS3] at hP
    refine lv_iconst (v := (nI 0)) hx hb dX7_laysNeeded_15 (by decide) ?_
    refine lv_istore_n (lv' := [(2, .int (nI 0)), (0, .ref (bd 0)), (1, .int x2)]) hx hb dX7_laysNeeded_16 rfl hl (by decide) rfl (fun ls hl => ?_)
    refine zl2_ind (F := (m_X7_laysNeeded_B17 x2 rec2)) (R := SZ) (P := fun S4 x5 => ∀ (H : Heap) (locs : List Loc) (ls : Array Slot), va_P D vwCl (mw cyI cyJ cyZ bd S4) H → va_S (MA bd) s.heap H locs → lv_has ls 6 [(0, .ref (bd 0)), (1, .int x2), (2, .int x5)] → W p l e rl_X7_laysNeeded s m args below meth c H locs 0 0 (MQ below (PoV D (mw cyI cyJ cyZ bd SZ) (MA bd)) args s 0 0 (MA bd)) (F0 m 17 ls [])) (fun rec17 ih17 S4 x5 hf H locs ls hP hS hl => ?_) FU S3 (nI 0) hf _ _ _ hP hS (lv_sub hl [1, 2, 0] rfl)
    unfold m_X7_laysNeeded_B17 at hf
    refine lv_iload_n hx hb dX7_laysNeeded_17 rfl (lv_at hl 2 rfl) ?_
    refine lv_aload_n hx hb dX7_laysNeeded_18 rfl (lv_at hl 0 rfl) ?_
    refine va_get (D := D) (ci := 7) (v := .ref (bd 33)) (C := RX7) (T := TX7) (N := 48) hx hb hts hin7 hown hK hP 0 (mw_o (S := S4)) rfl 38 (by decide) hfl108 (fun _ h9 => h9) mw_f38 dX7_laysNeeded_19 ?_
    refine lv_iload_n hx hb dX7_laysNeeded_22 rfl (lv_at hl 1 rfl) ?_
    obtain ⟨hin, hf⟩ := zg_k hf
    refine va_iald hx hb hK hP 33 0 (mw_a38 (S := S4)) rfl (inb_k hin) dX7_laysNeeded_23 ?_
    have hJ126 : m_X7_laysNeeded_J126 x2 rec2 S4 = some SZ → ∀ (H : Heap) (locs : List Loc) (ls : Array Slot), va_P D vwCl (mw cyI cyJ cyZ bd S4) H → va_S (MA bd) s.heap H locs → lv_has ls 6 [(0, .ref (bd 0)), (1, .int x2)] → W p l e rl_X7_laysNeeded s m args below meth c H locs 0 0 (MQ below (PoV D (mw cyI cyJ cyZ bd SZ) (MA bd)) args s 0 0 (MA bd)) (F0 m 126 ls []) := by
      intro  hf H locs ls hP hS hl
      unfold m_X7_laysNeeded_J126 at hf
      obtain ⟨x6, ex6, hf⟩ := zb_k hf
      refine lv_iinc (v := x6) (lv' := [(1, .int x6), (0, .ref (bd 0))]) hx hb dX7_laysNeeded_126 hl (k := 1) rfl (by rw [ex6]; rfl) (by decide) rfl (fun ls hl => ?_)
      refine lv_goto (tgt := 2) hx hb dX7_laysNeeded_129 (by decide) ?_
      exact ih2 S4 x6 hf _ _ _ hP hS (lv_sub hl [1, 0] rfl)
    refine lv_icmp_ge (tgt := 126) hx hb dX7_laysNeeded_24 (by decide) (fun hc => ?_) (fun hc => ?_)
    · have hf := ifp hf hc
      exact hJ126  hf _ _ _ hP hS (lv_sub hl [0, 1] rfl)
    · have hf := ifn hf hc
      refine lv_aload_n hx hb dX7_laysNeeded_27 rfl (lv_at hl 0 rfl) ?_
      refine va_get (D := D) (ci := 7) (v := .ref (bd 25)) (C := RX7) (T := TX7) (N := 48) hx hb hts hin7 hown hK hP 0 (mw_o (S := S4)) rfl 29 (by decide) hfl84 (fun _ h9 => h9) mw_f29 dX7_laysNeeded_28 ?_
      refine lv_iload_n hx hb dX7_laysNeeded_31 rfl (lv_at hl 1 rfl) ?_
      obtain ⟨hin, hf⟩ := zg_k hf
      refine va_iald hx hb hK hP 25 0 (mw_a29 (S := S4)) rfl (inb_k hin) dX7_laysNeeded_32 ?_
      refine lv_iconst (v := (nI 2)) hx hb dX7_laysNeeded_33 (by decide) ?_
      refine lv_icmp_ne (tgt := 126) hx hb dX7_laysNeeded_34 (by decide) (fun hc => ?_) (fun hc => ?_)
      · have hf := ifn hf hc
        exact hJ126  hf _ _ _ hP hS (lv_sub hl [0, 1] rfl)
      · have hf := ifp hf hc
        refine lv_aload_n hx hb dX7_laysNeeded_37 rfl (lv_at hl 0 rfl) ?_
        refine va_get (D := D) (ci := 7) (v := .ref (bd 34)) (C := RX7) (T := TX7) (N := 48) hx hb hts hin7 hown hK hP 0 (mw_o (S := S4)) rfl 39 (by decide) hfl111 (fun _ h9 => h9) mw_f39 dX7_laysNeeded_38 ?_
        refine lv_iconst (v := (nI 5)) hx hb dX7_laysNeeded_41 (by decide) ?_
        refine lv_iload_n hx hb dX7_laysNeeded_42 rfl (lv_at hl 1 rfl) ?_
        refine lv_imul hx hb dX7_laysNeeded_43 ?_
        refine lv_iload_n hx hb dX7_laysNeeded_44 rfl (lv_at hl 2 rfl) ?_
        refine lv_iadd hx hb dX7_laysNeeded_45 ?_
        obtain ⟨hin, hf⟩ := zg_k hf
        refine va_iald hx hb hK hP 34 0 (mw_a39 (S := S4)) rfl (inb_k hin) dX7_laysNeeded_46 ?_
        refine lv_topi (fun x7 ex7 => ?_)
        have hf := zb_x hf ex7
        refine lv_istore_n (lv' := [(3, .int x7), (0, .ref (bd 0)), (1, .int x2), (2, .int x5)]) hx hb dX7_laysNeeded_47 rfl hl (by decide) rfl (fun ls hl => ?_)
        refine lv_iconst (v := (nI 4)) hx hb dX7_laysNeeded_48 (by decide) ?_
        refine lv_iload_n hx hb dX7_laysNeeded_49 rfl (lv_at hl 2 rfl) ?_
        refine lv_iconst (v := (nI 2)) hx hb dX7_laysNeeded_50 (by decide) ?_
        refine lv_idiv hx hb dX7_laysNeeded_51 (by decide) ?_
        refine lv_imul hx hb dX7_laysNeeded_52 ?_
        refine lv_iload_n hx hb dX7_laysNeeded_53 rfl (lv_at hl 0 rfl) ?_
        refine lv_iadd hx hb dX7_laysNeeded_54 ?_
        refine lv_topi (fun x8 ex8 => ?_)
        have hf := zb_x hf ex8
        refine lv_istore (lv' := [(4, .int x8), (3, .int x7), (0, .ref (bd 0)), (1, .int x2), (2, .int x5)]) hx hb dX7_laysNeeded_55 hl (by decide) rfl (fun ls hl => ?_)
        refine lv_iload_n hx hb dX7_laysNeeded_57 rfl (lv_at hl 1 rfl) ?_
        refine lv_iconst (v := (nI 4)) hx hb dX7_laysNeeded_58 (by decide) ?_
        have hJ78 : ∀ (t9 : Int32), m_X7_laysNeeded_J78 x2 S4 x5 rec17 x8 t9 = some SZ → ∀ (H : Heap) (locs : List Loc) (ls : Array Slot), va_P D vwCl (mw cyI cyJ cyZ bd S4) H → va_S (MA bd) s.heap H locs → lv_has ls 6 [(4, .int x8), (0, .ref (bd 0)), (1, .int x2), (2, .int x5)] → W p l e rl_X7_laysNeeded s m args below meth c H locs 0 0 (MQ below (PoV D (mw cyI cyJ cyZ bd SZ) (MA bd)) args s 0 0 (MA bd)) (F0 m 78 ls [.int t9]) := by
          intro t9 hf H locs ls hP hS hl
          unfold m_X7_laysNeeded_J78 at hf
          refine lv_istore (lv' := [(5, .int t9), (4, .int x8), (0, .ref (bd 0)), (1, .int x2), (2, .int x5)]) hx hb dX7_laysNeeded_78 hl (by decide) rfl (fun ls hl => ?_)
          refine lv_aload_n hx hb dX7_laysNeeded_80 rfl (lv_at hl 2 rfl) ?_
          refine va_get (D := D) (ci := 7) (v := .ref (bd 38)) (C := RX7) (T := TX7) (N := 48) hx hb hts hin7 hown hK hP 0 (mw_o (S := S4)) rfl 44 (by decide) hfl123 (fun _ h9 => h9) mw_f44 dX7_laysNeeded_81 ?_
          refine lv_iload_n hx hb dX7_laysNeeded_84 rfl (lv_at hl 3 rfl) ?_
          refine lv_dup2_11 hx hb dX7_laysNeeded_85 rfl rfl ?_
          obtain ⟨hin, hf⟩ := zg_k hf
          refine va_iald hx hb hK hP 38 0 (mw_a44 (S := S4)) rfl (inb_k hin) dX7_laysNeeded_86 ?_
          refine lv_iload hx hb dX7_laysNeeded_87 (lv_at hl 0 rfl) ?_
          have hJ118 : ∀ (t10 : Int32), m_X7_laysNeeded_J118 x2 S4 x5 rec17 t10 = some SZ → ∀ (H : Heap) (locs : List Loc) (ls : Array Slot), va_P D vwCl (mw cyI cyJ cyZ bd S4) H → va_S (MA bd) s.heap H locs → lv_has ls 6 [(0, .ref (bd 0)), (1, .int x2), (2, .int x5)] → W p l e rl_X7_laysNeeded s m args below meth c H locs 0 0 (MQ below (PoV D (mw cyI cyJ cyZ bd SZ) (MA bd)) args s 0 0 (MA bd)) (F0 m 118 ls [.int t10, .int (ri S4 44 x2), .int x2, .ref (bd 38)]) := by
            intro t10 hf H locs ls hP hS hl
            unfold m_X7_laysNeeded_J118 at hf
            refine lv_ior hx hb dX7_laysNeeded_118 ?_
            obtain ⟨hin, hf⟩ := zg_k hf
            refine va_iast hx hb hK hP (mw_D hAd) hS 38 0 (mw_a44 (S := S4)) rfl (inb_k hin) dX7_laysNeeded_119 (fun H locs hP _ hS => ?_)
            have hP : va_P D vwCl (mw cyI cyJ cyZ bd (wi S4 44 (Int32.toNatClampNeg x2) ((ri S4 44 x2) ||| t10))) H := by rw [← mw_s44]; exact hP
            obtain ⟨S11, eS11, hf⟩ := zb_k hf
            rw [← eS11] at hP
            obtain ⟨x12, ex12, hf⟩ := zb_k hf
            refine lv_iinc (v := x12) (lv' := [(2, .int x12), (0, .ref (bd 0)), (1, .int x2)]) hx hb dX7_laysNeeded_120 hl (k := 2) rfl (by rw [ex12]; rfl) (by decide) rfl (fun ls hl => ?_)
            refine lv_goto (tgt := 17) hx hb dX7_laysNeeded_123 (by decide) ?_
            exact ih17 S11 x12 hf _ _ _ hP hS (lv_sub hl [1, 2, 0] rfl)
          refine lv_if_eq (tgt := 117) hx hb dX7_laysNeeded_89 (by decide) (fun hc => ?_) (fun hc => ?_)
          · have hf := ifp hf hc
            refine lv_iconst (v := (nI 0)) hx hb dX7_laysNeeded_117 (by decide) ?_
            exact hJ118 (nI 0) hf _ _ _ hP hS (lv_sub hl [2, 3, 4] rfl)
          · have hf := ifn hf hc
            refine lv_iconst (v := (nI 1)) hx hb dX7_laysNeeded_92 (by decide) ?_
            refine lv_aload_n hx hb dX7_laysNeeded_93 rfl (lv_at hl 2 rfl) ?_
            refine va_get (D := D) (ci := 7) (v := .ref (bd 7)) (C := RX7) (T := TX7) (N := 48) hx hb hts hin7 hown hK hP 0 (mw_o (S := S4)) rfl 6 (by decide) hfl28 (fun _ h9 => h9) mw_f6 dX7_laysNeeded_94 ?_
            refine lv_iload hx hb dX7_laysNeeded_97 (lv_at hl 1 rfl) ?_
            obtain ⟨hin, hf⟩ := zg_k hf
            refine va_iald hx hb hK hP 7 0 (mw_a6 (S := S4)) rfl (inb_k hin) dX7_laysNeeded_99 ?_
            refine lv_aload_n hx hb dX7_laysNeeded_100 rfl (lv_at hl 2 rfl) ?_
            refine va_get (D := D) (ci := 7) (v := .ref (bd 8)) (C := RX7) (T := TX7) (N := 48) hx hb hts hin7 hown hK hP 0 (mw_o (S := S4)) rfl 7 (by decide) hfl31 (fun _ h9 => h9) mw_f7 dX7_laysNeeded_101 ?_
            refine lv_iload hx hb dX7_laysNeeded_104 (lv_at hl 1 rfl) ?_
            obtain ⟨hin, hf⟩ := zg_k hf
            refine va_iald hx hb hK hP 8 0 (mw_a7 (S := S4)) rfl (inb_k hin) dX7_laysNeeded_106 ?_
            refine lv_iload_n hx hb dX7_laysNeeded_107 rfl (lv_at hl 3 rfl) ?_
            refine lv_iconst (v := (nI 2)) hx hb dX7_laysNeeded_108 (by decide) ?_
            refine lv_irem hx hb dX7_laysNeeded_109 (by decide) ?_
            obtain ⟨x13, hc110, hf⟩ := zo_k hf
            refine cal_i (rnS (As := [.int (ri S4 6 x8), .int (ri S4 7 x8), .int (irm x2 (nI 2))]) (rest := [.int (nI 1), .int (ri S4 44 x2), .int x2, .ref (bd 38)]) ⟨hx, hb, hml, hown, hts⟩ (c_X7_nodeOf hAd  hc110) (va_cwS 3 hts gX7_laysNeeded_X7_nodeOf rfl rfl rfl cdS_X7_nodeOf ⟨Nat.le_of_ble_eq_true rfl, Nat.le_of_ble_eq_true rfl⟩) hP hK hN rfl hl.1 rfl (Nat.le_of_ble_eq_true rfl) dX7_laysNeeded_110 ⟨Nat.zero_le _, Nat.zero_le _⟩) hS (fun H locs hP hS => ?_)
            refine lv_ishl hx hb dX7_laysNeeded_113 ?_
            refine lv_goto (tgt := 118) hx hb dX7_laysNeeded_114 (by decide) ?_
            exact hJ118 ((nI 1) <<< (x13 &&& 31)) hf _ _ _ hP hS (lv_sub hl [2, 3, 4] rfl)
        have hJ77 : m_X7_laysNeeded_J77 x2 S4 x5 rec17 x8 = some SZ → ∀ (H : Heap) (locs : List Loc) (ls : Array Slot), va_P D vwCl (mw cyI cyJ cyZ bd S4) H → va_S (MA bd) s.heap H locs → lv_has ls 6 [(4, .int x8), (0, .ref (bd 0)), (1, .int x2), (2, .int x5)] → W p l e rl_X7_laysNeeded s m args below meth c H locs 0 0 (MQ below (PoV D (mw cyI cyJ cyZ bd SZ) (MA bd)) args s 0 0 (MA bd)) (F0 m 77 ls []) := by
          intro  hf H locs ls hP hS hl
          unfold m_X7_laysNeeded_J77 at hf
          refine lv_iconst (v := (nI 0)) hx hb dX7_laysNeeded_77 (by decide) ?_
          exact hJ78 (nI 0) hf _ _ _ hP hS (lv_sub hl [0, 1, 2, 3] rfl)
        refine lv_icmp_ge (tgt := 77) hx hb dX7_laysNeeded_59 (by decide) (fun hc => ?_) (fun hc => ?_)
        · have hf := ifp hf hc
          exact hJ77  hf _ _ _ hP hS (lv_sub hl [0, 2, 3, 4] rfl)
        · have hf := ifn hf hc
          refine lv_aload_n hx hb dX7_laysNeeded_62 rfl (lv_at hl 2 rfl) ?_
          refine va_get (D := D) (ci := 7) (v := .ref (bd 7)) (C := RX7) (T := TX7) (N := 48) hx hb hts hin7 hown hK hP 0 (mw_o (S := S4)) rfl 6 (by decide) hfl28 (fun _ h9 => h9) mw_f6 dX7_laysNeeded_63 ?_
          refine lv_iload hx hb dX7_laysNeeded_66 (lv_at hl 0 rfl) ?_
          obtain ⟨hin, hf⟩ := zg_k hf
          refine va_iald hx hb hK hP 7 0 (mw_a6 (S := S4)) rfl (inb_k hin) dX7_laysNeeded_68 ?_
          refine lv_iconst (v := (nI 1)) hx hb dX7_laysNeeded_69 (by decide) ?_
          refine lv_icmp_le (tgt := 77) hx hb dX7_laysNeeded_70 (by decide) (fun hc => ?_) (fun hc => ?_)
          · have hf := ifp hf hc
            exact hJ77  hf _ _ _ hP hS (lv_sub hl [0, 2, 3, 4] rfl)
          · have hf := ifn hf hc
            refine lv_iconst (v := (nI 1)) hx hb dX7_laysNeeded_73 (by decide) ?_
            refine lv_goto (tgt := 78) hx hb dX7_laysNeeded_74 (by decide) ?_
            exact hJ78 (nI 1) hf _ _ _ hP hS (lv_sub hl [0, 2, 3, 4] rfl)
set_option maxHeartbeats 4000000 in
set_option maxRecDepth 100000 in
theorem c_X7_leaks {l : Launch} {D : va_G} {cyI cyJ cyZ : ClassId} {bd : Nat → Nat}  (hAd : AdOK 41 bd)  {S : St}  {r : Int32} {SZ : St} (hf : m_X7_leaks S = some (r, SZ)) : Met l yX7_leaks wsX7_leaks rl_X7_leaks (PreW D [(cyI, .int), (cyJ, .long), (cyZ, .boolean)] (mw cyI cyJ cyZ bd S) [.ref (bd 0)]) (PoI D (mw cyI cyJ cyZ bd SZ) (MA bd) r) 0 0 (MA bd) := by
  refine met_go (cc := cX7_leaks) (maxL := 1) (ret := (some .int)) (by decide) rfl (Nat.le_of_ble_eq_true rfl) ?_
  intro p e s m args below meth c ls hx hb hr hml hts hown hlk hP hK hN hl
  have hown : s.vm.findClass RX7 = some m.cls := hown
  have hS : va_S (MA bd) s.heap s.heap [] := va_S.rf
  have hl : lv_has ls 1 [(0, .ref (bd 0))] := hl
  have hin7 : ∀ w ∈ wsX70, w ∈ wsX7_leaks := by decide +kernel
  have hfl132 := hts (.fieldLink RX7 132 "MakewheelModel" "thrown" "I") (by decide +kernel)
  have hfl209 := hts (.fieldLink RX7 209 "MakewheelModel" "leaked" "I") (by decide +kernel)
  unfold m_X7_leaks at hf
  refine lv_aload_n hx hb dX7_leaks_0 rfl (lv_at hl 0 rfl) ?_
  refine lv_iconst (v := (nI 0)) hx hb dX7_leaks_1 (by decide) ?_
  refine va_put (D := D) (ci := 7) (v := .int (nI 0)) (ty := .int) (C := RX7) (T := TX7) (N := 48) hx hb hts hin7 tyX7 tyX7_ok nmX7 hown hK hP (mw_D hAd) hS 0 (mw_o (S := S)) rfl 47 (by decide) hfl132 (fun _ h9 => h9) rfl (by decide +kernel) rfl rfl (Nat.le_of_ble_eq_true rfl) dX7_leaks_2 (fun H locs hP _ hS => ?_)
  have hP : va_P D vwCl (mw cyI cyJ cyZ bd (wi S 47 0 (nI 0))) H := by rw [← mw_s47]; exact hP
  obtain ⟨S1, eS1, hf⟩ := zb_k hf
  rw [← eS1] at hP
  refine lv_aload_n hx hb dX7_leaks_5 rfl (lv_at hl 0 rfl) ?_
  refine va_get (D := D) (ci := 7) (v := .int (S1.1 14 0)) (C := RX7) (T := TX7) (N := 48) hx hb hts hin7 hown hK hP 0 (mw_o (S := S1)) rfl 14 (by decide) hfl209 (fun _ h9 => h9) mw_f14 dX7_leaks_6 ?_
  cases Option.some.inj hf
  exact fin_i hx hb hr hlk hS hP rfl dX7_leaks_9
set_option maxHeartbeats 4000000 in
set_option maxRecDepth 100000 in
theorem c_X7_looksPlain {l : Launch} {D : va_G} {cyI cyJ cyZ : ClassId} {bd : Nat → Nat}  (hAd : AdOK 41 bd)  {S : St} {p1 : Int32} {r : Int32} {SZ : St} (hf : m_X7_looksPlain S p1 = some (r, SZ)) : Met l yX7_looksPlain wsX7_looksPlain rl_X7_looksPlain (PreW D [(cyI, .int), (cyJ, .long), (cyZ, .boolean)] (mw cyI cyJ cyZ bd S) [.ref (bd 0), .int p1]) (PoI D (mw cyI cyJ cyZ bd SZ) (MA bd) r) 0 0 (MA bd) := by
  refine met_go (cc := cX7_looksPlain) (maxL := 6) (ret := (some .int)) (by decide) rfl (Nat.le_of_ble_eq_true rfl) ?_
  intro p e s m args below meth c ls hx hb hr hml hts hown hlk hP hK hN hl
  have hown : s.vm.findClass RX7 = some m.cls := hown
  have hS : va_S (MA bd) s.heap s.heap [] := va_S.rf
  have hl : lv_has ls 6 [(0, .ref (bd 0)), (1, .int p1)] := hl
  have hin7 : ∀ w ∈ wsX70, w ∈ wsX7_looksPlain := by decide +kernel
  have hfl96 := hts (.fieldLink RX7 96 "MakewheelModel" "counted" "[I") (by decide +kernel)
  have hfl209 := hts (.fieldLink RX7 209 "MakewheelModel" "leaked" "I") (by decide +kernel)
  have hfl172 := hts (.fieldLink RX7 172 "MakewheelModel" "isPlain" "Z") (by decide +kernel)
  have hfl90 := hts (.fieldLink RX7 90 "MakewheelModel" "dones" "[I") (by decide +kernel)
  have hfl126 := hts (.fieldLink RX7 126 "MakewheelModel" "longest" "[I") (by decide +kernel)
  have hfl93 := hts (.fieldLink RX7 93 "MakewheelModel" "whys" "[I") (by decide +kernel)
  have hfl129 := hts (.fieldLink RX7 129 "MakewheelModel" "ends" "[I") (by decide +kernel)
  unfold m_X7_looksPlain at hf
  refine lv_aload_n hx hb dX7_looksPlain_0 rfl (lv_at hl 0 rfl) ?_
  refine va_get (D := D) (ci := 7) (v := .ref (bd 29)) (C := RX7) (T := TX7) (N := 48) hx hb hts hin7 hown hK hP 0 (mw_o (S := S)) rfl 33 (by decide) hfl96 (fun _ h9 => h9) mw_f33 dX7_looksPlain_1 ?_
  refine lv_iconst (v := (nI 3)) hx hb dX7_looksPlain_4 (by decide) ?_
  obtain ⟨hin, hf⟩ := zg_k hf
  refine va_iald hx hb hK hP 29 0 (mw_a33 (S := S)) rfl (inb_k hin) dX7_looksPlain_5 ?_
  refine lv_topi (fun x1 ex1 => ?_)
  have hf := zb_x hf ex1
  refine lv_istore_n (lv' := [(2, .int x1), (0, .ref (bd 0)), (1, .int p1)]) hx hb dX7_looksPlain_6 rfl hl (by decide) rfl (fun ls hl => ?_)
  refine lv_aload_n hx hb dX7_looksPlain_7 rfl (lv_at hl 1 rfl) ?_
  refine va_get (D := D) (ci := 7) (v := .int (S.1 14 0)) (C := RX7) (T := TX7) (N := 48) hx hb hts hin7 hown hK hP 0 (mw_o (S := S)) rfl 14 (by decide) hfl209 (fun _ h9 => h9) mw_f14 dX7_looksPlain_8 ?_
  refine lv_topi (fun x2 ex2 => ?_)
  have hf := zb_x hf ex2
  refine lv_istore_n (lv' := [(3, .int x2), (2, .int x1), (0, .ref (bd 0)), (1, .int p1)]) hx hb dX7_looksPlain_11 rfl hl (by decide) rfl (fun ls hl => ?_)
  refine lv_iconst (v := (nI 0)) hx hb dX7_looksPlain_12 (by decide) ?_
  refine lv_istore (lv' := [(4, .int (nI 0)), (3, .int x2), (2, .int x1), (0, .ref (bd 0)), (1, .int p1)]) hx hb dX7_looksPlain_13 hl (by decide) rfl (fun ls hl => ?_)
  refine zl2_ind (F := (m_X7_looksPlain_B15 p1 x1 x2)) (R := (r, SZ)) (P := fun S3 x4 => ∀ (H : Heap) (locs : List Loc) (ls : Array Slot), va_P D vwCl (mw cyI cyJ cyZ bd S3) H → va_S (MA bd) s.heap H locs → lv_has ls 6 [(3, .int x2), (2, .int x1), (0, .ref (bd 0)), (1, .int p1), (4, .int x4)] → W p l e rl_X7_looksPlain s m args below meth c H locs 0 0 (MQ below (PoI D (mw cyI cyJ cyZ bd SZ) (MA bd) r) args s 0 0 (MA bd)) (F0 m 15 ls [])) (fun rec15 ih15 S3 x4 hf H locs ls hP hS hl => ?_) FU S (nI 0) hf _ _ _ hP hS (lv_sub hl [1, 2, 3, 4, 0] rfl)
  unfold m_X7_looksPlain_B15 at hf
  refine lv_iload hx hb dX7_looksPlain_15 (lv_at hl 4 rfl) ?_
  refine lv_bipush (v := (nI 32)) hx hb dX7_looksPlain_17 (by decide) ?_
  refine lv_icmp_ge (tgt := 56) hx hb dX7_looksPlain_19 (by decide) (fun hc => ?_) (fun hc => ?_)
  · have hf := ifp hf hc
    refine lv_aload_n hx hb dX7_looksPlain_56 rfl (lv_at hl 2 rfl) ?_
    refine lv_iconst (v := (nI 1)) hx hb dX7_looksPlain_57 (by decide) ?_
    refine va_put (D := D) (ci := 7) (v := .int (nI 1)) (ty := .boolean) (C := RX7) (T := TX7) (N := 48) hx hb hts hin7 tyX7 tyX7_ok nmX7 hown hK hP (mw_D hAd) hS 0 (mw_o (S := S3)) rfl 43 (by decide) hfl172 (fun _ h9 => h9) rfl (by decide +kernel) rfl rfl (Nat.le_of_ble_eq_true rfl) dX7_looksPlain_58 (fun H locs hP _ hS => ?_)
    have hP : va_P D vwCl (mw cyI cyJ cyZ bd (wi S3 43 0 (nI 1))) H := by rw [← mw_s43]; exact hP
    obtain ⟨S5, eS5, hf⟩ := zb_k hf
    rw [← eS5] at hP
    refine lv_aload_n hx hb dX7_looksPlain_61 rfl (lv_at hl 2 rfl) ?_
    refine lv_iload_n hx hb dX7_looksPlain_62 rfl (lv_at hl 3 rfl) ?_
    obtain ⟨x6, S7, hc63, hf⟩ := zo2_k hf
    refine cal_i (rnV (As := [.int p1]) (rest := []) ⟨hx, hb, hml, hown, hts⟩ (c_X7_looks hAd  hc63) (cwV 1 hts gX7_looksPlain_X7_looks rfl rfl rfl cdV_X7_looks ⟨Nat.le_of_ble_eq_true rfl, Nat.le_of_ble_eq_true rfl⟩) hP hK hN (mw_o (S := S5)) rfl rfl hl.1 rfl (Nat.le_of_ble_eq_true rfl) dX7_looksPlain_63 ⟨Nat.zero_le _, Nat.zero_le _⟩) hS (fun H locs hP hS => ?_)
    refine lv_istore (lv' := [(4, .int x6), (3, .int x2), (2, .int x1), (0, .ref (bd 0)), (1, .int p1)]) hx hb dX7_looksPlain_66 hl (by decide) rfl (fun ls hl => ?_)
    refine lv_aload_n hx hb dX7_looksPlain_68 rfl (lv_at hl 3 rfl) ?_
    refine lv_iconst (v := (nI 0)) hx hb dX7_looksPlain_69 (by decide) ?_
    refine va_put (D := D) (ci := 7) (v := .int (nI 0)) (ty := .boolean) (C := RX7) (T := TX7) (N := 48) hx hb hts hin7 tyX7 tyX7_ok nmX7 hown hK hP (mw_D hAd) hS 0 (mw_o (S := S7)) rfl 43 (by decide) hfl172 (fun _ h9 => h9) rfl (by decide +kernel) rfl rfl (Nat.le_of_ble_eq_true rfl) dX7_looksPlain_70 (fun H locs hP _ hS => ?_)
    have hP : va_P D vwCl (mw cyI cyJ cyZ bd (wi S7 43 0 (nI 0))) H := by rw [← mw_s43]; exact hP
    obtain ⟨S8, eS8, hf⟩ := zb_k hf
    rw [← eS8] at hP
    refine lv_aload_n hx hb dX7_looksPlain_73 rfl (lv_at hl 3 rfl) ?_
    refine va_get (D := D) (ci := 7) (v := .ref (bd 29)) (C := RX7) (T := TX7) (N := 48) hx hb hts hin7 hown hK hP 0 (mw_o (S := S8)) rfl 33 (by decide) hfl96 (fun _ h9 => h9) mw_f33 dX7_looksPlain_74 ?_
    refine lv_iconst (v := (nI 3)) hx hb dX7_looksPlain_77 (by decide) ?_
    refine lv_iload_n hx hb dX7_looksPlain_78 rfl (lv_at hl 2 rfl) ?_
    obtain ⟨hin, hf⟩ := zg_k hf
    refine va_iast hx hb hK hP (mw_D hAd) hS 29 0 (mw_a33 (S := S8)) rfl (inb_k hin) dX7_looksPlain_79 (fun H locs hP _ hS => ?_)
    have hP : va_P D vwCl (mw cyI cyJ cyZ bd (wi S8 33 (Int32.toNatClampNeg (nI 3)) x1)) H := by rw [← mw_s33]; exact hP
    obtain ⟨S9, eS9, hf⟩ := zb_k hf
    rw [← eS9] at hP
    refine lv_aload_n hx hb dX7_looksPlain_80 rfl (lv_at hl 3 rfl) ?_
    refine lv_iload_n hx hb dX7_looksPlain_81 rfl (lv_at hl 1 rfl) ?_
    refine va_put (D := D) (ci := 7) (v := .int x2) (ty := .int) (C := RX7) (T := TX7) (N := 48) hx hb hts hin7 tyX7 tyX7_ok nmX7 hown hK hP (mw_D hAd) hS 0 (mw_o (S := S9)) rfl 14 (by decide) hfl209 (fun _ h9 => h9) rfl (by decide +kernel) rfl rfl (Nat.le_of_ble_eq_true rfl) dX7_looksPlain_82 (fun H locs hP _ hS => ?_)
    have hP : va_P D vwCl (mw cyI cyJ cyZ bd (wi S9 14 0 x2)) H := by rw [← mw_s14]; exact hP
    obtain ⟨S10, eS10, hf⟩ := zb_k hf
    rw [← eS10] at hP
    refine lv_iconst (v := (nI 0)) hx hb dX7_looksPlain_85 (by decide) ?_
    refine lv_istore (lv' := [(5, .int (nI 0)), (4, .int x6), (3, .int x2), (2, .int x1), (0, .ref (bd 0)), (1, .int p1)]) hx hb dX7_looksPlain_86 hl (by decide) rfl (fun ls hl => ?_)
    refine zl2_ind (F := (m_X7_looksPlain_B88 x6)) (R := (r, SZ)) (P := fun S11 x12 => ∀ (H : Heap) (locs : List Loc) (ls : Array Slot), va_P D vwCl (mw cyI cyJ cyZ bd S11) H → va_S (MA bd) s.heap H locs → lv_has ls 6 [(4, .int x6), (0, .ref (bd 0)), (5, .int x12)] → W p l e rl_X7_looksPlain s m args below meth c H locs 0 0 (MQ below (PoI D (mw cyI cyJ cyZ bd SZ) (MA bd) r) args s 0 0 (MA bd)) (F0 m 88 ls [])) (fun rec88 ih88 S11 x12 hf H locs ls hP hS hl => ?_) FU S10 (nI 0) hf _ _ _ hP hS (lv_sub hl [1, 4, 0] rfl)
    unfold m_X7_looksPlain_B88 at hf
    refine lv_iload hx hb dX7_looksPlain_88 (lv_at hl 2 rfl) ?_
    refine lv_bipush (v := (nI 32)) hx hb dX7_looksPlain_90 (by decide) ?_
    refine lv_icmp_ge (tgt := 129) hx hb dX7_looksPlain_92 (by decide) (fun hc => ?_) (fun hc => ?_)
    · have hf := ifp hf hc
      refine lv_iload hx hb dX7_looksPlain_129 (lv_at hl 0 rfl) ?_
      cases Option.some.inj hf
      exact fin_i hx hb hr hlk hS hP rfl dX7_looksPlain_131
    · have hf := ifn hf hc
      refine lv_aload_n hx hb dX7_looksPlain_95 rfl (lv_at hl 1 rfl) ?_
      refine va_get (D := D) (ci := 7) (v := .ref (bd 27)) (C := RX7) (T := TX7) (N := 48) hx hb hts hin7 hown hK hP 0 (mw_o (S := S11)) rfl 31 (by decide) hfl90 (fun _ h9 => h9) mw_f31 dX7_looksPlain_96 ?_
      refine lv_iload hx hb dX7_looksPlain_99 (lv_at hl 2 rfl) ?_
      refine lv_aload_n hx hb dX7_looksPlain_101 rfl (lv_at hl 1 rfl) ?_
      refine va_get (D := D) (ci := 7) (v := .ref (bd 39)) (C := RX7) (T := TX7) (N := 48) hx hb hts hin7 hown hK hP 0 (mw_o (S := S11)) rfl 45 (by decide) hfl126 (fun _ h9 => h9) mw_f45 dX7_looksPlain_102 ?_
      refine lv_iload hx hb dX7_looksPlain_105 (lv_at hl 2 rfl) ?_
      obtain ⟨hin, hf⟩ := zg_k hf
      refine va_iald hx hb hK hP 39 0 (mw_a45 (S := S11)) rfl (inb_k hin) dX7_looksPlain_107 ?_
      obtain ⟨hin, hf⟩ := zg_k hf
      refine va_iast hx hb hK hP (mw_D hAd) hS 27 0 (mw_a31 (S := S11)) rfl (inb_k hin) dX7_looksPlain_108 (fun H locs hP _ hS => ?_)
      have hP : va_P D vwCl (mw cyI cyJ cyZ bd (wi S11 31 (Int32.toNatClampNeg x12) (ri S11 45 x12))) H := by rw [← mw_s31]; exact hP
      obtain ⟨S13, eS13, hf⟩ := zb_k hf
      rw [← eS13] at hP
      refine lv_aload_n hx hb dX7_looksPlain_109 rfl (lv_at hl 1 rfl) ?_
      refine va_get (D := D) (ci := 7) (v := .ref (bd 28)) (C := RX7) (T := TX7) (N := 48) hx hb hts hin7 hown hK hP 0 (mw_o (S := S13)) rfl 32 (by decide) hfl93 (fun _ h9 => h9) mw_f32 dX7_looksPlain_110 ?_
      refine lv_iload hx hb dX7_looksPlain_113 (lv_at hl 2 rfl) ?_
      refine lv_aload_n hx hb dX7_looksPlain_115 rfl (lv_at hl 1 rfl) ?_
      refine va_get (D := D) (ci := 7) (v := .ref (bd 40)) (C := RX7) (T := TX7) (N := 48) hx hb hts hin7 hown hK hP 0 (mw_o (S := S13)) rfl 46 (by decide) hfl129 (fun _ h9 => h9) mw_f46 dX7_looksPlain_116 ?_
      refine lv_iload hx hb dX7_looksPlain_119 (lv_at hl 2 rfl) ?_
      obtain ⟨hin, hf⟩ := zg_k hf
      refine va_iald hx hb hK hP 40 0 (mw_a46 (S := S13)) rfl (inb_k hin) dX7_looksPlain_121 ?_
      obtain ⟨hin, hf⟩ := zg_k hf
      refine va_iast hx hb hK hP (mw_D hAd) hS 28 0 (mw_a32 (S := S13)) rfl (inb_k hin) dX7_looksPlain_122 (fun H locs hP _ hS => ?_)
      have hP : va_P D vwCl (mw cyI cyJ cyZ bd (wi S13 32 (Int32.toNatClampNeg x12) (ri S13 46 x12))) H := by rw [← mw_s32]; exact hP
      obtain ⟨S14, eS14, hf⟩ := zb_k hf
      rw [← eS14] at hP
      obtain ⟨x15, ex15, hf⟩ := zb_k hf
      refine lv_iinc (v := x15) (lv' := [(5, .int x15), (4, .int x6), (0, .ref (bd 0))]) hx hb dX7_looksPlain_123 hl (k := 2) rfl (by rw [ex15]; rfl) (by decide) rfl (fun ls hl => ?_)
      refine lv_goto (tgt := 88) hx hb dX7_looksPlain_126 (by decide) ?_
      exact ih88 S14 x15 hf _ _ _ hP hS (lv_sub hl [1, 2, 0] rfl)
  · have hf := ifn hf hc
    refine lv_aload_n hx hb dX7_looksPlain_22 rfl (lv_at hl 2 rfl) ?_
    refine va_get (D := D) (ci := 7) (v := .ref (bd 39)) (C := RX7) (T := TX7) (N := 48) hx hb hts hin7 hown hK hP 0 (mw_o (S := S3)) rfl 45 (by decide) hfl126 (fun _ h9 => h9) mw_f45 dX7_looksPlain_23 ?_
    refine lv_iload hx hb dX7_looksPlain_26 (lv_at hl 4 rfl) ?_
    refine lv_aload_n hx hb dX7_looksPlain_28 rfl (lv_at hl 2 rfl) ?_
    refine va_get (D := D) (ci := 7) (v := .ref (bd 27)) (C := RX7) (T := TX7) (N := 48) hx hb hts hin7 hown hK hP 0 (mw_o (S := S3)) rfl 31 (by decide) hfl90 (fun _ h9 => h9) mw_f31 dX7_looksPlain_29 ?_
    refine lv_iload hx hb dX7_looksPlain_32 (lv_at hl 4 rfl) ?_
    obtain ⟨hin, hf⟩ := zg_k hf
    refine va_iald hx hb hK hP 27 0 (mw_a31 (S := S3)) rfl (inb_k hin) dX7_looksPlain_34 ?_
    obtain ⟨hin, hf⟩ := zg_k hf
    refine va_iast hx hb hK hP (mw_D hAd) hS 39 0 (mw_a45 (S := S3)) rfl (inb_k hin) dX7_looksPlain_35 (fun H locs hP _ hS => ?_)
    have hP : va_P D vwCl (mw cyI cyJ cyZ bd (wi S3 45 (Int32.toNatClampNeg x4) (ri S3 31 x4))) H := by rw [← mw_s45]; exact hP
    obtain ⟨S16, eS16, hf⟩ := zb_k hf
    rw [← eS16] at hP
    refine lv_aload_n hx hb dX7_looksPlain_36 rfl (lv_at hl 2 rfl) ?_
    refine va_get (D := D) (ci := 7) (v := .ref (bd 40)) (C := RX7) (T := TX7) (N := 48) hx hb hts hin7 hown hK hP 0 (mw_o (S := S16)) rfl 46 (by decide) hfl129 (fun _ h9 => h9) mw_f46 dX7_looksPlain_37 ?_
    refine lv_iload hx hb dX7_looksPlain_40 (lv_at hl 4 rfl) ?_
    refine lv_aload_n hx hb dX7_looksPlain_42 rfl (lv_at hl 2 rfl) ?_
    refine va_get (D := D) (ci := 7) (v := .ref (bd 28)) (C := RX7) (T := TX7) (N := 48) hx hb hts hin7 hown hK hP 0 (mw_o (S := S16)) rfl 32 (by decide) hfl93 (fun _ h9 => h9) mw_f32 dX7_looksPlain_43 ?_
    refine lv_iload hx hb dX7_looksPlain_46 (lv_at hl 4 rfl) ?_
    obtain ⟨hin, hf⟩ := zg_k hf
    refine va_iald hx hb hK hP 28 0 (mw_a32 (S := S16)) rfl (inb_k hin) dX7_looksPlain_48 ?_
    obtain ⟨hin, hf⟩ := zg_k hf
    refine va_iast hx hb hK hP (mw_D hAd) hS 40 0 (mw_a46 (S := S16)) rfl (inb_k hin) dX7_looksPlain_49 (fun H locs hP _ hS => ?_)
    have hP : va_P D vwCl (mw cyI cyJ cyZ bd (wi S16 46 (Int32.toNatClampNeg x4) (ri S16 32 x4))) H := by rw [← mw_s46]; exact hP
    obtain ⟨S17, eS17, hf⟩ := zb_k hf
    rw [← eS17] at hP
    obtain ⟨x18, ex18, hf⟩ := zb_k hf
    refine lv_iinc (v := x18) (lv' := [(4, .int x18), (3, .int x2), (2, .int x1), (0, .ref (bd 0)), (1, .int p1)]) hx hb dX7_looksPlain_50 hl (k := 4) rfl (by rw [ex18]; rfl) (by decide) rfl (fun ls hl => ?_)
    refine lv_goto (tgt := 15) hx hb dX7_looksPlain_53 (by decide) ?_
    exact ih15 S17 x18 hf _ _ _ hP hS (lv_sub hl [1, 2, 3, 4, 0] rfl)
set_option maxHeartbeats 4000000 in
set_option maxRecDepth 100000 in
theorem c_X7_needsOf {l : Launch} {D : va_G} {cyI cyJ cyZ : ClassId} {bd : Nat → Nat}  (hAd : AdOK 41 bd)  {S : St} {p1 : Int32} {r : Int32} (hf : m_X7_needsOf S p1 = some r) : Met l yX7_needsOf wsX7_needsOf rl_X7_needsOf (PreW D [(cyI, .int), (cyJ, .long), (cyZ, .boolean)] (mw cyI cyJ cyZ bd S) [.ref (bd 0), .int p1]) (PoI D (mw cyI cyJ cyZ bd S) (MA bd) r) 0 0 (MA bd) := by
  refine met_go (cc := cX7_needsOf) (maxL := 5) (ret := (some .int)) (by decide) rfl (Nat.le_of_ble_eq_true rfl) ?_
  intro p e s m args below meth c ls hx hb hr hml hts hown hlk hP hK hN hl
  have hown : s.vm.findClass RX7 = some m.cls := hown
  have hS : va_S (MA bd) s.heap s.heap [] := va_S.rf
  have hl : lv_has ls 5 [(0, .ref (bd 0)), (1, .int p1)] := hl
  unfold m_X7_needsOf at hf
  refine lv_aload_n hx hb dX7_needsOf_0 rfl (lv_at hl 0 rfl) ?_
  refine lv_iload_n hx hb dX7_needsOf_1 rfl (lv_at hl 1 rfl) ?_
  obtain ⟨x1, hc2, hf⟩ := zo_k hf
  refine cal_i (rnV (As := [.int p1]) (rest := []) ⟨hx, hb, hml, hown, hts⟩ (c_X7_inputsOf hAd  hc2) (cwV 1 hts gX7_needsOf_X7_inputsOf rfl rfl rfl cdV_X7_inputsOf ⟨Nat.le_of_ble_eq_true rfl, Nat.le_of_ble_eq_true rfl⟩) hP hK hN (mw_o (S := S)) rfl rfl hl.1 rfl (Nat.le_of_ble_eq_true rfl) dX7_needsOf_2 ⟨Nat.zero_le _, Nat.zero_le _⟩) hS (fun H locs hP hS => ?_)
  refine lv_istore_n (lv' := [(2, .int x1), (0, .ref (bd 0)), (1, .int p1)]) hx hb dX7_needsOf_5 rfl hl (by decide) rfl (fun ls hl => ?_)
  refine lv_iconst (v := (nI 0)) hx hb dX7_needsOf_6 (by decide) ?_
  refine lv_istore_n (lv' := [(3, .int (nI 0)), (2, .int x1), (0, .ref (bd 0)), (1, .int p1)]) hx hb dX7_needsOf_7 rfl hl (by decide) rfl (fun ls hl => ?_)
  refine zl2_ind (F := (m_X7_needsOf_B8 S)) (R := r) (P := fun x2 x3 => ∀ (H : Heap) (locs : List Loc) (ls : Array Slot), va_P D vwCl (mw cyI cyJ cyZ bd S) H → va_S (MA bd) s.heap H locs → lv_has ls 5 [(0, .ref (bd 0)), (2, .int x2), (3, .int x3)] → W p l e rl_X7_needsOf s m args below meth c H locs 0 0 (MQ below (PoI D (mw cyI cyJ cyZ bd S) (MA bd) r) args s 0 0 (MA bd)) (F0 m 8 ls [])) (fun rec8 ih8 x2 x3 hf H locs ls hP hS hl => ?_) FU x1 (nI 0) hf _ _ _ hP hS (lv_sub hl [2, 1, 0] rfl)
  unfold m_X7_needsOf_B8 at hf
  refine lv_iload_n hx hb dX7_needsOf_8 rfl (lv_at hl 1 rfl) ?_
  refine lv_iload_n hx hb dX7_needsOf_9 rfl (lv_at hl 2 rfl) ?_
  refine lv_icmp_eq (tgt := 56) hx hb dX7_needsOf_10 (by decide) (fun hc => ?_) (fun hc => ?_)
  · have hf := ifp hf hc
    refine lv_iload_n hx hb dX7_needsOf_56 rfl (lv_at hl 1 rfl) ?_
    exact fin_i hx hb hr hlk hS hP (Option.some.inj hf) dX7_needsOf_57
  · have hf := ifn hf hc
    refine lv_iload_n hx hb dX7_needsOf_13 rfl (lv_at hl 1 rfl) ?_
    refine lv_istore_n (lv' := [(3, .int x2), (0, .ref (bd 0)), (2, .int x2)]) hx hb dX7_needsOf_14 rfl hl (by decide) rfl (fun ls hl => ?_)
    refine lv_iconst (v := (nI 0)) hx hb dX7_needsOf_15 (by decide) ?_
    refine lv_istore (lv' := [(4, .int (nI 0)), (3, .int x2), (0, .ref (bd 0)), (2, .int x2)]) hx hb dX7_needsOf_16 hl (by decide) rfl (fun ls hl => ?_)
    refine zl2_ind (F := (m_X7_needsOf_B18 rec8 x2 S)) (R := r) (P := fun x4 x5 => ∀ (H : Heap) (locs : List Loc) (ls : Array Slot), va_P D vwCl (mw cyI cyJ cyZ bd S) H → va_S (MA bd) s.heap H locs → lv_has ls 5 [(3, .int x2), (0, .ref (bd 0)), (2, .int x4), (4, .int x5)] → W p l e rl_X7_needsOf s m args below meth c H locs 0 0 (MQ below (PoI D (mw cyI cyJ cyZ bd S) (MA bd) r) args s 0 0 (MA bd)) (F0 m 18 ls [])) (fun rec18 ih18 x4 x5 hf H locs ls hP hS hl => ?_) FU x2 (nI 0) hf _ _ _ hP hS (lv_sub hl [1, 2, 3, 0] rfl)
    unfold m_X7_needsOf_B18 at hf
    refine lv_iload hx hb dX7_needsOf_18 (lv_at hl 3 rfl) ?_
    refine lv_bipush (v := (nI 16)) hx hb dX7_needsOf_20 (by decide) ?_
    refine lv_icmp_ge (tgt := 53) hx hb dX7_needsOf_22 (by decide) (fun hc => ?_) (fun hc => ?_)
    · have hf := ifp hf hc
      refine lv_goto (tgt := 8) hx hb dX7_needsOf_53 (by decide) ?_
      exact ih8 x4 x2 hf _ _ _ hP hS (lv_sub hl [1, 2, 0] rfl)
    · have hf := ifn hf hc
      refine lv_iload_n hx hb dX7_needsOf_25 rfl (lv_at hl 2 rfl) ?_
      refine lv_iload_n hx hb dX7_needsOf_26 rfl (lv_at hl 0 rfl) ?_
      refine lv_iload hx hb dX7_needsOf_27 (lv_at hl 3 rfl) ?_
      obtain ⟨x6, hc29, hf⟩ := zo_k hf
      refine cal_i (rnS (As := [.int x2, .int x5]) (rest := [.int x4]) ⟨hx, hb, hml, hown, hts⟩ (c_X7_has hAd  hc29) (va_cwS 2 hts gX7_needsOf_X7_has rfl rfl rfl cdS_X7_has ⟨Nat.le_of_ble_eq_true rfl, Nat.le_of_ble_eq_true rfl⟩) hP hK hN rfl hl.1 rfl (Nat.le_of_ble_eq_true rfl) dX7_needsOf_29 ⟨Nat.zero_le _, Nat.zero_le _⟩) hS (fun H locs hP hS => ?_)
      refine lv_if_eq (tgt := 44) hx hb dX7_needsOf_32 (by decide) (fun hc => ?_) (fun hc => ?_)
      · have hf := ifp hf hc
        refine lv_iconst (v := (nI 0)) hx hb dX7_needsOf_44 (by decide) ?_
        refine lv_ior hx hb dX7_needsOf_45 ?_
        refine lv_topi (fun x7 ex7 => ?_)
        have hf := zb_x hf ex7
        refine lv_istore_n (lv' := [(2, .int x7), (3, .int x2), (0, .ref (bd 0)), (4, .int x5)]) hx hb dX7_needsOf_46 rfl hl (by decide) rfl (fun ls hl => ?_)
        obtain ⟨x8, ex8, hf⟩ := zb_k hf
        refine lv_iinc (v := x8) (lv' := [(4, .int x8), (2, .int x7), (3, .int x2), (0, .ref (bd 0))]) hx hb dX7_needsOf_47 hl (k := 3) rfl (by rw [ex8]; rfl) (by decide) rfl (fun ls hl => ?_)
        refine lv_goto (tgt := 18) hx hb dX7_needsOf_50 (by decide) ?_
        exact ih18 x7 x8 hf _ _ _ hP hS (lv_sub hl [2, 3, 1, 0] rfl)
      · have hf := ifn hf hc
        refine lv_aload_n hx hb dX7_needsOf_35 rfl (lv_at hl 1 rfl) ?_
        refine lv_iload hx hb dX7_needsOf_36 (lv_at hl 3 rfl) ?_
        obtain ⟨x9, hc38, hf⟩ := zo_k hf
        refine cal_i (rnV (As := [.int x5]) (rest := [.int x4]) ⟨hx, hb, hml, hown, hts⟩ (c_X7_inputsOf hAd  hc38) (cwV 1 hts gX7_needsOf_X7_inputsOf rfl rfl rfl cdV_X7_inputsOf ⟨Nat.le_of_ble_eq_true rfl, Nat.le_of_ble_eq_true rfl⟩) hP hK hN (mw_o (S := S)) rfl rfl hl.1 rfl (Nat.le_of_ble_eq_true rfl) dX7_needsOf_38 ⟨Nat.zero_le _, Nat.zero_le _⟩) hS (fun H locs hP hS => ?_)
        refine lv_goto (tgt := 45) hx hb dX7_needsOf_41 (by decide) ?_
        refine lv_ior hx hb dX7_needsOf_45 ?_
        refine lv_topi (fun x10 ex10 => ?_)
        have hf := zb_x hf ex10
        refine lv_istore_n (lv' := [(2, .int x10), (3, .int x2), (0, .ref (bd 0)), (4, .int x5)]) hx hb dX7_needsOf_46 rfl hl (by decide) rfl (fun ls hl => ?_)
        obtain ⟨x11, ex11, hf⟩ := zb_k hf
        refine lv_iinc (v := x11) (lv' := [(4, .int x11), (2, .int x10), (3, .int x2), (0, .ref (bd 0))]) hx hb dX7_needsOf_47 hl (k := 3) rfl (by rw [ex11]; rfl) (by decide) rfl (fun ls hl => ?_)
        refine lv_goto (tgt := 18) hx hb dX7_needsOf_50 (by decide) ?_
        exact ih18 x10 x11 hf _ _ _ hP hS (lv_sub hl [2, 3, 1, 0] rfl)
set_option maxHeartbeats 4000000 in
set_option maxRecDepth 100000 in
theorem c_X7_needs {l : Launch} {D : va_G} {cyI cyJ cyZ : ClassId} {bd : Nat → Nat}  (hAd : AdOK 41 bd)  {S : St} {p1 : Int32} {r : Int32} {SZ : St} (hf : m_X7_needs S p1 = some (r, SZ)) : Met l yX7_needs wsX7_needs rl_X7_needs (PreW D [(cyI, .int), (cyJ, .long), (cyZ, .boolean)] (mw cyI cyJ cyZ bd S) [.ref (bd 0), .int p1]) (PoI D (mw cyI cyJ cyZ bd SZ) (MA bd) r) 0 0 (MA bd) := by
  refine met_go (cc := cX7_needs) (maxL := 2) (ret := (some .int)) (by decide) rfl (Nat.le_of_ble_eq_true rfl) ?_
  intro p e s m args below meth c ls hx hb hr hml hts hown hlk hP hK hN hl
  have hown : s.vm.findClass RX7 = some m.cls := hown
  have hS : va_S (MA bd) s.heap s.heap [] := va_S.rf
  have hl : lv_has ls 2 [(0, .ref (bd 0)), (1, .int p1)] := hl
  unfold m_X7_needs at hf
  refine lv_aload_n hx hb dX7_needs_0 rfl (lv_at hl 0 rfl) ?_
  refine lv_iload_n hx hb dX7_needs_1 rfl (lv_at hl 1 rfl) ?_
  obtain ⟨x1, hc2, hf⟩ := zo_k hf
  refine cal_i (rnS (As := [.int p1]) (rest := [.ref (bd 0)]) ⟨hx, hb, hml, hown, hts⟩ (c_X7_isTarget hAd  hc2) (va_cwS 1 hts gX7_needs_X7_isTarget rfl rfl rfl cdS_X7_isTarget ⟨Nat.le_of_ble_eq_true rfl, Nat.le_of_ble_eq_true rfl⟩) hP hK hN rfl hl.1 rfl (Nat.le_of_ble_eq_true rfl) dX7_needs_2 ⟨Nat.zero_le _, Nat.zero_le _⟩) hS (fun H locs hP hS => ?_)
  refine lv_if_eq (tgt := 12) hx hb dX7_needs_5 (by decide) (fun hc => ?_) (fun hc => ?_)
  · have hf := ifp hf hc
    refine lv_iconst (v := (nI 1)) hx hb dX7_needs_12 (by decide) ?_
    obtain ⟨x2, S3, hc13, hf⟩ := zo2_k hf
    refine cal_i (rnV (As := [.int (nI 1)]) (rest := []) ⟨hx, hb, hml, hown, hts⟩ (c_X7_goes hAd  hc13) (cwV 1 hts gX7_needs_X7_goes rfl rfl rfl cdV_X7_goes ⟨Nat.le_of_ble_eq_true rfl, Nat.le_of_ble_eq_true rfl⟩) hP hK hN (mw_o (S := S)) rfl rfl hl.1 rfl (Nat.le_of_ble_eq_true rfl) dX7_needs_13 ⟨Nat.zero_le _, Nat.zero_le _⟩) hS (fun H locs hP hS => ?_)
    refine lv_if_eq (tgt := 27) hx hb dX7_needs_16 (by decide) (fun hc => ?_) (fun hc => ?_)
    · have hf := ifp hf hc
      refine lv_iconst (v := (nI 0)) hx hb dX7_needs_27 (by decide) ?_
      cases Option.some.inj hf
      exact fin_i hx hb hr hlk hS hP rfl dX7_needs_28
    · have hf := ifn hf hc
      refine lv_aload_n hx hb dX7_needs_19 rfl (lv_at hl 0 rfl) ?_
      refine lv_iload_n hx hb dX7_needs_20 rfl (lv_at hl 1 rfl) ?_
      obtain ⟨x4, hc21, hf⟩ := zo_k hf
      refine cal_i (rnV (As := [.int p1]) (rest := []) ⟨hx, hb, hml, hown, hts⟩ (c_X7_needsOf hAd  hc21) (cwV 1 hts gX7_needs_X7_needsOf rfl rfl rfl cdV_X7_needsOf ⟨Nat.le_of_ble_eq_true rfl, Nat.le_of_ble_eq_true rfl⟩) hP hK hN (mw_o (S := S3)) rfl rfl hl.1 rfl (Nat.le_of_ble_eq_true rfl) dX7_needs_21 ⟨Nat.zero_le _, Nat.zero_le _⟩) hS (fun H locs hP hS => ?_)
      refine lv_goto (tgt := 28) hx hb dX7_needs_24 (by decide) ?_
      cases Option.some.inj hf
      exact fin_i hx hb hr hlk hS hP rfl dX7_needs_28
  · have hf := ifn hf hc
    refine lv_iconst (v := (nI 0)) hx hb dX7_needs_8 (by decide) ?_
    refine lv_goto (tgt := 13) hx hb dX7_needs_9 (by decide) ?_
    obtain ⟨x5, S6, hc13, hf⟩ := zo2_k hf
    refine cal_i (rnV (As := [.int (nI 0)]) (rest := []) ⟨hx, hb, hml, hown, hts⟩ (c_X7_goes hAd  hc13) (cwV 1 hts gX7_needs_X7_goes rfl rfl rfl cdV_X7_goes ⟨Nat.le_of_ble_eq_true rfl, Nat.le_of_ble_eq_true rfl⟩) hP hK hN (mw_o (S := S)) rfl rfl hl.1 rfl (Nat.le_of_ble_eq_true rfl) dX7_needs_13 ⟨Nat.zero_le _, Nat.zero_le _⟩) hS (fun H locs hP hS => ?_)
    refine lv_if_eq (tgt := 27) hx hb dX7_needs_16 (by decide) (fun hc => ?_) (fun hc => ?_)
    · have hf := ifp hf hc
      refine lv_iconst (v := (nI 0)) hx hb dX7_needs_27 (by decide) ?_
      cases Option.some.inj hf
      exact fin_i hx hb hr hlk hS hP rfl dX7_needs_28
    · have hf := ifn hf hc
      refine lv_aload_n hx hb dX7_needs_19 rfl (lv_at hl 0 rfl) ?_
      refine lv_iload_n hx hb dX7_needs_20 rfl (lv_at hl 1 rfl) ?_
      obtain ⟨x7, hc21, hf⟩ := zo_k hf
      refine cal_i (rnV (As := [.int p1]) (rest := []) ⟨hx, hb, hml, hown, hts⟩ (c_X7_needsOf hAd  hc21) (cwV 1 hts gX7_needs_X7_needsOf rfl rfl rfl cdV_X7_needsOf ⟨Nat.le_of_ble_eq_true rfl, Nat.le_of_ble_eq_true rfl⟩) hP hK hN (mw_o (S := S6)) rfl rfl hl.1 rfl (Nat.le_of_ble_eq_true rfl) dX7_needs_21 ⟨Nat.zero_le _, Nat.zero_le _⟩) hS (fun H locs hP hS => ?_)
      refine lv_goto (tgt := 28) hx hb dX7_needs_24 (by decide) ?_
      cases Option.some.inj hf
      exact fin_i hx hb hr hlk hS hP rfl dX7_needs_28
set_option maxHeartbeats 4000000 in
set_option maxRecDepth 100000 in
theorem c_X7_plain {l : Launch} {D : va_G} {cyI cyJ cyZ : ClassId} {bd : Nat → Nat}  (hAd : AdOK 41 bd)  {S : St} {p1 : Int32} {p2 : Int32} {r : Int32} {SZ : St} (hf : m_X7_plain S p1 p2 = some (r, SZ)) : Met l yX7_plain wsX7_plain rl_X7_plain (PreW D [(cyI, .int), (cyJ, .long), (cyZ, .boolean)] (mw cyI cyJ cyZ bd S) [.ref (bd 0), .int p1, .int p2]) (PoI D (mw cyI cyJ cyZ bd SZ) (MA bd) r) 0 0 (MA bd) := by
  refine met_go (cc := cX7_plain) (maxL := 3) (ret := (some .int)) (by decide) rfl (Nat.le_of_ble_eq_true rfl) ?_
  intro p e s m args below meth c ls hx hb hr hml hts hown hlk hP hK hN hl
  have hown : s.vm.findClass RX7 = some m.cls := hown
  have hS : va_S (MA bd) s.heap s.heap [] := va_S.rf
  have hl : lv_has ls 3 [(0, .ref (bd 0)), (1, .int p1), (2, .int p2)] := hl
  unfold m_X7_plain at hf
  refine lv_aload_n hx hb dX7_plain_0 rfl (lv_at hl 0 rfl) ?_
  refine lv_iload_n hx hb dX7_plain_1 rfl (lv_at hl 1 rfl) ?_
  refine lv_iload_n hx hb dX7_plain_2 rfl (lv_at hl 2 rfl) ?_
  obtain ⟨x1, hc3, hf⟩ := zo_k hf
  refine cal_i (rnS (As := [.int p1, .int p2]) (rest := [.ref (bd 0)]) ⟨hx, hb, hml, hown, hts⟩ (c_X7_isNode hAd  hc3) (va_cwS 2 hts gX7_plain_X7_isNode rfl rfl rfl cdS_X7_isNode ⟨Nat.le_of_ble_eq_true rfl, Nat.le_of_ble_eq_true rfl⟩) hP hK hN rfl hl.1 rfl (Nat.le_of_ble_eq_true rfl) dX7_plain_3 ⟨Nat.zero_le _, Nat.zero_le _⟩) hS (fun H locs hP hS => ?_)
  refine lv_if_eq (tgt := 13) hx hb dX7_plain_6 (by decide) (fun hc => ?_) (fun hc => ?_)
  · have hf := ifp hf hc
    refine lv_iconst (v := (nI 1)) hx hb dX7_plain_13 (by decide) ?_
    obtain ⟨x2, S3, hc14, hf⟩ := zo2_k hf
    refine cal_i (rnV (As := [.int (nI 1)]) (rest := []) ⟨hx, hb, hml, hown, hts⟩ (c_X7_goes hAd  hc14) (cwV 1 hts gX7_plain_X7_goes rfl rfl rfl cdV_X7_goes ⟨Nat.le_of_ble_eq_true rfl, Nat.le_of_ble_eq_true rfl⟩) hP hK hN (mw_o (S := S)) rfl rfl hl.1 rfl (Nat.le_of_ble_eq_true rfl) dX7_plain_14 ⟨Nat.zero_le _, Nat.zero_le _⟩) hS (fun H locs hP hS => ?_)
    refine lv_if_eq (tgt := 32) hx hb dX7_plain_17 (by decide) (fun hc => ?_) (fun hc => ?_)
    · have hf := ifp hf hc
      refine lv_iconst (v := (nI 0)) hx hb dX7_plain_32 (by decide) ?_
      cases Option.some.inj hf
      exact fin_i hx hb hr hlk hS hP rfl dX7_plain_33
    · have hf := ifn hf hc
      refine lv_aload_n hx hb dX7_plain_20 rfl (lv_at hl 0 rfl) ?_
      refine lv_iconst (v := (nI 2)) hx hb dX7_plain_21 (by decide) ?_
      refine lv_iload_n hx hb dX7_plain_22 rfl (lv_at hl 1 rfl) ?_
      refine lv_imul hx hb dX7_plain_23 ?_
      refine lv_iload_n hx hb dX7_plain_24 rfl (lv_at hl 2 rfl) ?_
      refine lv_iadd hx hb dX7_plain_25 ?_
      obtain ⟨x4, S5, hc26, hf⟩ := zo2_k hf
      refine cal_i (rnV (As := [.int (((nI 2) * p1) + p2)]) (rest := []) ⟨hx, hb, hml, hown, hts⟩ (c_X7_looksPlain hAd  hc26) (cwV 1 hts gX7_plain_X7_looksPlain rfl rfl rfl cdV_X7_looksPlain ⟨Nat.le_of_ble_eq_true rfl, Nat.le_of_ble_eq_true rfl⟩) hP hK hN (mw_o (S := S3)) rfl rfl hl.1 rfl (Nat.le_of_ble_eq_true rfl) dX7_plain_26 ⟨Nat.zero_le _, Nat.zero_le _⟩) hS (fun H locs hP hS => ?_)
      refine lv_goto (tgt := 33) hx hb dX7_plain_29 (by decide) ?_
      cases Option.some.inj hf
      exact fin_i hx hb hr hlk hS hP rfl dX7_plain_33
  · have hf := ifn hf hc
    refine lv_iconst (v := (nI 0)) hx hb dX7_plain_9 (by decide) ?_
    refine lv_goto (tgt := 14) hx hb dX7_plain_10 (by decide) ?_
    obtain ⟨x6, S7, hc14, hf⟩ := zo2_k hf
    refine cal_i (rnV (As := [.int (nI 0)]) (rest := []) ⟨hx, hb, hml, hown, hts⟩ (c_X7_goes hAd  hc14) (cwV 1 hts gX7_plain_X7_goes rfl rfl rfl cdV_X7_goes ⟨Nat.le_of_ble_eq_true rfl, Nat.le_of_ble_eq_true rfl⟩) hP hK hN (mw_o (S := S)) rfl rfl hl.1 rfl (Nat.le_of_ble_eq_true rfl) dX7_plain_14 ⟨Nat.zero_le _, Nat.zero_le _⟩) hS (fun H locs hP hS => ?_)
    refine lv_if_eq (tgt := 32) hx hb dX7_plain_17 (by decide) (fun hc => ?_) (fun hc => ?_)
    · have hf := ifp hf hc
      refine lv_iconst (v := (nI 0)) hx hb dX7_plain_32 (by decide) ?_
      cases Option.some.inj hf
      exact fin_i hx hb hr hlk hS hP rfl dX7_plain_33
    · have hf := ifn hf hc
      refine lv_aload_n hx hb dX7_plain_20 rfl (lv_at hl 0 rfl) ?_
      refine lv_iconst (v := (nI 2)) hx hb dX7_plain_21 (by decide) ?_
      refine lv_iload_n hx hb dX7_plain_22 rfl (lv_at hl 1 rfl) ?_
      refine lv_imul hx hb dX7_plain_23 ?_
      refine lv_iload_n hx hb dX7_plain_24 rfl (lv_at hl 2 rfl) ?_
      refine lv_iadd hx hb dX7_plain_25 ?_
      obtain ⟨x8, S9, hc26, hf⟩ := zo2_k hf
      refine cal_i (rnV (As := [.int (((nI 2) * p1) + p2)]) (rest := []) ⟨hx, hb, hml, hown, hts⟩ (c_X7_looksPlain hAd  hc26) (cwV 1 hts gX7_plain_X7_looksPlain rfl rfl rfl cdV_X7_looksPlain ⟨Nat.le_of_ble_eq_true rfl, Nat.le_of_ble_eq_true rfl⟩) hP hK hN (mw_o (S := S7)) rfl rfl hl.1 rfl (Nat.le_of_ble_eq_true rfl) dX7_plain_26 ⟨Nat.zero_le _, Nat.zero_le _⟩) hS (fun H locs hP hS => ?_)
      refine lv_goto (tgt := 33) hx hb dX7_plain_29 (by decide) ?_
      cases Option.some.inj hf
      exact fin_i hx hb hr hlk hS hP rfl dX7_plain_33
set_option maxHeartbeats 4000000 in
set_option maxRecDepth 100000 in
theorem c_X7_poison {l : Launch} {D : va_G} {cyI cyJ cyZ : ClassId} {bd : Nat → Nat}  (hAd : AdOK 41 bd)  {S : St} {p1 : Int32} {p2 : Int32} {r : Int32} {SZ : St} (hf : m_X7_poison S p1 p2 = some (r, SZ)) : Met l yX7_poison wsX7_poison rl_X7_poison (PreW D [(cyI, .int), (cyJ, .long), (cyZ, .boolean)] (mw cyI cyJ cyZ bd S) [.ref (bd 0), .int p1, .int p2]) (PoI D (mw cyI cyJ cyZ bd SZ) (MA bd) r) 0 0 (MA bd) := by
  refine met_go (cc := cX7_poison) (maxL := 4) (ret := (some .boolean)) (by decide) rfl (Nat.le_of_ble_eq_true rfl) ?_
  intro p e s m args below meth c ls hx hb hr hml hts hown hlk hP hK hN hl
  have hown : s.vm.findClass RX7 = some m.cls := hown
  have hS : va_S (MA bd) s.heap s.heap [] := va_S.rf
  have hl : lv_has ls 4 [(0, .ref (bd 0)), (1, .int p1), (2, .int p2)] := hl
  have hin7 : ∀ w ∈ wsX70, w ∈ wsX7_poison := by decide +kernel
  have hfl41 := hts (.fieldLink RX7 41 "MakewheelModel" "isAway" "[Z") (by decide +kernel)
  have hfl37 := hts (.fieldLink RX7 37 "MakewheelModel" "isPoisoned" "[Z") (by decide +kernel)
  unfold m_X7_poison at hf
  refine lv_aload_n hx hb dX7_poison_0 rfl (lv_at hl 0 rfl) ?_
  refine lv_iload_n hx hb dX7_poison_1 rfl (lv_at hl 1 rfl) ?_
  refine lv_iconst (v := (nI 0)) hx hb dX7_poison_2 (by decide) ?_
  refine lv_iconst (v := (nI 2)) hx hb dX7_poison_3 (by decide) ?_
  obtain ⟨x1, hc4, hf⟩ := zo_k hf
  refine cal_i (rnS (As := [.int p1, .int (nI 0), .int (nI 2)]) (rest := [.ref (bd 0)]) ⟨hx, hb, hml, hown, hts⟩ (c_X7_isIn hAd  hc4) (va_cwS 3 hts gX7_poison_X7_isIn rfl rfl rfl cdS_X7_isIn ⟨Nat.le_of_ble_eq_true rfl, Nat.le_of_ble_eq_true rfl⟩) hP hK hN rfl hl.1 rfl (Nat.le_of_ble_eq_true rfl) dX7_poison_4 ⟨Nat.zero_le _, Nat.zero_le _⟩) hS (fun H locs hP hS => ?_)
  refine lv_if_eq (tgt := 14) hx hb dX7_poison_7 (by decide) (fun hc => ?_) (fun hc => ?_)
  · have hf := ifp hf hc
    refine lv_iconst (v := (nI 1)) hx hb dX7_poison_14 (by decide) ?_
    obtain ⟨x2, S3, hc15, hf⟩ := zo2_k hf
    refine cal_i (rnV (As := [.int (nI 1)]) (rest := []) ⟨hx, hb, hml, hown, hts⟩ (c_X7_goes hAd  hc15) (cwV 1 hts gX7_poison_X7_goes rfl rfl rfl cdV_X7_goes ⟨Nat.le_of_ble_eq_true rfl, Nat.le_of_ble_eq_true rfl⟩) hP hK hN (mw_o (S := S)) rfl rfl hl.1 rfl (Nat.le_of_ble_eq_true rfl) dX7_poison_15 ⟨Nat.zero_le _, Nat.zero_le _⟩) hS (fun H locs hP hS => ?_)
    refine lv_if_ne (tgt := 23) hx hb dX7_poison_18 (by decide) (fun hc => ?_) (fun hc => ?_)
    · have hf := ifn hf hc
      refine lv_aload_n hx hb dX7_poison_23 rfl (lv_at hl 0 rfl) ?_
      refine va_get (D := D) (ci := 7) (v := .ref (bd 11)) (C := RX7) (T := TX7) (N := 48) hx hb hts hin7 hown hK hP 0 (mw_o (S := S3)) rfl 10 (by decide) hfl41 (fun _ h9 => h9) mw_f10 dX7_poison_24 ?_
      refine lv_iload_n hx hb dX7_poison_27 rfl (lv_at hl 1 rfl) ?_
      obtain ⟨hin, hf⟩ := zg_k hf
      refine va_zald hx hb hK hP 11 2 (mw_a10 (S := S3)) rfl (inb_k hin) dX7_poison_28 ?_
      refine lv_topi (fun x4 ex4 => ?_)
      have hf := zb_x hf ex4
      refine lv_istore_n (lv' := [(3, .int x4), (0, .ref (bd 0)), (1, .int p1), (2, .int p2)]) hx hb dX7_poison_29 rfl hl (by decide) rfl (fun ls hl => ?_)
      refine lv_aload_n hx hb dX7_poison_30 rfl (lv_at hl 1 rfl) ?_
      refine va_get (D := D) (ci := 7) (v := .ref (bd 10)) (C := RX7) (T := TX7) (N := 48) hx hb hts hin7 hown hK hP 0 (mw_o (S := S3)) rfl 9 (by decide) hfl37 (fun _ h9 => h9) mw_f9 dX7_poison_31 ?_
      refine lv_iload_n hx hb dX7_poison_34 rfl (lv_at hl 2 rfl) ?_
      refine lv_iload_n hx hb dX7_poison_35 rfl (lv_at hl 3 rfl) ?_
      obtain ⟨hin, hf⟩ := zg_k hf
      obtain ⟨hbz, hf⟩ := zg_k hf
      refine va_zast hx hb hK hP (mw_D hAd) hS 10 2 (mw_a9 (S := S3)) rfl (inb_k hin) dX7_poison_36 (fun H locs hP _ hS => ?_)
      rw [bz_v hbz] at hP
      have hP : va_P D vwCl (mw cyI cyJ cyZ bd (wi S3 9 (Int32.toNatClampNeg p1) p2)) H := by rw [← mw_s9]; exact hP
      obtain ⟨S5, eS5, hf⟩ := zb_k hf
      rw [← eS5] at hP
      refine lv_aload_n hx hb dX7_poison_37 rfl (lv_at hl 1 rfl) ?_
      refine va_get (D := D) (ci := 7) (v := .ref (bd 11)) (C := RX7) (T := TX7) (N := 48) hx hb hts hin7 hown hK hP 0 (mw_o (S := S5)) rfl 10 (by decide) hfl41 (fun _ h9 => h9) mw_f10 dX7_poison_38 ?_
      refine lv_iload_n hx hb dX7_poison_41 rfl (lv_at hl 2 rfl) ?_
      refine lv_iconst (v := (nI 0)) hx hb dX7_poison_42 (by decide) ?_
      obtain ⟨hin, hf⟩ := zg_k hf
      refine va_zast hx hb hK hP (mw_D hAd) hS 11 2 (mw_a10 (S := S5)) rfl (inb_k hin) dX7_poison_43 (fun H locs hP _ hS => ?_)
      have hP : va_P D vwCl (mw cyI cyJ cyZ bd (wi S5 10 (Int32.toNatClampNeg p1) (nI 0))) H := by rw [← mw_s10]; exact hP
      obtain ⟨S6, eS6, hf⟩ := zb_k hf
      rw [← eS6] at hP
      refine lv_iload_n hx hb dX7_poison_44 rfl (lv_at hl 0 rfl) ?_
      obtain ⟨hbz, hf⟩ := zg_k hf
      cases Option.some.inj hf
      exact fin_z hx hb hr hlk hS hP (bz_n hbz) rfl dX7_poison_45
    · have hf := ifp hf hc
      refine lv_iconst (v := (nI 0)) hx hb dX7_poison_21 (by decide) ?_
      cases Option.some.inj hf
      exact fin_z hx hb hr hlk hS hP rfl rfl dX7_poison_22
  · have hf := ifn hf hc
    refine lv_iconst (v := (nI 0)) hx hb dX7_poison_10 (by decide) ?_
    refine lv_goto (tgt := 15) hx hb dX7_poison_11 (by decide) ?_
    obtain ⟨x7, S8, hc15, hf⟩ := zo2_k hf
    refine cal_i (rnV (As := [.int (nI 0)]) (rest := []) ⟨hx, hb, hml, hown, hts⟩ (c_X7_goes hAd  hc15) (cwV 1 hts gX7_poison_X7_goes rfl rfl rfl cdV_X7_goes ⟨Nat.le_of_ble_eq_true rfl, Nat.le_of_ble_eq_true rfl⟩) hP hK hN (mw_o (S := S)) rfl rfl hl.1 rfl (Nat.le_of_ble_eq_true rfl) dX7_poison_15 ⟨Nat.zero_le _, Nat.zero_le _⟩) hS (fun H locs hP hS => ?_)
    refine lv_if_ne (tgt := 23) hx hb dX7_poison_18 (by decide) (fun hc => ?_) (fun hc => ?_)
    · have hf := ifn hf hc
      refine lv_aload_n hx hb dX7_poison_23 rfl (lv_at hl 0 rfl) ?_
      refine va_get (D := D) (ci := 7) (v := .ref (bd 11)) (C := RX7) (T := TX7) (N := 48) hx hb hts hin7 hown hK hP 0 (mw_o (S := S8)) rfl 10 (by decide) hfl41 (fun _ h9 => h9) mw_f10 dX7_poison_24 ?_
      refine lv_iload_n hx hb dX7_poison_27 rfl (lv_at hl 1 rfl) ?_
      obtain ⟨hin, hf⟩ := zg_k hf
      refine va_zald hx hb hK hP 11 2 (mw_a10 (S := S8)) rfl (inb_k hin) dX7_poison_28 ?_
      refine lv_topi (fun x9 ex9 => ?_)
      have hf := zb_x hf ex9
      refine lv_istore_n (lv' := [(3, .int x9), (0, .ref (bd 0)), (1, .int p1), (2, .int p2)]) hx hb dX7_poison_29 rfl hl (by decide) rfl (fun ls hl => ?_)
      refine lv_aload_n hx hb dX7_poison_30 rfl (lv_at hl 1 rfl) ?_
      refine va_get (D := D) (ci := 7) (v := .ref (bd 10)) (C := RX7) (T := TX7) (N := 48) hx hb hts hin7 hown hK hP 0 (mw_o (S := S8)) rfl 9 (by decide) hfl37 (fun _ h9 => h9) mw_f9 dX7_poison_31 ?_
      refine lv_iload_n hx hb dX7_poison_34 rfl (lv_at hl 2 rfl) ?_
      refine lv_iload_n hx hb dX7_poison_35 rfl (lv_at hl 3 rfl) ?_
      obtain ⟨hin, hf⟩ := zg_k hf
      obtain ⟨hbz, hf⟩ := zg_k hf
      refine va_zast hx hb hK hP (mw_D hAd) hS 10 2 (mw_a9 (S := S8)) rfl (inb_k hin) dX7_poison_36 (fun H locs hP _ hS => ?_)
      rw [bz_v hbz] at hP
      have hP : va_P D vwCl (mw cyI cyJ cyZ bd (wi S8 9 (Int32.toNatClampNeg p1) p2)) H := by rw [← mw_s9]; exact hP
      obtain ⟨S10, eS10, hf⟩ := zb_k hf
      rw [← eS10] at hP
      refine lv_aload_n hx hb dX7_poison_37 rfl (lv_at hl 1 rfl) ?_
      refine va_get (D := D) (ci := 7) (v := .ref (bd 11)) (C := RX7) (T := TX7) (N := 48) hx hb hts hin7 hown hK hP 0 (mw_o (S := S10)) rfl 10 (by decide) hfl41 (fun _ h9 => h9) mw_f10 dX7_poison_38 ?_
      refine lv_iload_n hx hb dX7_poison_41 rfl (lv_at hl 2 rfl) ?_
      refine lv_iconst (v := (nI 0)) hx hb dX7_poison_42 (by decide) ?_
      obtain ⟨hin, hf⟩ := zg_k hf
      refine va_zast hx hb hK hP (mw_D hAd) hS 11 2 (mw_a10 (S := S10)) rfl (inb_k hin) dX7_poison_43 (fun H locs hP _ hS => ?_)
      have hP : va_P D vwCl (mw cyI cyJ cyZ bd (wi S10 10 (Int32.toNatClampNeg p1) (nI 0))) H := by rw [← mw_s10]; exact hP
      obtain ⟨S11, eS11, hf⟩ := zb_k hf
      rw [← eS11] at hP
      refine lv_iload_n hx hb dX7_poison_44 rfl (lv_at hl 0 rfl) ?_
      obtain ⟨hbz, hf⟩ := zg_k hf
      cases Option.some.inj hf
      exact fin_z hx hb hr hlk hS hP (bz_n hbz) rfl dX7_poison_45
    · have hf := ifp hf hc
      refine lv_iconst (v := (nI 0)) hx hb dX7_poison_21 (by decide) ?_
      cases Option.some.inj hf
      exact fin_z hx hb hr hlk hS hP rfl rfl dX7_poison_22
set_option maxHeartbeats 4000000 in
set_option maxRecDepth 100000 in
theorem c_X7_steps {l : Launch} {D : va_G} {cyI cyJ cyZ : ClassId} {bd : Nat → Nat}  (hAd : AdOK 41 bd)  {S : St} {p1 : Int32} {p2 : Int32} {r : Int32} (hf : m_X7_steps S p1 p2 = some r) : Met l yX7_steps wsX7_steps rl_X7_steps (PreW D [(cyI, .int), (cyJ, .long), (cyZ, .boolean)] (mw cyI cyJ cyZ bd S) [.ref (bd 0), .int p1, .int p2]) (PoI D (mw cyI cyJ cyZ bd S) (MA bd) r) 0 0 (MA bd) := by
  refine met_go (cc := cX7_steps) (maxL := 8) (ret := (some .int)) (by decide) rfl (Nat.le_of_ble_eq_true rfl) ?_
  intro p e s m args below meth c ls hx hb hr hml hts hown hlk hP hK hN hl
  have hown : s.vm.findClass RX7 = some m.cls := hown
  have hS : va_S (MA bd) s.heap s.heap [] := va_S.rf
  have hl : lv_has ls 8 [(0, .ref (bd 0)), (1, .int p1), (2, .int p2)] := hl
  unfold m_X7_steps at hf
  refine lv_aload_n hx hb dX7_steps_0 rfl (lv_at hl 0 rfl) ?_
  refine lv_iload_n hx hb dX7_steps_1 rfl (lv_at hl 1 rfl) ?_
  obtain ⟨x1, hc2, hf⟩ := zo_k hf
  refine cal_i (rnV (As := [.int p1]) (rest := []) ⟨hx, hb, hml, hown, hts⟩ (c_X7_inputsOf hAd  hc2) (cwV 1 hts gX7_steps_X7_inputsOf rfl rfl rfl cdV_X7_inputsOf ⟨Nat.le_of_ble_eq_true rfl, Nat.le_of_ble_eq_true rfl⟩) hP hK hN (mw_o (S := S)) rfl rfl hl.1 rfl (Nat.le_of_ble_eq_true rfl) dX7_steps_2 ⟨Nat.zero_le _, Nat.zero_le _⟩) hS (fun H locs hP hS => ?_)
  refine lv_istore_n (lv' := [(3, .int x1), (0, .ref (bd 0)), (1, .int p1), (2, .int p2)]) hx hb dX7_steps_5 rfl hl (by decide) rfl (fun ls hl => ?_)
  refine lv_iload_n hx hb dX7_steps_6 rfl (lv_at hl 0 rfl) ?_
  refine lv_istore (lv' := [(4, .int x1), (3, .int x1), (0, .ref (bd 0)), (1, .int p1), (2, .int p2)]) hx hb dX7_steps_7 hl (by decide) rfl (fun ls hl => ?_)
  refine lv_iconst (v := (nI 1)) hx hb dX7_steps_9 (by decide) ?_
  refine lv_istore (lv' := [(5, .int (nI 1)), (4, .int x1), (3, .int x1), (0, .ref (bd 0)), (1, .int p1), (2, .int p2)]) hx hb dX7_steps_10 hl (by decide) rfl (fun ls hl => ?_)
  refine zl3_ind (F := (m_X7_steps_B12 S p2)) (R := r) (P := fun x2 x3 x4 => ∀ (H : Heap) (locs : List Loc) (ls : Array Slot), va_P D vwCl (mw cyI cyJ cyZ bd S) H → va_S (MA bd) s.heap H locs → lv_has ls 8 [(0, .ref (bd 0)), (2, .int p2), (3, .int x2), (4, .int x3), (5, .int x4)] → W p l e rl_X7_steps s m args below meth c H locs 0 0 (MQ below (PoI D (mw cyI cyJ cyZ bd S) (MA bd) r) args s 0 0 (MA bd)) (F0 m 12 ls [])) (fun rec12 ih12 x2 x3 x4 hf H locs ls hP hS hl => ?_) FU x1 x1 (nI 1) hf _ _ _ hP hS (lv_sub hl [3, 5, 2, 1, 0] rfl)
  unfold m_X7_steps_B12 at hf
  refine lv_iload hx hb dX7_steps_12 (lv_at hl 4 rfl) ?_
  refine lv_bipush (v := (nI 16)) hx hb dX7_steps_14 (by decide) ?_
  refine lv_icmp_gt (tgt := 94) hx hb dX7_steps_16 (by decide) (fun hc => ?_) (fun hc => ?_)
  · have hf := ifp hf hc
    refine lv_iconst (v := (-1)) hx hb dX7_steps_94 (by decide) ?_
    exact fin_i hx hb hr hlk hS hP (Option.some.inj hf) dX7_steps_95
  · have hf := ifn hf hc
    refine lv_iload_n hx hb dX7_steps_19 rfl (lv_at hl 2 rfl) ?_
    refine lv_iload_n hx hb dX7_steps_20 rfl (lv_at hl 1 rfl) ?_
    obtain ⟨x5, hc21, hf⟩ := zo_k hf
    refine cal_i (rnS (As := [.int x2, .int p2]) (rest := []) ⟨hx, hb, hml, hown, hts⟩ (c_X7_has hAd  hc21) (va_cwS 2 hts gX7_steps_X7_has rfl rfl rfl cdS_X7_has ⟨Nat.le_of_ble_eq_true rfl, Nat.le_of_ble_eq_true rfl⟩) hP hK hN rfl hl.1 rfl (Nat.le_of_ble_eq_true rfl) dX7_steps_21 ⟨Nat.zero_le _, Nat.zero_le _⟩) hS (fun H locs hP hS => ?_)
    refine lv_if_eq (tgt := 30) hx hb dX7_steps_24 (by decide) (fun hc => ?_) (fun hc => ?_)
    · have hf := ifp hf hc
      refine lv_iconst (v := (nI 0)) hx hb dX7_steps_30 (by decide) ?_
      refine lv_istore (lv' := [(6, .int (nI 0)), (0, .ref (bd 0)), (2, .int p2), (3, .int x2), (4, .int x3), (5, .int x4)]) hx hb dX7_steps_31 hl (by decide) rfl (fun ls hl => ?_)
      refine lv_iconst (v := (nI 0)) hx hb dX7_steps_33 (by decide) ?_
      refine lv_istore (lv' := [(7, .int (nI 0)), (6, .int (nI 0)), (0, .ref (bd 0)), (2, .int p2), (3, .int x2), (4, .int x3), (5, .int x4)]) hx hb dX7_steps_34 hl (by decide) rfl (fun ls hl => ?_)
      refine zl2_ind (F := (m_X7_steps_B36 x3 x4 rec12 S x2)) (R := r) (P := fun x6 x7 => ∀ (H : Heap) (locs : List Loc) (ls : Array Slot), va_P D vwCl (mw cyI cyJ cyZ bd S) H → va_S (MA bd) s.heap H locs → lv_has ls 8 [(0, .ref (bd 0)), (2, .int p2), (3, .int x2), (4, .int x3), (5, .int x4), (6, .int x6), (7, .int x7)] → W p l e rl_X7_steps s m args below meth c H locs 0 0 (MQ below (PoI D (mw cyI cyJ cyZ bd S) (MA bd) r) args s 0 0 (MA bd)) (F0 m 36 ls [])) (fun rec36 ih36 x6 x7 hf H locs ls hP hS hl => ?_) FU (nI 0) (nI 0) hf _ _ _ hP hS (lv_sub hl [2, 3, 4, 5, 6, 1, 0] rfl)
      unfold m_X7_steps_B36 at hf
      refine lv_iload hx hb dX7_steps_36 (lv_at hl 6 rfl) ?_
      refine lv_bipush (v := (nI 16)) hx hb dX7_steps_38 (by decide) ?_
      refine lv_icmp_ge (tgt := 73) hx hb dX7_steps_40 (by decide) (fun hc => ?_) (fun hc => ?_)
      · have hf := ifp hf hc
        refine lv_iload hx hb dX7_steps_73 (lv_at hl 5 rfl) ?_
        refine lv_iload hx hb dX7_steps_75 (lv_at hl 3 rfl) ?_
        refine lv_iconst (v := (-1)) hx hb dX7_steps_77 (by decide) ?_
        refine lv_ixor hx hb dX7_steps_78 ?_
        refine lv_iand hx hb dX7_steps_79 ?_
        refine lv_topi (fun x8 ex8 => ?_)
        have hf := zb_x hf ex8
        refine lv_istore_n (lv' := [(3, .int x8), (0, .ref (bd 0)), (2, .int p2), (4, .int x3), (5, .int x4), (6, .int x6), (7, .int x7)]) hx hb dX7_steps_80 rfl hl (by decide) rfl (fun ls hl => ?_)
        refine lv_iload hx hb dX7_steps_81 (lv_at hl 3 rfl) ?_
        refine lv_iload hx hb dX7_steps_83 (lv_at hl 5 rfl) ?_
        refine lv_ior hx hb dX7_steps_85 ?_
        refine lv_topi (fun x9 ex9 => ?_)
        have hf := zb_x hf ex9
        refine lv_istore (lv' := [(4, .int x9), (3, .int x8), (0, .ref (bd 0)), (2, .int p2), (5, .int x4), (6, .int x6), (7, .int x7)]) hx hb dX7_steps_86 hl (by decide) rfl (fun ls hl => ?_)
        obtain ⟨x10, ex10, hf⟩ := zb_k hf
        refine lv_iinc (v := x10) (lv' := [(5, .int x10), (4, .int x9), (3, .int x8), (0, .ref (bd 0)), (2, .int p2), (6, .int x6), (7, .int x7)]) hx hb dX7_steps_88 hl (k := 4) rfl (by rw [ex10]; rfl) (by decide) rfl (fun ls hl => ?_)
        refine lv_goto (tgt := 12) hx hb dX7_steps_91 (by decide) ?_
        exact ih12 x8 x9 x10 hf _ _ _ hP hS (lv_sub hl [3, 4, 2, 1, 0] rfl)
      · have hf := ifn hf hc
        refine lv_iload hx hb dX7_steps_43 (lv_at hl 5 rfl) ?_
        refine lv_iload_n hx hb dX7_steps_45 rfl (lv_at hl 2 rfl) ?_
        refine lv_iload hx hb dX7_steps_46 (lv_at hl 6 rfl) ?_
        obtain ⟨x11, hc48, hf⟩ := zo_k hf
        refine cal_i (rnS (As := [.int x2, .int x7]) (rest := [.int x6]) ⟨hx, hb, hml, hown, hts⟩ (c_X7_has hAd  hc48) (va_cwS 2 hts gX7_steps_X7_has rfl rfl rfl cdS_X7_has ⟨Nat.le_of_ble_eq_true rfl, Nat.le_of_ble_eq_true rfl⟩) hP hK hN rfl hl.1 rfl (Nat.le_of_ble_eq_true rfl) dX7_steps_48 ⟨Nat.zero_le _, Nat.zero_le _⟩) hS (fun H locs hP hS => ?_)
        refine lv_if_eq (tgt := 63) hx hb dX7_steps_51 (by decide) (fun hc => ?_) (fun hc => ?_)
        · have hf := ifp hf hc
          refine lv_iconst (v := (nI 0)) hx hb dX7_steps_63 (by decide) ?_
          refine lv_ior hx hb dX7_steps_64 ?_
          refine lv_topi (fun x12 ex12 => ?_)
          have hf := zb_x hf ex12
          refine lv_istore (lv' := [(6, .int x12), (0, .ref (bd 0)), (2, .int p2), (3, .int x2), (4, .int x3), (5, .int x4), (7, .int x7)]) hx hb dX7_steps_65 hl (by decide) rfl (fun ls hl => ?_)
          obtain ⟨x13, ex13, hf⟩ := zb_k hf
          refine lv_iinc (v := x13) (lv' := [(7, .int x13), (6, .int x12), (0, .ref (bd 0)), (2, .int p2), (3, .int x2), (4, .int x3), (5, .int x4)]) hx hb dX7_steps_67 hl (k := 6) rfl (by rw [ex13]; rfl) (by decide) rfl (fun ls hl => ?_)
          refine lv_goto (tgt := 36) hx hb dX7_steps_70 (by decide) ?_
          exact ih36 x12 x13 hf _ _ _ hP hS (lv_sub hl [2, 3, 4, 5, 6, 1, 0] rfl)
        · have hf := ifn hf hc
          refine lv_aload_n hx hb dX7_steps_54 rfl (lv_at hl 0 rfl) ?_
          refine lv_iload hx hb dX7_steps_55 (lv_at hl 6 rfl) ?_
          obtain ⟨x14, hc57, hf⟩ := zo_k hf
          refine cal_i (rnV (As := [.int x7]) (rest := [.int x6]) ⟨hx, hb, hml, hown, hts⟩ (c_X7_inputsOf hAd  hc57) (cwV 1 hts gX7_steps_X7_inputsOf rfl rfl rfl cdV_X7_inputsOf ⟨Nat.le_of_ble_eq_true rfl, Nat.le_of_ble_eq_true rfl⟩) hP hK hN (mw_o (S := S)) rfl rfl hl.1 rfl (Nat.le_of_ble_eq_true rfl) dX7_steps_57 ⟨Nat.zero_le _, Nat.zero_le _⟩) hS (fun H locs hP hS => ?_)
          refine lv_goto (tgt := 64) hx hb dX7_steps_60 (by decide) ?_
          refine lv_ior hx hb dX7_steps_64 ?_
          refine lv_topi (fun x15 ex15 => ?_)
          have hf := zb_x hf ex15
          refine lv_istore (lv' := [(6, .int x15), (0, .ref (bd 0)), (2, .int p2), (3, .int x2), (4, .int x3), (5, .int x4), (7, .int x7)]) hx hb dX7_steps_65 hl (by decide) rfl (fun ls hl => ?_)
          obtain ⟨x16, ex16, hf⟩ := zb_k hf
          refine lv_iinc (v := x16) (lv' := [(7, .int x16), (6, .int x15), (0, .ref (bd 0)), (2, .int p2), (3, .int x2), (4, .int x3), (5, .int x4)]) hx hb dX7_steps_67 hl (k := 6) rfl (by rw [ex16]; rfl) (by decide) rfl (fun ls hl => ?_)
          refine lv_goto (tgt := 36) hx hb dX7_steps_70 (by decide) ?_
          exact ih36 x15 x16 hf _ _ _ hP hS (lv_sub hl [2, 3, 4, 5, 6, 1, 0] rfl)
    · have hf := ifn hf hc
      refine lv_iload hx hb dX7_steps_27 (lv_at hl 4 rfl) ?_
      exact fin_i hx hb hr hlk hS hP (Option.some.inj hf) dX7_steps_29
set_option maxHeartbeats 4000000 in
set_option maxRecDepth 100000 in
theorem c_X7_ring {l : Launch} {D : va_G} {cyI cyJ cyZ : ClassId} {bd : Nat → Nat}  (hAd : AdOK 41 bd)  {S : St} {p1 : Int32} {r : Int32} {SZ : St} (hf : m_X7_ring S p1 = some (r, SZ)) : Met l yX7_ring wsX7_ring rl_X7_ring (PreW D [(cyI, .int), (cyJ, .long), (cyZ, .boolean)] (mw cyI cyJ cyZ bd S) [.ref (bd 0), .int p1]) (PoI D (mw cyI cyJ cyZ bd SZ) (MA bd) r) 0 0 (MA bd) := by
  refine met_go (cc := cX7_ring) (maxL := 2) (ret := (some .int)) (by decide) rfl (Nat.le_of_ble_eq_true rfl) ?_
  intro p e s m args below meth c ls hx hb hr hml hts hown hlk hP hK hN hl
  have hown : s.vm.findClass RX7 = some m.cls := hown
  have hS : va_S (MA bd) s.heap s.heap [] := va_S.rf
  have hl : lv_has ls 2 [(0, .ref (bd 0)), (1, .int p1)] := hl
  unfold m_X7_ring at hf
  refine lv_aload_n hx hb dX7_ring_0 rfl (lv_at hl 0 rfl) ?_
  refine lv_iload_n hx hb dX7_ring_1 rfl (lv_at hl 1 rfl) ?_
  obtain ⟨x1, hc2, hf⟩ := zo_k hf
  refine cal_i (rnS (As := [.int p1]) (rest := [.ref (bd 0)]) ⟨hx, hb, hml, hown, hts⟩ (c_X7_isTarget hAd  hc2) (va_cwS 1 hts gX7_ring_X7_isTarget rfl rfl rfl cdS_X7_isTarget ⟨Nat.le_of_ble_eq_true rfl, Nat.le_of_ble_eq_true rfl⟩) hP hK hN rfl hl.1 rfl (Nat.le_of_ble_eq_true rfl) dX7_ring_2 ⟨Nat.zero_le _, Nat.zero_le _⟩) hS (fun H locs hP hS => ?_)
  refine lv_if_eq (tgt := 12) hx hb dX7_ring_5 (by decide) (fun hc => ?_) (fun hc => ?_)
  · have hf := ifp hf hc
    refine lv_iconst (v := (nI 1)) hx hb dX7_ring_12 (by decide) ?_
    obtain ⟨x2, S3, hc13, hf⟩ := zo2_k hf
    refine cal_i (rnV (As := [.int (nI 1)]) (rest := []) ⟨hx, hb, hml, hown, hts⟩ (c_X7_goes hAd  hc13) (cwV 1 hts gX7_ring_X7_goes rfl rfl rfl cdV_X7_goes ⟨Nat.le_of_ble_eq_true rfl, Nat.le_of_ble_eq_true rfl⟩) hP hK hN (mw_o (S := S)) rfl rfl hl.1 rfl (Nat.le_of_ble_eq_true rfl) dX7_ring_13 ⟨Nat.zero_le _, Nat.zero_le _⟩) hS (fun H locs hP hS => ?_)
    refine lv_if_eq (tgt := 28) hx hb dX7_ring_16 (by decide) (fun hc => ?_) (fun hc => ?_)
    · have hf := ifp hf hc
      refine lv_iconst (v := (nI 0)) hx hb dX7_ring_28 (by decide) ?_
      cases Option.some.inj hf
      exact fin_i hx hb hr hlk hS hP rfl dX7_ring_29
    · have hf := ifn hf hc
      refine lv_aload_n hx hb dX7_ring_19 rfl (lv_at hl 0 rfl) ?_
      refine lv_iload_n hx hb dX7_ring_20 rfl (lv_at hl 1 rfl) ?_
      refine lv_iload_n hx hb dX7_ring_21 rfl (lv_at hl 1 rfl) ?_
      obtain ⟨x4, hc22, hf⟩ := zo_k hf
      refine cal_i (rnV (As := [.int p1, .int p1]) (rest := []) ⟨hx, hb, hml, hown, hts⟩ (c_X7_steps hAd  hc22) (cwV 2 hts gX7_ring_X7_steps rfl rfl rfl cdV_X7_steps ⟨Nat.le_of_ble_eq_true rfl, Nat.le_of_ble_eq_true rfl⟩) hP hK hN (mw_o (S := S3)) rfl rfl hl.1 rfl (Nat.le_of_ble_eq_true rfl) dX7_ring_22 ⟨Nat.zero_le _, Nat.zero_le _⟩) hS (fun H locs hP hS => ?_)
      refine lv_goto (tgt := 29) hx hb dX7_ring_25 (by decide) ?_
      cases Option.some.inj hf
      exact fin_i hx hb hr hlk hS hP rfl dX7_ring_29
  · have hf := ifn hf hc
    refine lv_iconst (v := (nI 0)) hx hb dX7_ring_8 (by decide) ?_
    refine lv_goto (tgt := 13) hx hb dX7_ring_9 (by decide) ?_
    obtain ⟨x5, S6, hc13, hf⟩ := zo2_k hf
    refine cal_i (rnV (As := [.int (nI 0)]) (rest := []) ⟨hx, hb, hml, hown, hts⟩ (c_X7_goes hAd  hc13) (cwV 1 hts gX7_ring_X7_goes rfl rfl rfl cdV_X7_goes ⟨Nat.le_of_ble_eq_true rfl, Nat.le_of_ble_eq_true rfl⟩) hP hK hN (mw_o (S := S)) rfl rfl hl.1 rfl (Nat.le_of_ble_eq_true rfl) dX7_ring_13 ⟨Nat.zero_le _, Nat.zero_le _⟩) hS (fun H locs hP hS => ?_)
    refine lv_if_eq (tgt := 28) hx hb dX7_ring_16 (by decide) (fun hc => ?_) (fun hc => ?_)
    · have hf := ifp hf hc
      refine lv_iconst (v := (nI 0)) hx hb dX7_ring_28 (by decide) ?_
      cases Option.some.inj hf
      exact fin_i hx hb hr hlk hS hP rfl dX7_ring_29
    · have hf := ifn hf hc
      refine lv_aload_n hx hb dX7_ring_19 rfl (lv_at hl 0 rfl) ?_
      refine lv_iload_n hx hb dX7_ring_20 rfl (lv_at hl 1 rfl) ?_
      refine lv_iload_n hx hb dX7_ring_21 rfl (lv_at hl 1 rfl) ?_
      obtain ⟨x7, hc22, hf⟩ := zo_k hf
      refine cal_i (rnV (As := [.int p1, .int p1]) (rest := []) ⟨hx, hb, hml, hown, hts⟩ (c_X7_steps hAd  hc22) (cwV 2 hts gX7_ring_X7_steps rfl rfl rfl cdV_X7_steps ⟨Nat.le_of_ble_eq_true rfl, Nat.le_of_ble_eq_true rfl⟩) hP hK hN (mw_o (S := S6)) rfl rfl hl.1 rfl (Nat.le_of_ble_eq_true rfl) dX7_ring_22 ⟨Nat.zero_le _, Nat.zero_le _⟩) hS (fun H locs hP hS => ?_)
      refine lv_goto (tgt := 29) hx hb dX7_ring_25 (by decide) ?_
      cases Option.some.inj hf
      exact fin_i hx hb hr hlk hS hP rfl dX7_ring_29
set_option maxHeartbeats 4000000 in
set_option maxRecDepth 100000 in
theorem c_X7_rule {l : Launch} {D : va_G} {cyI cyJ cyZ : ClassId} {bd : Nat → Nat}  (hAd : AdOK 41 bd)  {S : St} {p1 : Int32} {p2 : Int32} {p3 : Int32} {p4 : Int32} {p5 : Int32} {r : Int32} {SZ : St} (hf : m_X7_rule S p1 p2 p3 p4 p5 = some (r, SZ)) : Met l yX7_rule wsX7_rule rl_X7_rule (PreW D [(cyI, .int), (cyJ, .long), (cyZ, .boolean)] (mw cyI cyJ cyZ bd S) [.ref (bd 0), .int p1, .int p2, .int p3, .int p4, .int p5]) (PoI D (mw cyI cyJ cyZ bd SZ) (MA bd) r) 0 0 (MA bd) := by
  refine met_go (cc := cX7_rule) (maxL := 8) (ret := (some .boolean)) (by decide) rfl (Nat.le_of_ble_eq_true rfl) ?_
  intro p e s m args below meth c ls hx hb hr hml hts hown hlk hP hK hN hl
  have hown : s.vm.findClass RX7 = some m.cls := hown
  have hS : va_S (MA bd) s.heap s.heap [] := va_S.rf
  have hl : lv_has ls 8 [(0, .ref (bd 0)), (1, .int p1), (2, .int p2), (3, .int p3), (4, .int p4), (5, .int p5)] := hl
  have hin7 : ∀ w ∈ wsX70, w ∈ wsX7_rule := by decide +kernel
  have hfl13 := hts (.fieldLink RX7 13 "MakewheelModel" "kinds" "[I") (by decide +kernel)
  have hfl16 := hts (.fieldLink RX7 16 "MakewheelModel" "numbers" "[I") (by decide +kernel)
  have hfl19 := hts (.fieldLink RX7 19 "MakewheelModel" "salts" "[I") (by decide +kernel)
  have hfl22 := hts (.fieldLink RX7 22 "MakewheelModel" "times" "[I") (by decide +kernel)
  have hfl25 := hts (.fieldLink RX7 25 "MakewheelModel" "many" "[I") (by decide +kernel)
  unfold m_X7_rule at hf
  refine lv_iload_n hx hb dX7_rule_0 rfl (lv_at hl 2 rfl) ?_
  refine lv_iconst (v := (-1)) hx hb dX7_rule_1 (by decide) ?_
  refine lv_iconst (v := (nI 4)) hx hb dX7_rule_2 (by decide) ?_
  obtain ⟨x1, hc3, hf⟩ := zo_k hf
  refine cal_i (rnS (As := [.int p2, .int (-1), .int (nI 4)]) (rest := []) ⟨hx, hb, hml, hown, hts⟩ (c_X7_isIn hAd  hc3) (va_cwS 3 hts gX7_rule_X7_isIn rfl rfl rfl cdS_X7_isIn ⟨Nat.le_of_ble_eq_true rfl, Nat.le_of_ble_eq_true rfl⟩) hP hK hN rfl hl.1 rfl (Nat.le_of_ble_eq_true rfl) dX7_rule_3 ⟨Nat.zero_le _, Nat.zero_le _⟩) hS (fun H locs hP hS => ?_)
  have hJ48 : ∀ (t2 : Int32), m_X7_rule_J48 S p1 p2 p3 p4 p5 t2 = some (r, SZ) → ∀ (H : Heap) (locs : List Loc) (ls : Array Slot), va_P D vwCl (mw cyI cyJ cyZ bd S) H → va_S (MA bd) s.heap H locs → lv_has ls 8 [(0, .ref (bd 0)), (1, .int p1), (2, .int p2), (3, .int p3), (4, .int p4), (5, .int p5)] → W p l e rl_X7_rule s m args below meth c H locs 0 0 (MQ below (PoI D (mw cyI cyJ cyZ bd SZ) (MA bd) r) args s 0 0 (MA bd)) (F0 m 48 ls [.int t2]) := by
    intro t2 hf H locs ls hP hS hl
    unfold m_X7_rule_J48 at hf
    refine lv_istore (lv' := [(6, .int t2), (0, .ref (bd 0)), (1, .int p1), (2, .int p2), (3, .int p3), (4, .int p4), (5, .int p5)]) hx hb dX7_rule_48 hl (by decide) rfl (fun ls hl => ?_)
    refine lv_aload_n hx hb dX7_rule_50 rfl (lv_at hl 1 rfl) ?_
    refine lv_iload_n hx hb dX7_rule_51 rfl (lv_at hl 2 rfl) ?_
    obtain ⟨x3, hc52, hf⟩ := zo_k hf
    refine cal_i (rnS (As := [.int p1]) (rest := [.ref (bd 0)]) ⟨hx, hb, hml, hown, hts⟩ (c_X7_isTarget hAd  hc52) (va_cwS 1 hts gX7_rule_X7_isTarget rfl rfl rfl cdS_X7_isTarget ⟨Nat.le_of_ble_eq_true rfl, Nat.le_of_ble_eq_true rfl⟩) hP hK hN rfl hl.1 rfl (Nat.le_of_ble_eq_true rfl) dX7_rule_52 ⟨Nat.zero_le _, Nat.zero_le _⟩) hS (fun H locs hP hS => ?_)
    have hJ72 : ∀ (t4 : Int32), m_X7_rule_J72 S p1 p2 p3 p4 p5 t4 = some (r, SZ) → ∀ (H : Heap) (locs : List Loc) (ls : Array Slot), va_P D vwCl (mw cyI cyJ cyZ bd S) H → va_S (MA bd) s.heap H locs → lv_has ls 8 [(0, .ref (bd 0)), (1, .int p1), (2, .int p2), (3, .int p3), (4, .int p4), (5, .int p5)] → W p l e rl_X7_rule s m args below meth c H locs 0 0 (MQ below (PoI D (mw cyI cyJ cyZ bd SZ) (MA bd) r) args s 0 0 (MA bd)) (F0 m 72 ls [.int t4, .ref (bd 0)]) := by
      intro t4 hf H locs ls hP hS hl
      unfold m_X7_rule_J72 at hf
      obtain ⟨x5, S6, hc72, hf⟩ := zo2_k hf
      refine cal_i (rnV (As := [.int t4]) (rest := []) ⟨hx, hb, hml, hown, hts⟩ (c_X7_goes hAd  hc72) (cwV 1 hts gX7_rule_X7_goes rfl rfl rfl cdV_X7_goes ⟨Nat.le_of_ble_eq_true rfl, Nat.le_of_ble_eq_true rfl⟩) hP hK hN (mw_o (S := S)) rfl rfl hl.1 rfl (Nat.le_of_ble_eq_true rfl) dX7_rule_72 ⟨Nat.zero_le _, Nat.zero_le _⟩) hS (fun H locs hP hS => ?_)
      refine lv_if_ne (tgt := 80) hx hb dX7_rule_75 (by decide) (fun hc => ?_) (fun hc => ?_)
      · have hf := ifn hf hc
        refine lv_aload_n hx hb dX7_rule_80 rfl (lv_at hl 0 rfl) ?_
        refine va_get (D := D) (ci := 7) (v := .ref (bd 2)) (C := RX7) (T := TX7) (N := 48) hx hb hts hin7 hown hK hP 0 (mw_o (S := S6)) rfl 1 (by decide) hfl13 (fun _ h9 => h9) mw_f1 dX7_rule_81 ?_
        refine lv_iload_n hx hb dX7_rule_84 rfl (lv_at hl 1 rfl) ?_
        obtain ⟨hin, hf⟩ := zg_k hf
        refine va_iald hx hb hK hP 2 0 (mw_a1 (S := S6)) rfl (inb_k hin) dX7_rule_85 ?_
        refine lv_iconst (v := (-1)) hx hb dX7_rule_86 (by decide) ?_
        refine lv_icmp_eq (tgt := 94) hx hb dX7_rule_87 (by decide) (fun hc => ?_) (fun hc => ?_)
        · have hf := ifp hf hc
          refine lv_iconst (v := (nI 0)) hx hb dX7_rule_94 (by decide) ?_
          refine lv_istore (lv' := [(7, .int (nI 0)), (0, .ref (bd 0)), (1, .int p1), (2, .int p2), (3, .int p3), (4, .int p4), (5, .int p5)]) hx hb dX7_rule_95 hl (by decide) rfl (fun ls hl => ?_)
          refine lv_aload_n hx hb dX7_rule_97 rfl (lv_at hl 1 rfl) ?_
          refine va_get (D := D) (ci := 7) (v := .ref (bd 2)) (C := RX7) (T := TX7) (N := 48) hx hb hts hin7 hown hK hP 0 (mw_o (S := S6)) rfl 1 (by decide) hfl13 (fun _ h9 => h9) mw_f1 dX7_rule_98 ?_
          refine lv_iload_n hx hb dX7_rule_101 rfl (lv_at hl 2 rfl) ?_
          refine lv_iload_n hx hb dX7_rule_102 rfl (lv_at hl 3 rfl) ?_
          obtain ⟨hin, hf⟩ := zg_k hf
          refine va_iast hx hb hK hP (mw_D hAd) hS 2 0 (mw_a1 (S := S6)) rfl (inb_k hin) dX7_rule_103 (fun H locs hP _ hS => ?_)
          have hP : va_P D vwCl (mw cyI cyJ cyZ bd (wi S6 1 (Int32.toNatClampNeg p1) p2)) H := by rw [← mw_s1]; exact hP
          obtain ⟨S7, eS7, hf⟩ := zb_k hf
          rw [← eS7] at hP
          refine lv_aload_n hx hb dX7_rule_104 rfl (lv_at hl 1 rfl) ?_
          refine va_get (D := D) (ci := 7) (v := .ref (bd 3)) (C := RX7) (T := TX7) (N := 48) hx hb hts hin7 hown hK hP 0 (mw_o (S := S7)) rfl 2 (by decide) hfl16 (fun _ h9 => h9) mw_f2 dX7_rule_105 ?_
          refine lv_iload_n hx hb dX7_rule_108 rfl (lv_at hl 2 rfl) ?_
          refine lv_iload_n hx hb dX7_rule_109 rfl (lv_at hl 4 rfl) ?_
          obtain ⟨hin, hf⟩ := zg_k hf
          refine va_iast hx hb hK hP (mw_D hAd) hS 3 0 (mw_a2 (S := S7)) rfl (inb_k hin) dX7_rule_110 (fun H locs hP _ hS => ?_)
          have hP : va_P D vwCl (mw cyI cyJ cyZ bd (wi S7 2 (Int32.toNatClampNeg p1) p3)) H := by rw [← mw_s2]; exact hP
          obtain ⟨S8, eS8, hf⟩ := zb_k hf
          rw [← eS8] at hP
          refine lv_aload_n hx hb dX7_rule_111 rfl (lv_at hl 1 rfl) ?_
          refine va_get (D := D) (ci := 7) (v := .ref (bd 4)) (C := RX7) (T := TX7) (N := 48) hx hb hts hin7 hown hK hP 0 (mw_o (S := S8)) rfl 3 (by decide) hfl19 (fun _ h9 => h9) mw_f3 dX7_rule_112 ?_
          refine lv_iload_n hx hb dX7_rule_115 rfl (lv_at hl 2 rfl) ?_
          refine lv_iload hx hb dX7_rule_116 (lv_at hl 5 rfl) ?_
          obtain ⟨hin, hf⟩ := zg_k hf
          refine va_iast hx hb hK hP (mw_D hAd) hS 4 0 (mw_a3 (S := S8)) rfl (inb_k hin) dX7_rule_118 (fun H locs hP _ hS => ?_)
          have hP : va_P D vwCl (mw cyI cyJ cyZ bd (wi S8 3 (Int32.toNatClampNeg p1) p4)) H := by rw [← mw_s3]; exact hP
          obtain ⟨S9, eS9, hf⟩ := zb_k hf
          rw [← eS9] at hP
          refine lv_aload_n hx hb dX7_rule_119 rfl (lv_at hl 1 rfl) ?_
          refine va_get (D := D) (ci := 7) (v := .ref (bd 5)) (C := RX7) (T := TX7) (N := 48) hx hb hts hin7 hown hK hP 0 (mw_o (S := S9)) rfl 4 (by decide) hfl22 (fun _ h9 => h9) mw_f4 dX7_rule_120 ?_
          refine lv_iload_n hx hb dX7_rule_123 rfl (lv_at hl 2 rfl) ?_
          refine lv_iload hx hb dX7_rule_124 (lv_at hl 6 rfl) ?_
          obtain ⟨hin, hf⟩ := zg_k hf
          refine va_iast hx hb hK hP (mw_D hAd) hS 5 0 (mw_a4 (S := S9)) rfl (inb_k hin) dX7_rule_126 (fun H locs hP _ hS => ?_)
          have hP : va_P D vwCl (mw cyI cyJ cyZ bd (wi S9 4 (Int32.toNatClampNeg p1) p5)) H := by rw [← mw_s4]; exact hP
          obtain ⟨S10, eS10, hf⟩ := zb_k hf
          rw [← eS10] at hP
          refine lv_aload_n hx hb dX7_rule_127 rfl (lv_at hl 1 rfl) ?_
          refine va_get (D := D) (ci := 7) (v := .ref (bd 6)) (C := RX7) (T := TX7) (N := 48) hx hb hts hin7 hown hK hP 0 (mw_o (S := S10)) rfl 5 (by decide) hfl25 (fun _ h9 => h9) mw_f5 dX7_rule_128 ?_
          refine lv_iload_n hx hb dX7_rule_131 rfl (lv_at hl 2 rfl) ?_
          refine lv_iconst (v := (nI 0)) hx hb dX7_rule_132 (by decide) ?_
          obtain ⟨hin, hf⟩ := zg_k hf
          refine va_iast hx hb hK hP (mw_D hAd) hS 6 0 (mw_a5 (S := S10)) rfl (inb_k hin) dX7_rule_133 (fun H locs hP _ hS => ?_)
          have hP : va_P D vwCl (mw cyI cyJ cyZ bd (wi S10 5 (Int32.toNatClampNeg p1) (nI 0))) H := by rw [← mw_s5]; exact hP
          obtain ⟨S11, eS11, hf⟩ := zb_k hf
          rw [← eS11] at hP
          refine lv_iload hx hb dX7_rule_134 (lv_at hl 0 rfl) ?_
          cases Option.some.inj hf
          exact fin_z hx hb hr hlk hS hP rfl rfl dX7_rule_136
        · have hf := ifn hf hc
          refine lv_iconst (v := (nI 1)) hx hb dX7_rule_90 (by decide) ?_
          refine lv_goto (tgt := 95) hx hb dX7_rule_91 (by decide) ?_
          refine lv_istore (lv' := [(7, .int (nI 1)), (0, .ref (bd 0)), (1, .int p1), (2, .int p2), (3, .int p3), (4, .int p4), (5, .int p5)]) hx hb dX7_rule_95 hl (by decide) rfl (fun ls hl => ?_)
          refine lv_aload_n hx hb dX7_rule_97 rfl (lv_at hl 1 rfl) ?_
          refine va_get (D := D) (ci := 7) (v := .ref (bd 2)) (C := RX7) (T := TX7) (N := 48) hx hb hts hin7 hown hK hP 0 (mw_o (S := S6)) rfl 1 (by decide) hfl13 (fun _ h9 => h9) mw_f1 dX7_rule_98 ?_
          refine lv_iload_n hx hb dX7_rule_101 rfl (lv_at hl 2 rfl) ?_
          refine lv_iload_n hx hb dX7_rule_102 rfl (lv_at hl 3 rfl) ?_
          obtain ⟨hin, hf⟩ := zg_k hf
          refine va_iast hx hb hK hP (mw_D hAd) hS 2 0 (mw_a1 (S := S6)) rfl (inb_k hin) dX7_rule_103 (fun H locs hP _ hS => ?_)
          have hP : va_P D vwCl (mw cyI cyJ cyZ bd (wi S6 1 (Int32.toNatClampNeg p1) p2)) H := by rw [← mw_s1]; exact hP
          obtain ⟨S12, eS12, hf⟩ := zb_k hf
          rw [← eS12] at hP
          refine lv_aload_n hx hb dX7_rule_104 rfl (lv_at hl 1 rfl) ?_
          refine va_get (D := D) (ci := 7) (v := .ref (bd 3)) (C := RX7) (T := TX7) (N := 48) hx hb hts hin7 hown hK hP 0 (mw_o (S := S12)) rfl 2 (by decide) hfl16 (fun _ h9 => h9) mw_f2 dX7_rule_105 ?_
          refine lv_iload_n hx hb dX7_rule_108 rfl (lv_at hl 2 rfl) ?_
          refine lv_iload_n hx hb dX7_rule_109 rfl (lv_at hl 4 rfl) ?_
          obtain ⟨hin, hf⟩ := zg_k hf
          refine va_iast hx hb hK hP (mw_D hAd) hS 3 0 (mw_a2 (S := S12)) rfl (inb_k hin) dX7_rule_110 (fun H locs hP _ hS => ?_)
          have hP : va_P D vwCl (mw cyI cyJ cyZ bd (wi S12 2 (Int32.toNatClampNeg p1) p3)) H := by rw [← mw_s2]; exact hP
          obtain ⟨S13, eS13, hf⟩ := zb_k hf
          rw [← eS13] at hP
          refine lv_aload_n hx hb dX7_rule_111 rfl (lv_at hl 1 rfl) ?_
          refine va_get (D := D) (ci := 7) (v := .ref (bd 4)) (C := RX7) (T := TX7) (N := 48) hx hb hts hin7 hown hK hP 0 (mw_o (S := S13)) rfl 3 (by decide) hfl19 (fun _ h9 => h9) mw_f3 dX7_rule_112 ?_
          refine lv_iload_n hx hb dX7_rule_115 rfl (lv_at hl 2 rfl) ?_
          refine lv_iload hx hb dX7_rule_116 (lv_at hl 5 rfl) ?_
          obtain ⟨hin, hf⟩ := zg_k hf
          refine va_iast hx hb hK hP (mw_D hAd) hS 4 0 (mw_a3 (S := S13)) rfl (inb_k hin) dX7_rule_118 (fun H locs hP _ hS => ?_)
          have hP : va_P D vwCl (mw cyI cyJ cyZ bd (wi S13 3 (Int32.toNatClampNeg p1) p4)) H := by rw [← mw_s3]; exact hP
          obtain ⟨S14, eS14, hf⟩ := zb_k hf
          rw [← eS14] at hP
          refine lv_aload_n hx hb dX7_rule_119 rfl (lv_at hl 1 rfl) ?_
          refine va_get (D := D) (ci := 7) (v := .ref (bd 5)) (C := RX7) (T := TX7) (N := 48) hx hb hts hin7 hown hK hP 0 (mw_o (S := S14)) rfl 4 (by decide) hfl22 (fun _ h9 => h9) mw_f4 dX7_rule_120 ?_
          refine lv_iload_n hx hb dX7_rule_123 rfl (lv_at hl 2 rfl) ?_
          refine lv_iload hx hb dX7_rule_124 (lv_at hl 6 rfl) ?_
          obtain ⟨hin, hf⟩ := zg_k hf
          refine va_iast hx hb hK hP (mw_D hAd) hS 5 0 (mw_a4 (S := S14)) rfl (inb_k hin) dX7_rule_126 (fun H locs hP _ hS => ?_)
          have hP : va_P D vwCl (mw cyI cyJ cyZ bd (wi S14 4 (Int32.toNatClampNeg p1) p5)) H := by rw [← mw_s4]; exact hP
          obtain ⟨S15, eS15, hf⟩ := zb_k hf
          rw [← eS15] at hP
          refine lv_aload_n hx hb dX7_rule_127 rfl (lv_at hl 1 rfl) ?_
          refine va_get (D := D) (ci := 7) (v := .ref (bd 6)) (C := RX7) (T := TX7) (N := 48) hx hb hts hin7 hown hK hP 0 (mw_o (S := S15)) rfl 5 (by decide) hfl25 (fun _ h9 => h9) mw_f5 dX7_rule_128 ?_
          refine lv_iload_n hx hb dX7_rule_131 rfl (lv_at hl 2 rfl) ?_
          refine lv_iconst (v := (nI 0)) hx hb dX7_rule_132 (by decide) ?_
          obtain ⟨hin, hf⟩ := zg_k hf
          refine va_iast hx hb hK hP (mw_D hAd) hS 6 0 (mw_a5 (S := S15)) rfl (inb_k hin) dX7_rule_133 (fun H locs hP _ hS => ?_)
          have hP : va_P D vwCl (mw cyI cyJ cyZ bd (wi S15 5 (Int32.toNatClampNeg p1) (nI 0))) H := by rw [← mw_s5]; exact hP
          obtain ⟨S16, eS16, hf⟩ := zb_k hf
          rw [← eS16] at hP
          refine lv_iload hx hb dX7_rule_134 (lv_at hl 0 rfl) ?_
          cases Option.some.inj hf
          exact fin_z hx hb hr hlk hS hP rfl rfl dX7_rule_136
      · have hf := ifp hf hc
        refine lv_iconst (v := (nI 0)) hx hb dX7_rule_78 (by decide) ?_
        cases Option.some.inj hf
        exact fin_z hx hb hr hlk hS hP rfl rfl dX7_rule_79
    refine lv_if_ne (tgt := 62) hx hb dX7_rule_55 (by decide) (fun hc => ?_) (fun hc => ?_)
    · have hf := ifn hf hc
      refine lv_iload hx hb dX7_rule_62 (lv_at hl 0 rfl) ?_
      refine lv_if_eq (tgt := 71) hx hb dX7_rule_64 (by decide) (fun hc => ?_) (fun hc => ?_)
      · have hf := ifp hf hc
        refine lv_iconst (v := (nI 2)) hx hb dX7_rule_71 (by decide) ?_
        exact hJ72 (nI 2) hf _ _ _ hP hS (lv_sub hl [1, 2, 3, 4, 5, 6] rfl)
      · have hf := ifn hf hc
        refine lv_iconst (v := (nI 0)) hx hb dX7_rule_67 (by decide) ?_
        refine lv_goto (tgt := 72) hx hb dX7_rule_68 (by decide) ?_
        exact hJ72 (nI 0) hf _ _ _ hP hS (lv_sub hl [1, 2, 3, 4, 5, 6] rfl)
    · have hf := ifp hf hc
      refine lv_iconst (v := (nI 1)) hx hb dX7_rule_58 (by decide) ?_
      refine lv_goto (tgt := 72) hx hb dX7_rule_59 (by decide) ?_
      exact hJ72 (nI 1) hf _ _ _ hP hS (lv_sub hl [1, 2, 3, 4, 5, 6] rfl)
  have hJ47 : m_X7_rule_J47 S p1 p2 p3 p4 p5 = some (r, SZ) → ∀ (H : Heap) (locs : List Loc) (ls : Array Slot), va_P D vwCl (mw cyI cyJ cyZ bd S) H → va_S (MA bd) s.heap H locs → lv_has ls 8 [(0, .ref (bd 0)), (1, .int p1), (2, .int p2), (3, .int p3), (4, .int p4), (5, .int p5)] → W p l e rl_X7_rule s m args below meth c H locs 0 0 (MQ below (PoI D (mw cyI cyJ cyZ bd SZ) (MA bd) r) args s 0 0 (MA bd)) (F0 m 47 ls []) := by
    intro  hf H locs ls hP hS hl
    unfold m_X7_rule_J47 at hf
    refine lv_iconst (v := (nI 0)) hx hb dX7_rule_47 (by decide) ?_
    exact hJ48 (nI 0) hf _ _ _ hP hS (lv_sub hl [0, 1, 2, 3, 4, 5] rfl)
  refine lv_if_eq (tgt := 47) hx hb dX7_rule_6 (by decide) (fun hc => ?_) (fun hc => ?_)
  · have hf := ifp hf hc
    exact hJ47  hf _ _ _ hP hS (lv_sub hl [0, 1, 2, 3, 4, 5] rfl)
  · have hf := ifn hf hc
    refine lv_iload_n hx hb dX7_rule_9 rfl (lv_at hl 3 rfl) ?_
    refine lv_iconst (v := (nI 0)) hx hb dX7_rule_10 (by decide) ?_
    refine lv_sipush (v := (nI 999)) hx hb dX7_rule_11 (by decide) ?_
    obtain ⟨x17, hc14, hf⟩ := zo_k hf
    refine cal_i (rnS (As := [.int p3, .int (nI 0), .int (nI 999)]) (rest := []) ⟨hx, hb, hml, hown, hts⟩ (c_X7_isIn hAd  hc14) (va_cwS 3 hts gX7_rule_X7_isIn rfl rfl rfl cdS_X7_isIn ⟨Nat.le_of_ble_eq_true rfl, Nat.le_of_ble_eq_true rfl⟩) hP hK hN rfl hl.1 rfl (Nat.le_of_ble_eq_true rfl) dX7_rule_14 ⟨Nat.zero_le _, Nat.zero_le _⟩) hS (fun H locs hP hS => ?_)
    refine lv_if_eq (tgt := 47) hx hb dX7_rule_17 (by decide) (fun hc => ?_) (fun hc => ?_)
    · have hf := ifp hf hc
      exact hJ47  hf _ _ _ hP hS (lv_sub hl [0, 1, 2, 3, 4, 5] rfl)
    · have hf := ifn hf hc
      refine lv_iload hx hb dX7_rule_20 (lv_at hl 4 rfl) ?_
      refine lv_iconst (v := (nI 0)) hx hb dX7_rule_22 (by decide) ?_
      refine lv_sipush (v := (nI 999)) hx hb dX7_rule_23 (by decide) ?_
      obtain ⟨x18, hc26, hf⟩ := zo_k hf
      refine cal_i (rnS (As := [.int p4, .int (nI 0), .int (nI 999)]) (rest := []) ⟨hx, hb, hml, hown, hts⟩ (c_X7_isIn hAd  hc26) (va_cwS 3 hts gX7_rule_X7_isIn rfl rfl rfl cdS_X7_isIn ⟨Nat.le_of_ble_eq_true rfl, Nat.le_of_ble_eq_true rfl⟩) hP hK hN rfl hl.1 rfl (Nat.le_of_ble_eq_true rfl) dX7_rule_26 ⟨Nat.zero_le _, Nat.zero_le _⟩) hS (fun H locs hP hS => ?_)
      refine lv_if_eq (tgt := 47) hx hb dX7_rule_29 (by decide) (fun hc => ?_) (fun hc => ?_)
      · have hf := ifp hf hc
        exact hJ47  hf _ _ _ hP hS (lv_sub hl [0, 1, 2, 3, 4, 5] rfl)
      · have hf := ifn hf hc
        refine lv_iload hx hb dX7_rule_32 (lv_at hl 5 rfl) ?_
        refine lv_iconst (v := (nI 1)) hx hb dX7_rule_34 (by decide) ?_
        refine lv_bipush (v := (nI 20)) hx hb dX7_rule_35 (by decide) ?_
        obtain ⟨x19, hc37, hf⟩ := zo_k hf
        refine cal_i (rnS (As := [.int p5, .int (nI 1), .int (nI 20)]) (rest := []) ⟨hx, hb, hml, hown, hts⟩ (c_X7_isIn hAd  hc37) (va_cwS 3 hts gX7_rule_X7_isIn rfl rfl rfl cdS_X7_isIn ⟨Nat.le_of_ble_eq_true rfl, Nat.le_of_ble_eq_true rfl⟩) hP hK hN rfl hl.1 rfl (Nat.le_of_ble_eq_true rfl) dX7_rule_37 ⟨Nat.zero_le _, Nat.zero_le _⟩) hS (fun H locs hP hS => ?_)
        refine lv_if_eq (tgt := 47) hx hb dX7_rule_40 (by decide) (fun hc => ?_) (fun hc => ?_)
        · have hf := ifp hf hc
          exact hJ47  hf _ _ _ hP hS (lv_sub hl [0, 1, 2, 3, 4, 5] rfl)
        · have hf := ifn hf hc
          refine lv_iconst (v := (nI 1)) hx hb dX7_rule_43 (by decide) ?_
          refine lv_goto (tgt := 48) hx hb dX7_rule_44 (by decide) ?_
          exact hJ48 (nI 1) hf _ _ _ hP hS (lv_sub hl [0, 1, 2, 3, 4, 5] rfl)
set_option maxHeartbeats 4000000 in
set_option maxRecDepth 100000 in
theorem c_X7_thrown {l : Launch} {D : va_G} {cyI cyJ cyZ : ClassId} {bd : Nat → Nat}  (hAd : AdOK 41 bd)  {S : St}  {r : Int32} (hf : m_X7_thrown S = some r) : Met l yX7_thrown wsX7_thrown rl_X7_thrown (PreW D [(cyI, .int), (cyJ, .long), (cyZ, .boolean)] (mw cyI cyJ cyZ bd S) [.ref (bd 0)]) (PoI D (mw cyI cyJ cyZ bd S) (MA bd) r) 0 0 (MA bd) := by
  refine met_go (cc := cX7_thrown) (maxL := 1) (ret := (some .int)) (by decide) rfl (Nat.le_of_ble_eq_true rfl) ?_
  intro p e s m args below meth c ls hx hb hr hml hts hown hlk hP hK hN hl
  have hown : s.vm.findClass RX7 = some m.cls := hown
  have hS : va_S (MA bd) s.heap s.heap [] := va_S.rf
  have hl : lv_has ls 1 [(0, .ref (bd 0))] := hl
  have hin7 : ∀ w ∈ wsX70, w ∈ wsX7_thrown := by decide +kernel
  have hfl132 := hts (.fieldLink RX7 132 "MakewheelModel" "thrown" "I") (by decide +kernel)
  unfold m_X7_thrown at hf
  refine lv_aload_n hx hb dX7_thrown_0 rfl (lv_at hl 0 rfl) ?_
  refine va_get (D := D) (ci := 7) (v := .int (S.1 47 0)) (C := RX7) (T := TX7) (N := 48) hx hb hts hin7 hown hK hP 0 (mw_o (S := S)) rfl 47 (by decide) hfl132 (fun _ h9 => h9) mw_f47 dX7_thrown_1 ?_
  exact fin_i hx hb hr hlk hS hP (Option.some.inj hf) dX7_thrown_4
set_option maxHeartbeats 4000000 in
set_option maxRecDepth 100000 in
theorem c_X7_time {l : Launch} {D : va_G} {cyI cyJ cyZ : ClassId} {bd : Nat → Nat}  (hAd : AdOK 41 bd)  {S : St} {p1 : Int32} {p2 : Int32} {p3 : Int32} {r : Int32} {SZ : St} (hf : m_X7_time S p1 p2 p3 = some (r, SZ)) : Met l yX7_time wsX7_time rl_X7_time (PreW D [(cyI, .int), (cyJ, .long), (cyZ, .boolean)] (mw cyI cyJ cyZ bd S) [.ref (bd 0), .int p1, .int p2, .int p3]) (PoI D (mw cyI cyJ cyZ bd SZ) (MA bd) r) 0 0 (MA bd) := by
  refine met_go (cc := cX7_time) (maxL := 7) (ret := (some .int)) (by decide) rfl (Nat.le_of_ble_eq_true rfl) ?_
  intro p e s m args below meth c ls hx hb hr hml hts hown hlk hP hK hN hl
  have hown : s.vm.findClass RX7 = some m.cls := hown
  have hS : va_S (MA bd) s.heap s.heap [] := va_S.rf
  have hl : lv_has ls 7 [(0, .ref (bd 0)), (1, .int p1), (2, .int p2), (3, .int p3)] := hl
  have hin7 : ∀ w ∈ wsX70, w ∈ wsX7_time := by decide +kernel
  have hfl129 := hts (.fieldLink RX7 129 "MakewheelModel" "ends" "[I") (by decide +kernel)
  have hfl22 := hts (.fieldLink RX7 22 "MakewheelModel" "times" "[I") (by decide +kernel)
  unfold m_X7_time at hf
  refine lv_aload_n hx hb dX7_time_0 rfl (lv_at hl 0 rfl) ?_
  refine lv_iload_n hx hb dX7_time_1 rfl (lv_at hl 1 rfl) ?_
  refine lv_iload_n hx hb dX7_time_2 rfl (lv_at hl 2 rfl) ?_
  obtain ⟨x1, hc3, hf⟩ := zo_k hf
  refine cal_i (rnS (As := [.int p1, .int p2]) (rest := [.ref (bd 0)]) ⟨hx, hb, hml, hown, hts⟩ (c_X7_isNode hAd  hc3) (va_cwS 2 hts gX7_time_X7_isNode rfl rfl rfl cdS_X7_isNode ⟨Nat.le_of_ble_eq_true rfl, Nat.le_of_ble_eq_true rfl⟩) hP hK hN rfl hl.1 rfl (Nat.le_of_ble_eq_true rfl) dX7_time_3 ⟨Nat.zero_le _, Nat.zero_le _⟩) hS (fun H locs hP hS => ?_)
  have hJ27 : ∀ (t2 : Int32), m_X7_time_J27 S p1 p2 p3 t2 = some (r, SZ) → ∀ (H : Heap) (locs : List Loc) (ls : Array Slot), va_P D vwCl (mw cyI cyJ cyZ bd S) H → va_S (MA bd) s.heap H locs → lv_has ls 7 [(0, .ref (bd 0)), (1, .int p1), (2, .int p2), (3, .int p3)] → W p l e rl_X7_time s m args below meth c H locs 0 0 (MQ below (PoI D (mw cyI cyJ cyZ bd SZ) (MA bd) r) args s 0 0 (MA bd)) (F0 m 27 ls [.int t2, .ref (bd 0)]) := by
    intro t2 hf H locs ls hP hS hl
    unfold m_X7_time_J27 at hf
    obtain ⟨x3, S4, hc27, hf⟩ := zo2_k hf
    refine cal_i (rnV (As := [.int t2]) (rest := []) ⟨hx, hb, hml, hown, hts⟩ (c_X7_goes hAd  hc27) (cwV 1 hts gX7_time_X7_goes rfl rfl rfl cdV_X7_goes ⟨Nat.le_of_ble_eq_true rfl, Nat.le_of_ble_eq_true rfl⟩) hP hK hN (mw_o (S := S)) rfl rfl hl.1 rfl (Nat.le_of_ble_eq_true rfl) dX7_time_27 ⟨Nat.zero_le _, Nat.zero_le _⟩) hS (fun H locs hP hS => ?_)
    refine lv_if_ne (tgt := 35) hx hb dX7_time_30 (by decide) (fun hc => ?_) (fun hc => ?_)
    · have hf := ifn hf hc
      refine lv_iconst (v := (nI 2)) hx hb dX7_time_35 (by decide) ?_
      refine lv_iload_n hx hb dX7_time_36 rfl (lv_at hl 1 rfl) ?_
      refine lv_imul hx hb dX7_time_37 ?_
      refine lv_iload_n hx hb dX7_time_38 rfl (lv_at hl 2 rfl) ?_
      refine lv_iadd hx hb dX7_time_39 ?_
      refine lv_topi (fun x5 ex5 => ?_)
      have hf := zb_x hf ex5
      refine lv_istore (lv' := [(4, .int x5), (0, .ref (bd 0)), (1, .int p1), (2, .int p2), (3, .int p3)]) hx hb dX7_time_40 hl (by decide) rfl (fun ls hl => ?_)
      refine lv_aload_n hx hb dX7_time_42 rfl (lv_at hl 1 rfl) ?_
      refine lv_iload hx hb dX7_time_43 (lv_at hl 0 rfl) ?_
      obtain ⟨x6, S7, hc45, hf⟩ := zo2_k hf
      refine cal_i (rnV (As := [.int x5]) (rest := []) ⟨hx, hb, hml, hown, hts⟩ (c_X7_looksPlain hAd  hc45) (cwV 1 hts gX7_time_X7_looksPlain rfl rfl rfl cdV_X7_looksPlain ⟨Nat.le_of_ble_eq_true rfl, Nat.le_of_ble_eq_true rfl⟩) hP hK hN (mw_o (S := S4)) rfl rfl hl.1 rfl (Nat.le_of_ble_eq_true rfl) dX7_time_45 ⟨Nat.zero_le _, Nat.zero_le _⟩) hS (fun H locs hP hS => ?_)
      refine lv_if_ge (tgt := 53) hx hb dX7_time_48 (by decide) (fun hc => ?_) (fun hc => ?_)
      · have hf := ifp hf hc
        refine lv_aload_n hx hb dX7_time_53 rfl (lv_at hl 1 rfl) ?_
        obtain ⟨S8, hc54, hf⟩ := zo_k hf
        refine cal_v (rnV (As := []) (rest := []) ⟨hx, hb, hml, hown, hts⟩ (c_X7_laysNeeded hAd  hc54) (cwV 0 hts gX7_time_X7_laysNeeded rfl rfl rfl cdV_X7_laysNeeded ⟨Nat.le_of_ble_eq_true rfl, Nat.le_of_ble_eq_true rfl⟩) hP hK hN (mw_o (S := S7)) rfl rfl hl.1 rfl (Nat.le_of_ble_eq_true rfl) dX7_time_54 ⟨Nat.zero_le _, Nat.zero_le _⟩) hS (fun H locs hP hS => ?_)
        refine lv_aload_n hx hb dX7_time_57 rfl (lv_at hl 1 rfl) ?_
        refine lv_iload hx hb dX7_time_58 (lv_at hl 0 rfl) ?_
        obtain ⟨S9, hc60, hf⟩ := zo_k hf
        refine cal_v (rnV (As := [.int x5]) (rest := []) ⟨hx, hb, hml, hown, hts⟩ (c_X7_laysLongest hAd  hc60) (cwV 1 hts gX7_time_X7_laysLongest rfl rfl rfl cdV_X7_laysLongest ⟨Nat.le_of_ble_eq_true rfl, Nat.le_of_ble_eq_true rfl⟩) hP hK hN (mw_o (S := S8)) rfl rfl hl.1 rfl (Nat.le_of_ble_eq_true rfl) dX7_time_60 ⟨Nat.zero_le _, Nat.zero_le _⟩) hS (fun H locs hP hS => ?_)
        refine lv_iconst (v := (nI 0)) hx hb dX7_time_63 (by decide) ?_
        refine lv_istore (lv' := [(5, .int (nI 0)), (4, .int x5), (0, .ref (bd 0)), (1, .int p1), (2, .int p2), (3, .int p3)]) hx hb dX7_time_64 hl (by decide) rfl (fun ls hl => ?_)
        refine zl2_ind (F := (m_X7_time_B66 x5 p3)) (R := (r, SZ)) (P := fun S10 x11 => ∀ (H : Heap) (locs : List Loc) (ls : Array Slot), va_P D vwCl (mw cyI cyJ cyZ bd S10) H → va_S (MA bd) s.heap H locs → lv_has ls 7 [(4, .int x5), (0, .ref (bd 0)), (3, .int p3), (5, .int x11)] → W p l e rl_X7_time s m args below meth c H locs 0 0 (MQ below (PoI D (mw cyI cyJ cyZ bd SZ) (MA bd) r) args s 0 0 (MA bd)) (F0 m 66 ls [])) (fun rec66 ih66 S10 x11 hf H locs ls hP hS hl => ?_) FU S9 (nI 0) hf _ _ _ hP hS (lv_sub hl [1, 2, 5, 0] rfl)
        unfold m_X7_time_B66 at hf
        refine lv_iload hx hb dX7_time_66 (lv_at hl 3 rfl) ?_
        refine lv_bipush (v := (nI 32)) hx hb dX7_time_68 (by decide) ?_
        refine lv_icmp_ge (tgt := 87) hx hb dX7_time_70 (by decide) (fun hc => ?_) (fun hc => ?_)
        · have hf := ifp hf hc
          refine lv_iconst (v := (nI 0)) hx hb dX7_time_87 (by decide) ?_
          refine lv_istore (lv' := [(5, .int (nI 0)), (4, .int x5), (0, .ref (bd 0)), (3, .int p3)]) hx hb dX7_time_88 hl (by decide) rfl (fun ls hl => ?_)
          refine zl2_ind (F := (m_X7_time_B90 x5 p3)) (R := (r, SZ)) (P := fun S12 x13 => ∀ (H : Heap) (locs : List Loc) (ls : Array Slot), va_P D vwCl (mw cyI cyJ cyZ bd S12) H → va_S (MA bd) s.heap H locs → lv_has ls 7 [(4, .int x5), (0, .ref (bd 0)), (3, .int p3), (5, .int x13)] → W p l e rl_X7_time s m args below meth c H locs 0 0 (MQ below (PoI D (mw cyI cyJ cyZ bd SZ) (MA bd) r) args s 0 0 (MA bd)) (F0 m 90 ls [])) (fun rec90 ih90 S12 x13 hf H locs ls hP hS hl => ?_) FU S10 (nI 0) hf _ _ _ hP hS (lv_sub hl [1, 2, 3, 0] rfl)
          unfold m_X7_time_B90 at hf
          refine lv_aload_n hx hb dX7_time_90 rfl (lv_at hl 1 rfl) ?_
          refine va_get (D := D) (ci := 7) (v := .ref (bd 40)) (C := RX7) (T := TX7) (N := 48) hx hb hts hin7 hown hK hP 0 (mw_o (S := S12)) rfl 46 (by decide) hfl129 (fun _ h9 => h9) mw_f46 dX7_time_91 ?_
          refine lv_iload hx hb dX7_time_94 (lv_at hl 0 rfl) ?_
          obtain ⟨hin, hf⟩ := zg_k hf
          refine va_iald hx hb hK hP 40 0 (mw_a46 (S := S12)) rfl (inb_k hin) dX7_time_96 ?_
          refine lv_if_ne (tgt := 156) hx hb dX7_time_97 (by decide) (fun hc => ?_) (fun hc => ?_)
          · have hf := ifn hf hc
            refine lv_aload_n hx hb dX7_time_156 rfl (lv_at hl 1 rfl) ?_
            refine va_get (D := D) (ci := 7) (v := .ref (bd 40)) (C := RX7) (T := TX7) (N := 48) hx hb hts hin7 hown hK hP 0 (mw_o (S := S12)) rfl 46 (by decide) hfl129 (fun _ h9 => h9) mw_f46 dX7_time_157 ?_
            refine lv_iload hx hb dX7_time_160 (lv_at hl 0 rfl) ?_
            obtain ⟨hin, hf⟩ := zg_k hf
            refine va_iald hx hb hK hP 40 0 (mw_a46 (S := S12)) rfl (inb_k hin) dX7_time_162 ?_
            cases Option.some.inj hf
            exact fin_i hx hb hr hlk hS hP rfl dX7_time_163
          · have hf := ifp hf hc
            refine lv_aload_n hx hb dX7_time_100 rfl (lv_at hl 1 rfl) ?_
            refine lv_iload hx hb dX7_time_101 (lv_at hl 3 rfl) ?_
            obtain ⟨x14, hc103, hf⟩ := zo_k hf
            refine cal_i (rnV (As := [.int x13]) (rest := []) ⟨hx, hb, hml, hown, hts⟩ (c_X7_goingAt hAd  hc103) (cwV 1 hts gX7_time_X7_goingAt rfl rfl rfl cdV_X7_goingAt ⟨Nat.le_of_ble_eq_true rfl, Nat.le_of_ble_eq_true rfl⟩) hP hK hN (mw_o (S := S12)) rfl rfl hl.1 rfl (Nat.le_of_ble_eq_true rfl) dX7_time_103 ⟨Nat.zero_le _, Nat.zero_le _⟩) hS (fun H locs hP hS => ?_)
            refine lv_iload_n hx hb dX7_time_106 rfl (lv_at hl 2 rfl) ?_
            refine lv_icmp_ge (tgt := 119) hx hb dX7_time_107 (by decide) (fun hc => ?_) (fun hc => ?_)
            · have hf := ifp hf hc
              refine lv_iconst (v := (-1)) hx hb dX7_time_119 (by decide) ?_
              refine lv_istore (lv' := [(6, .int (-1)), (4, .int x5), (0, .ref (bd 0)), (3, .int p3), (5, .int x13)]) hx hb dX7_time_120 hl (by decide) rfl (fun ls hl => ?_)
              refine lv_iload hx hb dX7_time_122 (lv_at hl 0 rfl) ?_
              refine lv_iconst (v := (-1)) hx hb dX7_time_124 (by decide) ?_
              refine lv_icmp_ne (tgt := 134) hx hb dX7_time_125 (by decide) (fun hc => absurd hc (by decide)) (fun _ => ?_)
              obtain ⟨x15, ex15, hf⟩ := zb_k hf
              refine lv_iinc (v := x15) (lv' := [(5, .int x15), (6, .int (-1)), (4, .int x5), (0, .ref (bd 0)), (3, .int p3)]) hx hb dX7_time_128 hl (k := 4) rfl (by rw [ex15]; rfl) (by decide) rfl (fun ls hl => ?_)
              refine lv_goto (tgt := 153) hx hb dX7_time_131 (by decide) ?_
              refine lv_goto (tgt := 90) hx hb dX7_time_153 (by decide) ?_
              exact ih90 S12 x15 hf _ _ _ hP hS (lv_sub hl [2, 3, 4, 0] rfl)
            · have hf := ifn hf hc
              refine lv_aload_n hx hb dX7_time_110 rfl (lv_at hl 1 rfl) ?_
              refine lv_iload hx hb dX7_time_111 (lv_at hl 3 rfl) ?_
              obtain ⟨x16, hc113, hf⟩ := zo_k hf
              refine cal_i (rnV (As := [.int x13]) (rest := []) ⟨hx, hb, hml, hown, hts⟩ (c_X7_beginsNext hAd  hc113) (cwV 1 hts gX7_time_X7_beginsNext rfl rfl rfl cdV_X7_beginsNext ⟨Nat.le_of_ble_eq_true rfl, Nat.le_of_ble_eq_true rfl⟩) hP hK hN (mw_o (S := S12)) rfl rfl hl.1 rfl (Nat.le_of_ble_eq_true rfl) dX7_time_113 ⟨Nat.zero_le _, Nat.zero_le _⟩) hS (fun H locs hP hS => ?_)
              refine lv_goto (tgt := 120) hx hb dX7_time_116 (by decide) ?_
              refine lv_istore (lv' := [(6, .int x16), (4, .int x5), (0, .ref (bd 0)), (3, .int p3), (5, .int x13)]) hx hb dX7_time_120 hl (by decide) rfl (fun ls hl => ?_)
              refine lv_iload hx hb dX7_time_122 (lv_at hl 0 rfl) ?_
              refine lv_iconst (v := (-1)) hx hb dX7_time_124 (by decide) ?_
              refine lv_icmp_ne (tgt := 134) hx hb dX7_time_125 (by decide) (fun hc => ?_) (fun hc => ?_)
              · have hf := ifn hf hc
                refine lv_aload_n hx hb dX7_time_134 rfl (lv_at hl 2 rfl) ?_
                refine va_get (D := D) (ci := 7) (v := .ref (bd 40)) (C := RX7) (T := TX7) (N := 48) hx hb hts hin7 hown hK hP 0 (mw_o (S := S12)) rfl 46 (by decide) hfl129 (fun _ h9 => h9) mw_f46 dX7_time_135 ?_
                refine lv_iload hx hb dX7_time_138 (lv_at hl 0 rfl) ?_
                refine lv_iload hx hb dX7_time_140 (lv_at hl 4 rfl) ?_
                refine lv_aload_n hx hb dX7_time_142 rfl (lv_at hl 2 rfl) ?_
                refine va_get (D := D) (ci := 7) (v := .ref (bd 5)) (C := RX7) (T := TX7) (N := 48) hx hb hts hin7 hown hK hP 0 (mw_o (S := S12)) rfl 4 (by decide) hfl22 (fun _ h9 => h9) mw_f4 dX7_time_143 ?_
                refine lv_iload hx hb dX7_time_146 (lv_at hl 0 rfl) ?_
                refine lv_iconst (v := (nI 2)) hx hb dX7_time_148 (by decide) ?_
                refine lv_idiv hx hb dX7_time_149 (by decide) ?_
                obtain ⟨hin, hf⟩ := zg_k hf
                refine va_iald hx hb hK hP 5 0 (mw_a4 (S := S12)) rfl (inb_k hin) dX7_time_150 ?_
                refine lv_iadd hx hb dX7_time_151 ?_
                obtain ⟨hin, hf⟩ := zg_k hf
                refine va_iast hx hb hK hP (mw_D hAd) hS 40 0 (mw_a46 (S := S12)) rfl (inb_k hin) dX7_time_152 (fun H locs hP _ hS => ?_)
                have hP : va_P D vwCl (mw cyI cyJ cyZ bd (wi S12 46 (Int32.toNatClampNeg x16) (x13 + (ri S12 4 (x16 / (nI 2)))))) H := by rw [← mw_s46]; exact hP
                obtain ⟨S17, eS17, hf⟩ := zb_k hf
                rw [← eS17] at hP
                refine lv_goto (tgt := 90) hx hb dX7_time_153 (by decide) ?_
                exact ih90 S17 x13 hf _ _ _ hP hS (lv_sub hl [1, 2, 3, 4] rfl)
              · have hf := ifp hf hc
                obtain ⟨x18, ex18, hf⟩ := zb_k hf
                refine lv_iinc (v := x18) (lv' := [(5, .int x18), (6, .int x16), (4, .int x5), (0, .ref (bd 0)), (3, .int p3)]) hx hb dX7_time_128 hl (k := 4) rfl (by rw [ex18]; rfl) (by decide) rfl (fun ls hl => ?_)
                refine lv_goto (tgt := 153) hx hb dX7_time_131 (by decide) ?_
                refine lv_goto (tgt := 90) hx hb dX7_time_153 (by decide) ?_
                exact ih90 S12 x18 hf _ _ _ hP hS (lv_sub hl [2, 3, 4, 0] rfl)
        · have hf := ifn hf hc
          refine lv_aload_n hx hb dX7_time_73 rfl (lv_at hl 1 rfl) ?_
          refine va_get (D := D) (ci := 7) (v := .ref (bd 40)) (C := RX7) (T := TX7) (N := 48) hx hb hts hin7 hown hK hP 0 (mw_o (S := S10)) rfl 46 (by decide) hfl129 (fun _ h9 => h9) mw_f46 dX7_time_74 ?_
          refine lv_iload hx hb dX7_time_77 (lv_at hl 3 rfl) ?_
          refine lv_iconst (v := (nI 0)) hx hb dX7_time_79 (by decide) ?_
          obtain ⟨hin, hf⟩ := zg_k hf
          refine va_iast hx hb hK hP (mw_D hAd) hS 40 0 (mw_a46 (S := S10)) rfl (inb_k hin) dX7_time_80 (fun H locs hP _ hS => ?_)
          have hP : va_P D vwCl (mw cyI cyJ cyZ bd (wi S10 46 (Int32.toNatClampNeg x11) (nI 0))) H := by rw [← mw_s46]; exact hP
          obtain ⟨S19, eS19, hf⟩ := zb_k hf
          rw [← eS19] at hP
          obtain ⟨x20, ex20, hf⟩ := zb_k hf
          refine lv_iinc (v := x20) (lv' := [(5, .int x20), (4, .int x5), (0, .ref (bd 0)), (3, .int p3)]) hx hb dX7_time_81 hl (k := 3) rfl (by rw [ex20]; rfl) (by decide) rfl (fun ls hl => ?_)
          refine lv_goto (tgt := 66) hx hb dX7_time_84 (by decide) ?_
          exact ih66 S19 x20 hf _ _ _ hP hS (lv_sub hl [1, 2, 3, 0] rfl)
      · have hf := ifn hf hc
        refine lv_iconst (v := (-1)) hx hb dX7_time_51 (by decide) ?_
        cases Option.some.inj hf
        exact fin_i hx hb hr hlk hS hP rfl dX7_time_52
    · have hf := ifp hf hc
      refine lv_iconst (v := (nI 0)) hx hb dX7_time_33 (by decide) ?_
      cases Option.some.inj hf
      exact fin_i hx hb hr hlk hS hP rfl dX7_time_34
  refine lv_if_ne (tgt := 13) hx hb dX7_time_6 (by decide) (fun hc => ?_) (fun hc => ?_)
  · have hf := ifn hf hc
    refine lv_iload_n hx hb dX7_time_13 rfl (lv_at hl 3 rfl) ?_
    refine lv_iconst (v := (nI 1)) hx hb dX7_time_14 (by decide) ?_
    refine lv_iconst (v := (nI 3)) hx hb dX7_time_15 (by decide) ?_
    obtain ⟨x21, hc16, hf⟩ := zo_k hf
    refine cal_i (rnS (As := [.int p3, .int (nI 1), .int (nI 3)]) (rest := [.ref (bd 0)]) ⟨hx, hb, hml, hown, hts⟩ (c_X7_isIn hAd  hc16) (va_cwS 3 hts gX7_time_X7_isIn rfl rfl rfl cdS_X7_isIn ⟨Nat.le_of_ble_eq_true rfl, Nat.le_of_ble_eq_true rfl⟩) hP hK hN rfl hl.1 rfl (Nat.le_of_ble_eq_true rfl) dX7_time_16 ⟨Nat.zero_le _, Nat.zero_le _⟩) hS (fun H locs hP hS => ?_)
    refine lv_if_eq (tgt := 26) hx hb dX7_time_19 (by decide) (fun hc => ?_) (fun hc => ?_)
    · have hf := ifp hf hc
      refine lv_iconst (v := (nI 2)) hx hb dX7_time_26 (by decide) ?_
      exact hJ27 (nI 2) hf _ _ _ hP hS (lv_sub hl [0, 1, 2, 3] rfl)
    · have hf := ifn hf hc
      refine lv_iconst (v := (nI 0)) hx hb dX7_time_22 (by decide) ?_
      refine lv_goto (tgt := 27) hx hb dX7_time_23 (by decide) ?_
      exact hJ27 (nI 0) hf _ _ _ hP hS (lv_sub hl [0, 1, 2, 3] rfl)
  · have hf := ifp hf hc
    refine lv_iconst (v := (nI 1)) hx hb dX7_time_9 (by decide) ?_
    refine lv_goto (tgt := 27) hx hb dX7_time_10 (by decide) ?_
    exact hJ27 (nI 1) hf _ _ _ hP hS (lv_sub hl [0, 1, 2, 3] rfl)
set_option maxHeartbeats 4000000 in
set_option maxRecDepth 100000 in
theorem c_X7_users {l : Launch} {D : va_G} {cyI cyJ cyZ : ClassId} {bd : Nat → Nat}  (hAd : AdOK 41 bd)  {S : St} {p1 : Int32} {r : Int32} {SZ : St} (hf : m_X7_users S p1 = some (r, SZ)) : Met l yX7_users wsX7_users rl_X7_users (PreW D [(cyI, .int), (cyJ, .long), (cyZ, .boolean)] (mw cyI cyJ cyZ bd S) [.ref (bd 0), .int p1]) (PoI D (mw cyI cyJ cyZ bd SZ) (MA bd) r) 0 0 (MA bd) := by
  refine met_go (cc := cX7_users) (maxL := 5) (ret := (some .int)) (by decide) rfl (Nat.le_of_ble_eq_true rfl) ?_
  intro p e s m args below meth c ls hx hb hr hml hts hown hlk hP hK hN hl
  have hown : s.vm.findClass RX7 = some m.cls := hown
  have hS : va_S (MA bd) s.heap s.heap [] := va_S.rf
  have hl : lv_has ls 5 [(0, .ref (bd 0)), (1, .int p1)] := hl
  have hin7 : ∀ w ∈ wsX70, w ∈ wsX7_users := by decide +kernel
  have hfl13 := hts (.fieldLink RX7 13 "MakewheelModel" "kinds" "[I") (by decide +kernel)
  unfold m_X7_users at hf
  refine lv_aload_n hx hb dX7_users_0 rfl (lv_at hl 0 rfl) ?_
  refine lv_iload_n hx hb dX7_users_1 rfl (lv_at hl 1 rfl) ?_
  obtain ⟨x1, hc2, hf⟩ := zo_k hf
  refine cal_i (rnS (As := [.int p1]) (rest := [.ref (bd 0)]) ⟨hx, hb, hml, hown, hts⟩ (c_X7_isTarget hAd  hc2) (va_cwS 1 hts gX7_users_X7_isTarget rfl rfl rfl cdS_X7_isTarget ⟨Nat.le_of_ble_eq_true rfl, Nat.le_of_ble_eq_true rfl⟩) hP hK hN rfl hl.1 rfl (Nat.le_of_ble_eq_true rfl) dX7_users_2 ⟨Nat.zero_le _, Nat.zero_le _⟩) hS (fun H locs hP hS => ?_)
  have hJ24 : ∀ (t2 : Int32), m_X7_users_J24 S p1 t2 = some (r, SZ) → ∀ (H : Heap) (locs : List Loc) (ls : Array Slot), va_P D vwCl (mw cyI cyJ cyZ bd S) H → va_S (MA bd) s.heap H locs → lv_has ls 5 [(0, .ref (bd 0)), (1, .int p1)] → W p l e rl_X7_users s m args below meth c H locs 0 0 (MQ below (PoI D (mw cyI cyJ cyZ bd SZ) (MA bd) r) args s 0 0 (MA bd)) (F0 m 24 ls [.int t2, .ref (bd 0)]) := by
    intro t2 hf H locs ls hP hS hl
    unfold m_X7_users_J24 at hf
    obtain ⟨x3, S4, hc24, hf⟩ := zo2_k hf
    refine cal_i (rnV (As := [.int t2]) (rest := []) ⟨hx, hb, hml, hown, hts⟩ (c_X7_goes hAd  hc24) (cwV 1 hts gX7_users_X7_goes rfl rfl rfl cdV_X7_goes ⟨Nat.le_of_ble_eq_true rfl, Nat.le_of_ble_eq_true rfl⟩) hP hK hN (mw_o (S := S)) rfl rfl hl.1 rfl (Nat.le_of_ble_eq_true rfl) dX7_users_24 ⟨Nat.zero_le _, Nat.zero_le _⟩) hS (fun H locs hP hS => ?_)
    refine lv_if_ne (tgt := 32) hx hb dX7_users_27 (by decide) (fun hc => ?_) (fun hc => ?_)
    · have hf := ifn hf hc
      refine lv_iconst (v := (nI 0)) hx hb dX7_users_32 (by decide) ?_
      refine lv_istore_n (lv' := [(2, .int (nI 0)), (0, .ref (bd 0)), (1, .int p1)]) hx hb dX7_users_33 rfl hl (by decide) rfl (fun ls hl => ?_)
      refine lv_iconst (v := (nI 0)) hx hb dX7_users_34 (by decide) ?_
      refine lv_istore_n (lv' := [(3, .int (nI 0)), (2, .int (nI 0)), (0, .ref (bd 0)), (1, .int p1)]) hx hb dX7_users_35 rfl hl (by decide) rfl (fun ls hl => ?_)
      refine zl2_ind (F := (m_X7_users_B36 S4 p1)) (R := (r, SZ)) (P := fun x5 x6 => ∀ (H : Heap) (locs : List Loc) (ls : Array Slot), va_P D vwCl (mw cyI cyJ cyZ bd S4) H → va_S (MA bd) s.heap H locs → lv_has ls 5 [(0, .ref (bd 0)), (1, .int p1), (2, .int x5), (3, .int x6)] → W p l e rl_X7_users s m args below meth c H locs 0 0 (MQ below (PoI D (mw cyI cyJ cyZ bd SZ) (MA bd) r) args s 0 0 (MA bd)) (F0 m 36 ls [])) (fun rec36 ih36 x5 x6 hf H locs ls hP hS hl => ?_) FU (nI 0) (nI 0) hf _ _ _ hP hS (lv_sub hl [2, 3, 1, 0] rfl)
      unfold m_X7_users_B36 at hf
      refine lv_iload_n hx hb dX7_users_36 rfl (lv_at hl 3 rfl) ?_
      refine lv_bipush (v := (nI 16)) hx hb dX7_users_37 (by decide) ?_
      refine lv_icmp_ge (tgt := 110) hx hb dX7_users_39 (by decide) (fun hc => ?_) (fun hc => ?_)
      · have hf := ifp hf hc
        refine lv_iload_n hx hb dX7_users_110 rfl (lv_at hl 2 rfl) ?_
        refine lv_istore_n (lv' := [(3, .int x5), (0, .ref (bd 0)), (1, .int p1), (2, .int x5)]) hx hb dX7_users_111 rfl hl (by decide) rfl (fun ls hl => ?_)
        refine lv_iconst (v := (nI 0)) hx hb dX7_users_112 (by decide) ?_
        refine lv_istore (lv' := [(4, .int (nI 0)), (3, .int x5), (0, .ref (bd 0)), (1, .int p1), (2, .int x5)]) hx hb dX7_users_113 hl (by decide) rfl (fun ls hl => ?_)
        refine zl2_ind (F := (m_X7_users_B115 S4 p1 x5)) (R := (r, SZ)) (P := fun x7 x8 => ∀ (H : Heap) (locs : List Loc) (ls : Array Slot), va_P D vwCl (mw cyI cyJ cyZ bd S4) H → va_S (MA bd) s.heap H locs → lv_has ls 5 [(0, .ref (bd 0)), (1, .int p1), (2, .int x5), (3, .int x7), (4, .int x8)] → W p l e rl_X7_users s m args below meth c H locs 0 0 (MQ below (PoI D (mw cyI cyJ cyZ bd SZ) (MA bd) r) args s 0 0 (MA bd)) (F0 m 115 ls [])) (fun rec115 ih115 x7 x8 hf H locs ls hP hS hl => ?_) FU x5 (nI 0) hf _ _ _ hP hS (lv_sub hl [2, 3, 4, 1, 0] rfl)
        unfold m_X7_users_B115 at hf
        refine lv_iload hx hb dX7_users_115 (lv_at hl 4 rfl) ?_
        refine lv_bipush (v := (nI 16)) hx hb dX7_users_117 (by decide) ?_
        refine lv_icmp_ge (tgt := 156) hx hb dX7_users_119 (by decide) (fun hc => ?_) (fun hc => ?_)
        · have hf := ifp hf hc
          refine lv_iload_n hx hb dX7_users_156 rfl (lv_at hl 3 rfl) ?_
          cases Option.some.inj hf
          exact fin_i hx hb hr hlk hS hP rfl dX7_users_157
        · have hf := ifn hf hc
          refine lv_iload_n hx hb dX7_users_122 rfl (lv_at hl 1 rfl) ?_
          refine lv_bipush (v := (nI 99)) hx hb dX7_users_123 (by decide) ?_
          refine lv_icmp_le (tgt := 156) hx hb dX7_users_125 (by decide) (fun hc => ?_) (fun hc => ?_)
          · have hf := ifp hf hc
            refine lv_iload_n hx hb dX7_users_156 rfl (lv_at hl 3 rfl) ?_
            cases Option.some.inj hf
            exact fin_i hx hb hr hlk hS hP rfl dX7_users_157
          · have hf := ifn hf hc
            refine lv_iload_n hx hb dX7_users_128 rfl (lv_at hl 3 rfl) ?_
            refine lv_aload_n hx hb dX7_users_129 rfl (lv_at hl 0 rfl) ?_
            refine lv_iload hx hb dX7_users_130 (lv_at hl 4 rfl) ?_
            obtain ⟨x9, hc132, hf⟩ := zo_k hf
            refine cal_i (rnV (As := [.int x8]) (rest := [.int x7]) ⟨hx, hb, hml, hown, hts⟩ (c_X7_needsOf hAd  hc132) (cwV 1 hts gX7_users_X7_needsOf rfl rfl rfl cdV_X7_needsOf ⟨Nat.le_of_ble_eq_true rfl, Nat.le_of_ble_eq_true rfl⟩) hP hK hN (mw_o (S := S4)) rfl rfl hl.1 rfl (Nat.le_of_ble_eq_true rfl) dX7_users_132 ⟨Nat.zero_le _, Nat.zero_le _⟩) hS (fun H locs hP hS => ?_)
            refine lv_iload_n hx hb dX7_users_135 rfl (lv_at hl 2 rfl) ?_
            refine lv_iand hx hb dX7_users_136 ?_
            refine lv_if_eq (tgt := 147) hx hb dX7_users_137 (by decide) (fun hc => ?_) (fun hc => ?_)
            · have hf := ifp hf hc
              refine lv_iconst (v := (nI 0)) hx hb dX7_users_147 (by decide) ?_
              refine lv_ior hx hb dX7_users_148 ?_
              refine lv_topi (fun x10 ex10 => ?_)
              have hf := zb_x hf ex10
              refine lv_istore_n (lv' := [(3, .int x10), (0, .ref (bd 0)), (1, .int p1), (2, .int x5), (4, .int x8)]) hx hb dX7_users_149 rfl hl (by decide) rfl (fun ls hl => ?_)
              obtain ⟨x11, ex11, hf⟩ := zb_k hf
              refine lv_iinc (v := x11) (lv' := [(4, .int x11), (3, .int x10), (0, .ref (bd 0)), (1, .int p1), (2, .int x5)]) hx hb dX7_users_150 hl (k := 4) rfl (by rw [ex11]; rfl) (by decide) rfl (fun ls hl => ?_)
              refine lv_goto (tgt := 115) hx hb dX7_users_153 (by decide) ?_
              exact ih115 x10 x11 hf _ _ _ hP hS (lv_sub hl [2, 3, 4, 1, 0] rfl)
            · have hf := ifn hf hc
              refine lv_iconst (v := (nI 1)) hx hb dX7_users_140 (by decide) ?_
              refine lv_iload hx hb dX7_users_141 (lv_at hl 4 rfl) ?_
              refine lv_ishl hx hb dX7_users_143 ?_
              refine lv_goto (tgt := 148) hx hb dX7_users_144 (by decide) ?_
              refine lv_ior hx hb dX7_users_148 ?_
              refine lv_topi (fun x12 ex12 => ?_)
              have hf := zb_x hf ex12
              refine lv_istore_n (lv' := [(3, .int x12), (0, .ref (bd 0)), (1, .int p1), (2, .int x5), (4, .int x8)]) hx hb dX7_users_149 rfl hl (by decide) rfl (fun ls hl => ?_)
              obtain ⟨x13, ex13, hf⟩ := zb_k hf
              refine lv_iinc (v := x13) (lv' := [(4, .int x13), (3, .int x12), (0, .ref (bd 0)), (1, .int p1), (2, .int x5)]) hx hb dX7_users_150 hl (k := 4) rfl (by rw [ex13]; rfl) (by decide) rfl (fun ls hl => ?_)
              refine lv_goto (tgt := 115) hx hb dX7_users_153 (by decide) ?_
              exact ih115 x12 x13 hf _ _ _ hP hS (lv_sub hl [2, 3, 4, 1, 0] rfl)
      · have hf := ifn hf hc
        refine lv_iload_n hx hb dX7_users_42 rfl (lv_at hl 1 rfl) ?_
        refine lv_bipush (v := (nI 100)) hx hb dX7_users_43 (by decide) ?_
        have hJ87 : ∀ (t14 : Int32), m_X7_users_J87 x5 x6 rec36 t14 = some (r, SZ) → ∀ (H : Heap) (locs : List Loc) (ls : Array Slot), va_P D vwCl (mw cyI cyJ cyZ bd S4) H → va_S (MA bd) s.heap H locs → lv_has ls 5 [(0, .ref (bd 0)), (1, .int p1), (2, .int x5), (3, .int x6)] → W p l e rl_X7_users s m args below meth c H locs 0 0 (MQ below (PoI D (mw cyI cyJ cyZ bd SZ) (MA bd) r) args s 0 0 (MA bd)) (F0 m 87 ls [.int t14]) := by
          intro t14 hf H locs ls hP hS hl
          unfold m_X7_users_J87 at hf
          refine lv_istore (lv' := [(4, .int t14), (0, .ref (bd 0)), (1, .int p1), (2, .int x5), (3, .int x6)]) hx hb dX7_users_87 hl (by decide) rfl (fun ls hl => ?_)
          refine lv_iload_n hx hb dX7_users_89 rfl (lv_at hl 3 rfl) ?_
          refine lv_iload hx hb dX7_users_90 (lv_at hl 0 rfl) ?_
          have hJ102 : ∀ (t15 : Int32), m_X7_users_J102 x5 x6 rec36 t15 = some (r, SZ) → ∀ (H : Heap) (locs : List Loc) (ls : Array Slot), va_P D vwCl (mw cyI cyJ cyZ bd S4) H → va_S (MA bd) s.heap H locs → lv_has ls 5 [(0, .ref (bd 0)), (1, .int p1), (3, .int x6)] → W p l e rl_X7_users s m args below meth c H locs 0 0 (MQ below (PoI D (mw cyI cyJ cyZ bd SZ) (MA bd) r) args s 0 0 (MA bd)) (F0 m 102 ls [.int t15, .int x5]) := by
            intro t15 hf H locs ls hP hS hl
            unfold m_X7_users_J102 at hf
            refine lv_ior hx hb dX7_users_102 ?_
            refine lv_topi (fun x16 ex16 => ?_)
            have hf := zb_x hf ex16
            refine lv_istore_n (lv' := [(2, .int x16), (0, .ref (bd 0)), (1, .int p1), (3, .int x6)]) hx hb dX7_users_103 rfl hl (by decide) rfl (fun ls hl => ?_)
            obtain ⟨x17, ex17, hf⟩ := zb_k hf
            refine lv_iinc (v := x17) (lv' := [(3, .int x17), (2, .int x16), (0, .ref (bd 0)), (1, .int p1)]) hx hb dX7_users_104 hl (k := 3) rfl (by rw [ex17]; rfl) (by decide) rfl (fun ls hl => ?_)
            refine lv_goto (tgt := 36) hx hb dX7_users_107 (by decide) ?_
            exact ih36 x16 x17 hf _ _ _ hP hS (lv_sub hl [2, 3, 1, 0] rfl)
          refine lv_if_eq (tgt := 101) hx hb dX7_users_92 (by decide) (fun hc => ?_) (fun hc => ?_)
          · have hf := ifp hf hc
            refine lv_iconst (v := (nI 0)) hx hb dX7_users_101 (by decide) ?_
            exact hJ102 (nI 0) hf _ _ _ hP hS (lv_sub hl [1, 2, 4] rfl)
          · have hf := ifn hf hc
            refine lv_iconst (v := (nI 1)) hx hb dX7_users_95 (by decide) ?_
            refine lv_iload_n hx hb dX7_users_96 rfl (lv_at hl 4 rfl) ?_
            refine lv_ishl hx hb dX7_users_97 ?_
            refine lv_goto (tgt := 102) hx hb dX7_users_98 (by decide) ?_
            exact hJ102 ((nI 1) <<< (x6 &&& 31)) hf _ _ _ hP hS (lv_sub hl [1, 2, 4] rfl)
        refine lv_icmp_ge (tgt := 60) hx hb dX7_users_45 (by decide) (fun hc => ?_) (fun hc => ?_)
        · have hf := ifp hf hc
          refine lv_aload_n hx hb dX7_users_60 rfl (lv_at hl 0 rfl) ?_
          refine va_get (D := D) (ci := 7) (v := .ref (bd 2)) (C := RX7) (T := TX7) (N := 48) hx hb hts hin7 hown hK hP 0 (mw_o (S := S4)) rfl 1 (by decide) hfl13 (fun _ h9 => h9) mw_f1 dX7_users_61 ?_
          refine lv_iload_n hx hb dX7_users_64 rfl (lv_at hl 3 rfl) ?_
          obtain ⟨hin, hf⟩ := zg_k hf
          refine va_iald hx hb hK hP 2 0 (mw_a1 (S := S4)) rfl (inb_k hin) dX7_users_65 ?_
          refine lv_iconst (v := (-1)) hx hb dX7_users_66 (by decide) ?_
          have hJ86 : m_X7_users_J86 x5 x6 rec36 = some (r, SZ) → ∀ (H : Heap) (locs : List Loc) (ls : Array Slot), va_P D vwCl (mw cyI cyJ cyZ bd S4) H → va_S (MA bd) s.heap H locs → lv_has ls 5 [(0, .ref (bd 0)), (1, .int p1), (2, .int x5), (3, .int x6)] → W p l e rl_X7_users s m args below meth c H locs 0 0 (MQ below (PoI D (mw cyI cyJ cyZ bd SZ) (MA bd) r) args s 0 0 (MA bd)) (F0 m 86 ls []) := by
            intro  hf H locs ls hP hS hl
            unfold m_X7_users_J86 at hf
            refine lv_iconst (v := (nI 0)) hx hb dX7_users_86 (by decide) ?_
            exact hJ87 (nI 0) hf _ _ _ hP hS (lv_sub hl [0, 1, 2, 3] rfl)
          refine lv_icmp_eq (tgt := 86) hx hb dX7_users_67 (by decide) (fun hc => ?_) (fun hc => ?_)
          · have hf := ifp hf hc
            exact hJ86  hf _ _ _ hP hS (lv_sub hl [0, 1, 2, 3] rfl)
          · have hf := ifn hf hc
            refine lv_aload_n hx hb dX7_users_70 rfl (lv_at hl 0 rfl) ?_
            refine lv_iload_n hx hb dX7_users_71 rfl (lv_at hl 3 rfl) ?_
            refine lv_iload_n hx hb dX7_users_72 rfl (lv_at hl 1 rfl) ?_
            refine lv_bipush (v := (nI 100)) hx hb dX7_users_73 (by decide) ?_
            refine lv_isub hx hb dX7_users_75 ?_
            obtain ⟨x18, hc76, hf⟩ := zo_k hf
            refine cal_i (rnV (As := [.int x6, .int (p1 - (nI 100))]) (rest := []) ⟨hx, hb, hml, hown, hts⟩ (c_X7_isSeen hAd  hc76) (cwV 2 hts gX7_users_X7_isSeen rfl rfl rfl cdV_X7_isSeen ⟨Nat.le_of_ble_eq_true rfl, Nat.le_of_ble_eq_true rfl⟩) hP hK hN (mw_o (S := S4)) rfl rfl hl.1 rfl (Nat.le_of_ble_eq_true rfl) dX7_users_76 ⟨Nat.zero_le _, Nat.zero_le _⟩) hS (fun H locs hP hS => ?_)
            refine lv_if_eq (tgt := 86) hx hb dX7_users_79 (by decide) (fun hc => ?_) (fun hc => ?_)
            · have hf := ifp hf hc
              exact hJ86  hf _ _ _ hP hS (lv_sub hl [0, 1, 2, 3] rfl)
            · have hf := ifn hf hc
              refine lv_iconst (v := (nI 1)) hx hb dX7_users_82 (by decide) ?_
              refine lv_goto (tgt := 87) hx hb dX7_users_83 (by decide) ?_
              exact hJ87 (nI 1) hf _ _ _ hP hS (lv_sub hl [0, 1, 2, 3] rfl)
        · have hf := ifn hf hc
          refine lv_aload_n hx hb dX7_users_48 rfl (lv_at hl 0 rfl) ?_
          refine lv_iload_n hx hb dX7_users_49 rfl (lv_at hl 3 rfl) ?_
          obtain ⟨x19, hc50, hf⟩ := zo_k hf
          refine cal_i (rnV (As := [.int x6]) (rest := []) ⟨hx, hb, hml, hown, hts⟩ (c_X7_needsOf hAd  hc50) (cwV 1 hts gX7_users_X7_needsOf rfl rfl rfl cdV_X7_needsOf ⟨Nat.le_of_ble_eq_true rfl, Nat.le_of_ble_eq_true rfl⟩) hP hK hN (mw_o (S := S4)) rfl rfl hl.1 rfl (Nat.le_of_ble_eq_true rfl) dX7_users_50 ⟨Nat.zero_le _, Nat.zero_le _⟩) hS (fun H locs hP hS => ?_)
          refine lv_iload_n hx hb dX7_users_53 rfl (lv_at hl 1 rfl) ?_
          obtain ⟨x20, hc54, hf⟩ := zo_k hf
          refine cal_i (rnS (As := [.int x19, .int p1]) (rest := []) ⟨hx, hb, hml, hown, hts⟩ (c_X7_has hAd  hc54) (va_cwS 2 hts gX7_users_X7_has rfl rfl rfl cdS_X7_has ⟨Nat.le_of_ble_eq_true rfl, Nat.le_of_ble_eq_true rfl⟩) hP hK hN rfl hl.1 rfl (Nat.le_of_ble_eq_true rfl) dX7_users_54 ⟨Nat.zero_le _, Nat.zero_le _⟩) hS (fun H locs hP hS => ?_)
          refine lv_goto (tgt := 87) hx hb dX7_users_57 (by decide) ?_
          exact hJ87 x20 hf _ _ _ hP hS (lv_sub hl [0, 1, 2, 3] rfl)
    · have hf := ifp hf hc
      refine lv_iconst (v := (nI 0)) hx hb dX7_users_30 (by decide) ?_
      cases Option.some.inj hf
      exact fin_i hx hb hr hlk hS hP rfl dX7_users_31
  have hJ19 : m_X7_users_J19 S p1 = some (r, SZ) → ∀ (H : Heap) (locs : List Loc) (ls : Array Slot), va_P D vwCl (mw cyI cyJ cyZ bd S) H → va_S (MA bd) s.heap H locs → lv_has ls 5 [(0, .ref (bd 0)), (1, .int p1)] → W p l e rl_X7_users s m args below meth c H locs 0 0 (MQ below (PoI D (mw cyI cyJ cyZ bd SZ) (MA bd) r) args s 0 0 (MA bd)) (F0 m 19 ls [.ref (bd 0)]) := by
    intro  hf H locs ls hP hS hl
    unfold m_X7_users_J19 at hf
    refine lv_iconst (v := (nI 0)) hx hb dX7_users_19 (by decide) ?_
    refine lv_goto (tgt := 24) hx hb dX7_users_20 (by decide) ?_
    exact hJ24 (nI 0) hf _ _ _ hP hS (lv_sub hl [0, 1] rfl)
  refine lv_if_ne (tgt := 19) hx hb dX7_users_5 (by decide) (fun hc => ?_) (fun hc => ?_)
  · have hf := ifn hf hc
    exact hJ19  hf _ _ _ hP hS (lv_sub hl [0, 1] rfl)
  · have hf := ifp hf hc
    refine lv_iload_n hx hb dX7_users_8 rfl (lv_at hl 1 rfl) ?_
    refine lv_bipush (v := (nI 100)) hx hb dX7_users_9 (by decide) ?_
    refine lv_bipush (v := (nI 119)) hx hb dX7_users_11 (by decide) ?_
    obtain ⟨x21, hc13, hf⟩ := zo_k hf
    refine cal_i (rnS (As := [.int p1, .int (nI 100), .int (nI 119)]) (rest := [.ref (bd 0)]) ⟨hx, hb, hml, hown, hts⟩ (c_X7_isIn hAd  hc13) (va_cwS 3 hts gX7_users_X7_isIn rfl rfl rfl cdS_X7_isIn ⟨Nat.le_of_ble_eq_true rfl, Nat.le_of_ble_eq_true rfl⟩) hP hK hN rfl hl.1 rfl (Nat.le_of_ble_eq_true rfl) dX7_users_13 ⟨Nat.zero_le _, Nat.zero_le _⟩) hS (fun H locs hP hS => ?_)
    refine lv_if_eq (tgt := 23) hx hb dX7_users_16 (by decide) (fun hc => ?_) (fun hc => ?_)
    · have hf := ifp hf hc
      refine lv_iconst (v := (nI 1)) hx hb dX7_users_23 (by decide) ?_
      exact hJ24 (nI 1) hf _ _ _ hP hS (lv_sub hl [0, 1] rfl)
    · have hf := ifn hf hc
      exact hJ19  hf _ _ _ hP hS (lv_sub hl [0, 1] rfl)
set_option maxHeartbeats 4000000 in
set_option maxRecDepth 100000 in
theorem c_X7_vanish {l : Launch} {D : va_G} {cyI cyJ cyZ : ClassId} {bd : Nat → Nat}  (hAd : AdOK 41 bd)  {S : St} {p1 : Int32} {r : Int32} {SZ : St} (hf : m_X7_vanish S p1 = some (r, SZ)) : Met l yX7_vanish wsX7_vanish rl_X7_vanish (PreW D [(cyI, .int), (cyJ, .long), (cyZ, .boolean)] (mw cyI cyJ cyZ bd S) [.ref (bd 0), .int p1]) (PoI D (mw cyI cyJ cyZ bd SZ) (MA bd) r) 0 0 (MA bd) := by
  refine met_go (cc := cX7_vanish) (maxL := 3) (ret := (some .int)) (by decide) rfl (Nat.le_of_ble_eq_true rfl) ?_
  intro p e s m args below meth c ls hx hb hr hml hts hown hlk hP hK hN hl
  have hown : s.vm.findClass RX7 = some m.cls := hown
  have hS : va_S (MA bd) s.heap s.heap [] := va_S.rf
  have hl : lv_has ls 3 [(0, .ref (bd 0)), (1, .int p1)] := hl
  have hin7 : ∀ w ∈ wsX70, w ∈ wsX7_vanish := by decide +kernel
  have hfl151 := hts (.fieldLink RX7 151 "MakewheelModel" "vanishing" "I") (by decide +kernel)
  unfold m_X7_vanish at hf
  refine lv_aload_n hx hb dX7_vanish_0 rfl (lv_at hl 0 rfl) ?_
  refine lv_iload_n hx hb dX7_vanish_1 rfl (lv_at hl 1 rfl) ?_
  refine lv_iconst (v := (nI 0)) hx hb dX7_vanish_2 (by decide) ?_
  refine lv_bipush (v := (nI 20)) hx hb dX7_vanish_3 (by decide) ?_
  obtain ⟨x1, hc5, hf⟩ := zo_k hf
  refine cal_i (rnS (As := [.int p1, .int (nI 0), .int (nI 20)]) (rest := [.ref (bd 0)]) ⟨hx, hb, hml, hown, hts⟩ (c_X7_isIn hAd  hc5) (va_cwS 3 hts gX7_vanish_X7_isIn rfl rfl rfl cdS_X7_isIn ⟨Nat.le_of_ble_eq_true rfl, Nat.le_of_ble_eq_true rfl⟩) hP hK hN rfl hl.1 rfl (Nat.le_of_ble_eq_true rfl) dX7_vanish_5 ⟨Nat.zero_le _, Nat.zero_le _⟩) hS (fun H locs hP hS => ?_)
  refine lv_if_eq (tgt := 15) hx hb dX7_vanish_8 (by decide) (fun hc => ?_) (fun hc => ?_)
  · have hf := ifp hf hc
    refine lv_iconst (v := (nI 1)) hx hb dX7_vanish_15 (by decide) ?_
    obtain ⟨x2, S3, hc16, hf⟩ := zo2_k hf
    refine cal_i (rnV (As := [.int (nI 1)]) (rest := []) ⟨hx, hb, hml, hown, hts⟩ (c_X7_goes hAd  hc16) (cwV 1 hts gX7_vanish_X7_goes rfl rfl rfl cdV_X7_goes ⟨Nat.le_of_ble_eq_true rfl, Nat.le_of_ble_eq_true rfl⟩) hP hK hN (mw_o (S := S)) rfl rfl hl.1 rfl (Nat.le_of_ble_eq_true rfl) dX7_vanish_16 ⟨Nat.zero_le _, Nat.zero_le _⟩) hS (fun H locs hP hS => ?_)
    refine lv_if_ne (tgt := 24) hx hb dX7_vanish_19 (by decide) (fun hc => ?_) (fun hc => ?_)
    · have hf := ifn hf hc
      refine lv_aload_n hx hb dX7_vanish_24 rfl (lv_at hl 0 rfl) ?_
      refine va_get (D := D) (ci := 7) (v := .int (S3.1 13 0)) (C := RX7) (T := TX7) (N := 48) hx hb hts hin7 hown hK hP 0 (mw_o (S := S3)) rfl 13 (by decide) hfl151 (fun _ h9 => h9) mw_f13 dX7_vanish_25 ?_
      refine lv_topi (fun x4 ex4 => ?_)
      have hf := zb_x hf ex4
      refine lv_istore_n (lv' := [(2, .int x4), (0, .ref (bd 0)), (1, .int p1)]) hx hb dX7_vanish_28 rfl hl (by decide) rfl (fun ls hl => ?_)
      refine lv_aload_n hx hb dX7_vanish_29 rfl (lv_at hl 1 rfl) ?_
      refine lv_iload_n hx hb dX7_vanish_30 rfl (lv_at hl 2 rfl) ?_
      refine va_put (D := D) (ci := 7) (v := .int p1) (ty := .int) (C := RX7) (T := TX7) (N := 48) hx hb hts hin7 tyX7 tyX7_ok nmX7 hown hK hP (mw_D hAd) hS 0 (mw_o (S := S3)) rfl 13 (by decide) hfl151 (fun _ h9 => h9) rfl (by decide +kernel) rfl rfl (Nat.le_of_ble_eq_true rfl) dX7_vanish_31 (fun H locs hP _ hS => ?_)
      have hP : va_P D vwCl (mw cyI cyJ cyZ bd (wi S3 13 0 p1)) H := by rw [← mw_s13]; exact hP
      obtain ⟨S5, eS5, hf⟩ := zb_k hf
      rw [← eS5] at hP
      refine lv_iload_n hx hb dX7_vanish_34 rfl (lv_at hl 0 rfl) ?_
      cases Option.some.inj hf
      exact fin_i hx hb hr hlk hS hP rfl dX7_vanish_35
    · have hf := ifp hf hc
      refine lv_iconst (v := (nI 0)) hx hb dX7_vanish_22 (by decide) ?_
      cases Option.some.inj hf
      exact fin_i hx hb hr hlk hS hP rfl dX7_vanish_23
  · have hf := ifn hf hc
    refine lv_iconst (v := (nI 0)) hx hb dX7_vanish_11 (by decide) ?_
    refine lv_goto (tgt := 16) hx hb dX7_vanish_12 (by decide) ?_
    obtain ⟨x6, S7, hc16, hf⟩ := zo2_k hf
    refine cal_i (rnV (As := [.int (nI 0)]) (rest := []) ⟨hx, hb, hml, hown, hts⟩ (c_X7_goes hAd  hc16) (cwV 1 hts gX7_vanish_X7_goes rfl rfl rfl cdV_X7_goes ⟨Nat.le_of_ble_eq_true rfl, Nat.le_of_ble_eq_true rfl⟩) hP hK hN (mw_o (S := S)) rfl rfl hl.1 rfl (Nat.le_of_ble_eq_true rfl) dX7_vanish_16 ⟨Nat.zero_le _, Nat.zero_le _⟩) hS (fun H locs hP hS => ?_)
    refine lv_if_ne (tgt := 24) hx hb dX7_vanish_19 (by decide) (fun hc => ?_) (fun hc => ?_)
    · have hf := ifn hf hc
      refine lv_aload_n hx hb dX7_vanish_24 rfl (lv_at hl 0 rfl) ?_
      refine va_get (D := D) (ci := 7) (v := .int (S7.1 13 0)) (C := RX7) (T := TX7) (N := 48) hx hb hts hin7 hown hK hP 0 (mw_o (S := S7)) rfl 13 (by decide) hfl151 (fun _ h9 => h9) mw_f13 dX7_vanish_25 ?_
      refine lv_topi (fun x8 ex8 => ?_)
      have hf := zb_x hf ex8
      refine lv_istore_n (lv' := [(2, .int x8), (0, .ref (bd 0)), (1, .int p1)]) hx hb dX7_vanish_28 rfl hl (by decide) rfl (fun ls hl => ?_)
      refine lv_aload_n hx hb dX7_vanish_29 rfl (lv_at hl 1 rfl) ?_
      refine lv_iload_n hx hb dX7_vanish_30 rfl (lv_at hl 2 rfl) ?_
      refine va_put (D := D) (ci := 7) (v := .int p1) (ty := .int) (C := RX7) (T := TX7) (N := 48) hx hb hts hin7 tyX7 tyX7_ok nmX7 hown hK hP (mw_D hAd) hS 0 (mw_o (S := S7)) rfl 13 (by decide) hfl151 (fun _ h9 => h9) rfl (by decide +kernel) rfl rfl (Nat.le_of_ble_eq_true rfl) dX7_vanish_31 (fun H locs hP _ hS => ?_)
      have hP : va_P D vwCl (mw cyI cyJ cyZ bd (wi S7 13 0 p1)) H := by rw [← mw_s13]; exact hP
      obtain ⟨S9, eS9, hf⟩ := zb_k hf
      rw [← eS9] at hP
      refine lv_iload_n hx hb dX7_vanish_34 rfl (lv_at hl 0 rfl) ?_
      cases Option.some.inj hf
      exact fin_i hx hb hr hlk hS hP rfl dX7_vanish_35
    · have hf := ifp hf hc
      refine lv_iconst (v := (nI 0)) hx hb dX7_vanish_22 (by decide) ?_
      cases Option.some.inj hf
      exact fin_i hx hb hr hlk hS hP rfl dX7_vanish_23
set_option maxHeartbeats 4000000 in
set_option maxRecDepth 100000 in
theorem c_X7_way {l : Launch} {D : va_G} {cyI cyJ cyZ : ClassId} {bd : Nat → Nat}  (hAd : AdOK 41 bd)  {S : St} {p1 : Int32} {p2 : Int32} {p3 : Int32} {r : Int32} {SZ : St} (hf : m_X7_way S p1 p2 p3 = some (r, SZ)) : Met l yX7_way wsX7_way rl_X7_way (PreW D [(cyI, .int), (cyJ, .long), (cyZ, .boolean)] (mw cyI cyJ cyZ bd S) [.ref (bd 0), .int p1, .int p2, .int p3]) (PoI D (mw cyI cyJ cyZ bd SZ) (MA bd) r) 0 0 (MA bd) := by
  refine met_go (cc := cX7_way) (maxL := 10) (ret := (some .int)) (by decide) rfl (Nat.le_of_ble_eq_true rfl) ?_
  intro p e s m args below meth c ls hx hb hr hml hts hown hlk hP hK hN hl
  have hown : s.vm.findClass RX7 = some m.cls := hown
  have hS : va_S (MA bd) s.heap s.heap [] := va_S.rf
  have hl : lv_has ls 10 [(0, .ref (bd 0)), (1, .int p1), (2, .int p2), (3, .int p3)] := hl
  unfold m_X7_way at hf
  refine lv_aload_n hx hb dX7_way_0 rfl (lv_at hl 0 rfl) ?_
  refine lv_iload_n hx hb dX7_way_1 rfl (lv_at hl 1 rfl) ?_
  obtain ⟨x1, hc2, hf⟩ := zo_k hf
  refine cal_i (rnS (As := [.int p1]) (rest := [.ref (bd 0)]) ⟨hx, hb, hml, hown, hts⟩ (c_X7_isTarget hAd  hc2) (va_cwS 1 hts gX7_way_X7_isTarget rfl rfl rfl cdS_X7_isTarget ⟨Nat.le_of_ble_eq_true rfl, Nat.le_of_ble_eq_true rfl⟩) hP hK hN rfl hl.1 rfl (Nat.le_of_ble_eq_true rfl) dX7_way_2 ⟨Nat.zero_le _, Nat.zero_le _⟩) hS (fun H locs hP hS => ?_)
  have hJ33 : ∀ (t2 : Int32), m_X7_way_J33 S p1 p2 p3 t2 = some (r, SZ) → ∀ (H : Heap) (locs : List Loc) (ls : Array Slot), va_P D vwCl (mw cyI cyJ cyZ bd S) H → va_S (MA bd) s.heap H locs → lv_has ls 10 [(0, .ref (bd 0)), (1, .int p1), (2, .int p2), (3, .int p3)] → W p l e rl_X7_way s m args below meth c H locs 0 0 (MQ below (PoI D (mw cyI cyJ cyZ bd SZ) (MA bd) r) args s 0 0 (MA bd)) (F0 m 33 ls [.int t2, .ref (bd 0)]) := by
    intro t2 hf H locs ls hP hS hl
    unfold m_X7_way_J33 at hf
    obtain ⟨x3, S4, hc33, hf⟩ := zo2_k hf
    refine cal_i (rnV (As := [.int t2]) (rest := []) ⟨hx, hb, hml, hown, hts⟩ (c_X7_goes hAd  hc33) (cwV 1 hts gX7_way_X7_goes rfl rfl rfl cdV_X7_goes ⟨Nat.le_of_ble_eq_true rfl, Nat.le_of_ble_eq_true rfl⟩) hP hK hN (mw_o (S := S)) rfl rfl hl.1 rfl (Nat.le_of_ble_eq_true rfl) dX7_way_33 ⟨Nat.zero_le _, Nat.zero_le _⟩) hS (fun H locs hP hS => ?_)
    refine lv_if_ne (tgt := 41) hx hb dX7_way_36 (by decide) (fun hc => ?_) (fun hc => ?_)
    · have hf := ifn hf hc
      refine lv_aload_n hx hb dX7_way_41 rfl (lv_at hl 0 rfl) ?_
      refine lv_iload_n hx hb dX7_way_42 rfl (lv_at hl 1 rfl) ?_
      refine lv_iload_n hx hb dX7_way_43 rfl (lv_at hl 2 rfl) ?_
      obtain ⟨x5, hc44, hf⟩ := zo_k hf
      refine cal_i (rnV (As := [.int p1, .int p2]) (rest := []) ⟨hx, hb, hml, hown, hts⟩ (c_X7_steps hAd  hc44) (cwV 2 hts gX7_way_X7_steps rfl rfl rfl cdV_X7_steps ⟨Nat.le_of_ble_eq_true rfl, Nat.le_of_ble_eq_true rfl⟩) hP hK hN (mw_o (S := S4)) rfl rfl hl.1 rfl (Nat.le_of_ble_eq_true rfl) dX7_way_44 ⟨Nat.zero_le _, Nat.zero_le _⟩) hS (fun H locs hP hS => ?_)
      refine lv_istore (lv' := [(4, .int x5), (0, .ref (bd 0)), (1, .int p1), (2, .int p2), (3, .int p3)]) hx hb dX7_way_47 hl (by decide) rfl (fun ls hl => ?_)
      refine lv_iload hx hb dX7_way_49 (lv_at hl 0 rfl) ?_
      refine lv_iconst (v := (-1)) hx hb dX7_way_51 (by decide) ?_
      refine lv_icmp_eq (tgt := 61) hx hb dX7_way_52 (by decide) (fun hc => ?_) (fun hc => ?_)
      · have hf := ifp hf hc
        refine lv_iconst (v := (-1)) hx hb dX7_way_61 (by decide) ?_
        cases Option.some.inj hf
        exact fin_i hx hb hr hlk hS hP rfl dX7_way_62
      · have hf := ifn hf hc
        refine lv_iload_n hx hb dX7_way_55 rfl (lv_at hl 4 rfl) ?_
        refine lv_iload hx hb dX7_way_56 (lv_at hl 0 rfl) ?_
        refine lv_icmp_le (tgt := 63) hx hb dX7_way_58 (by decide) (fun hc => ?_) (fun hc => ?_)
        · have hf := ifp hf hc
          refine lv_iload_n hx hb dX7_way_63 rfl (lv_at hl 2 rfl) ?_
          refine lv_istore (lv' := [(5, .int p1), (4, .int x5), (0, .ref (bd 0)), (1, .int p1), (2, .int p2), (3, .int p3)]) hx hb dX7_way_64 hl (by decide) rfl (fun ls hl => ?_)
          refine lv_iconst (v := (nI 0)) hx hb dX7_way_66 (by decide) ?_
          refine lv_istore (lv' := [(6, .int (nI 0)), (5, .int p1), (4, .int x5), (0, .ref (bd 0)), (1, .int p1), (2, .int p2), (3, .int p3)]) hx hb dX7_way_67 hl (by decide) rfl (fun ls hl => ?_)
          refine zl3_ind (F := (m_X7_way_B69 p3 S4 p2)) (R := (r, SZ)) (P := fun x6 x7 x8 => ∀ (H : Heap) (locs : List Loc) (ls : Array Slot), va_P D vwCl (mw cyI cyJ cyZ bd S4) H → va_S (MA bd) s.heap H locs → lv_has ls 10 [(0, .ref (bd 0)), (2, .int p2), (3, .int p3), (4, .int x6), (5, .int x7), (6, .int x8)] → W p l e rl_X7_way s m args below meth c H locs 0 0 (MQ below (PoI D (mw cyI cyJ cyZ bd SZ) (MA bd) r) args s 0 0 (MA bd)) (F0 m 69 ls [])) (fun rec69 ih69 x6 x7 x8 hf H locs ls hP hS hl => ?_) FU x5 p1 (nI 0) hf _ _ _ hP hS (lv_sub hl [3, 5, 6, 2, 1, 0] rfl)
          unfold m_X7_way_B69 at hf
          refine lv_iload hx hb dX7_way_69 (lv_at hl 5 rfl) ?_
          refine lv_iload_n hx hb dX7_way_71 rfl (lv_at hl 2 rfl) ?_
          refine lv_icmp_ge (tgt := 173) hx hb dX7_way_72 (by decide) (fun hc => ?_) (fun hc => ?_)
          · have hf := ifp hf hc
            refine lv_iload hx hb dX7_way_173 (lv_at hl 4 rfl) ?_
            cases Option.some.inj hf
            exact fin_i hx hb hr hlk hS hP rfl dX7_way_175
          · have hf := ifn hf hc
            obtain ⟨x9, ex9, hf⟩ := zb_k hf
            refine lv_iinc (v := x9) (lv' := [(4, .int x9), (0, .ref (bd 0)), (2, .int p2), (3, .int p3), (5, .int x7), (6, .int x8)]) hx hb dX7_way_75 hl (k := 3) rfl (by rw [ex9]; rfl) (by decide) rfl (fun ls hl => ?_)
            refine lv_iconst (v := (-1)) hx hb dX7_way_78 (by decide) ?_
            refine lv_istore (lv' := [(7, .int (-1)), (4, .int x9), (0, .ref (bd 0)), (2, .int p2), (3, .int p3), (5, .int x7), (6, .int x8)]) hx hb dX7_way_79 hl (by decide) rfl (fun ls hl => ?_)
            refine lv_bipush (v := (nI 15)) hx hb dX7_way_81 (by decide) ?_
            refine lv_istore (lv' := [(8, .int (nI 15)), (7, .int (-1)), (4, .int x9), (0, .ref (bd 0)), (2, .int p2), (3, .int p3), (5, .int x7), (6, .int x8)]) hx hb dX7_way_83 hl (by decide) rfl (fun ls hl => ?_)
            refine zl2_ind (F := (m_X7_way_B85 x8 rec69 x9 S4 x7 p2)) (R := (r, SZ)) (P := fun x10 x11 => ∀ (H : Heap) (locs : List Loc) (ls : Array Slot), va_P D vwCl (mw cyI cyJ cyZ bd S4) H → va_S (MA bd) s.heap H locs → lv_has ls 10 [(4, .int x9), (0, .ref (bd 0)), (2, .int p2), (3, .int p3), (5, .int x7), (6, .int x8), (7, .int x10), (8, .int x11)] → W p l e rl_X7_way s m args below meth c H locs 0 0 (MQ below (PoI D (mw cyI cyJ cyZ bd SZ) (MA bd) r) args s 0 0 (MA bd)) (F0 m 85 ls [])) (fun rec85 ih85 x10 x11 hf H locs ls hP hS hl => ?_) FU (-1) (nI 15) hf _ _ _ hP hS (lv_sub hl [2, 3, 4, 5, 6, 7, 1, 0] rfl)
            unfold m_X7_way_B85 at hf
            refine lv_iload hx hb dX7_way_85 (lv_at hl 7 rfl) ?_
            refine lv_if_lt (tgt := 163) hx hb dX7_way_87 (by decide) (fun hc => ?_) (fun hc => ?_)
            · have hf := ifp hf hc
              refine lv_iload hx hb dX7_way_163 (lv_at hl 6 rfl) ?_
              refine lv_istore (lv' := [(5, .int x10), (4, .int x9), (0, .ref (bd 0)), (2, .int p2), (3, .int p3), (6, .int x8), (7, .int x10), (8, .int x11)]) hx hb dX7_way_165 hl (by decide) rfl (fun ls hl => ?_)
              obtain ⟨x12, ex12, hf⟩ := zb_k hf
              refine lv_iinc (v := x12) (lv' := [(6, .int x12), (5, .int x10), (4, .int x9), (0, .ref (bd 0)), (2, .int p2), (3, .int p3), (7, .int x10), (8, .int x11)]) hx hb dX7_way_167 hl (k := 5) rfl (by rw [ex12]; rfl) (by decide) rfl (fun ls hl => ?_)
              refine lv_goto (tgt := 69) hx hb dX7_way_170 (by decide) ?_
              exact ih69 x9 x10 x12 hf _ _ _ hP hS (lv_sub hl [3, 4, 5, 2, 1, 0] rfl)
            · have hf := ifn hf hc
              refine lv_aload_n hx hb dX7_way_90 rfl (lv_at hl 1 rfl) ?_
              refine lv_iload hx hb dX7_way_91 (lv_at hl 4 rfl) ?_
              obtain ⟨x13, hc93, hf⟩ := zo_k hf
              refine cal_i (rnV (As := [.int x7]) (rest := []) ⟨hx, hb, hml, hown, hts⟩ (c_X7_inputsOf hAd  hc93) (cwV 1 hts gX7_way_X7_inputsOf rfl rfl rfl cdV_X7_inputsOf ⟨Nat.le_of_ble_eq_true rfl, Nat.le_of_ble_eq_true rfl⟩) hP hK hN (mw_o (S := S4)) rfl rfl hl.1 rfl (Nat.le_of_ble_eq_true rfl) dX7_way_93 ⟨Nat.zero_le _, Nat.zero_le _⟩) hS (fun H locs hP hS => ?_)
              refine lv_iload hx hb dX7_way_96 (lv_at hl 7 rfl) ?_
              obtain ⟨x14, hc98, hf⟩ := zo_k hf
              refine cal_i (rnS (As := [.int x13, .int x11]) (rest := []) ⟨hx, hb, hml, hown, hts⟩ (c_X7_has hAd  hc98) (va_cwS 2 hts gX7_way_X7_has rfl rfl rfl cdS_X7_has ⟨Nat.le_of_ble_eq_true rfl, Nat.le_of_ble_eq_true rfl⟩) hP hK hN rfl hl.1 rfl (Nat.le_of_ble_eq_true rfl) dX7_way_98 ⟨Nat.zero_le _, Nat.zero_le _⟩) hS (fun H locs hP hS => ?_)
              have hJ141 : ∀ (t15 : Int32), m_X7_way_J141 x11 rec85 x10 t15 = some (r, SZ) → ∀ (H : Heap) (locs : List Loc) (ls : Array Slot), va_P D vwCl (mw cyI cyJ cyZ bd S4) H → va_S (MA bd) s.heap H locs → lv_has ls 10 [(4, .int x9), (0, .ref (bd 0)), (2, .int p2), (3, .int p3), (5, .int x7), (6, .int x8), (7, .int x10), (8, .int x11)] → W p l e rl_X7_way s m args below meth c H locs 0 0 (MQ below (PoI D (mw cyI cyJ cyZ bd SZ) (MA bd) r) args s 0 0 (MA bd)) (F0 m 141 ls [.int t15]) := by
                intro t15 hf H locs ls hP hS hl
                unfold m_X7_way_J141 at hf
                refine lv_istore (lv' := [(9, .int t15), (4, .int x9), (0, .ref (bd 0)), (2, .int p2), (3, .int p3), (5, .int x7), (6, .int x8), (7, .int x10), (8, .int x11)]) hx hb dX7_way_141 hl (by decide) rfl (fun ls hl => ?_)
                refine lv_iload hx hb dX7_way_143 (lv_at hl 0 rfl) ?_
                have hJ155 : ∀ (t16 : Int32), m_X7_way_J155 x11 rec85 t16 = some (r, SZ) → ∀ (H : Heap) (locs : List Loc) (ls : Array Slot), va_P D vwCl (mw cyI cyJ cyZ bd S4) H → va_S (MA bd) s.heap H locs → lv_has ls 10 [(4, .int x9), (0, .ref (bd 0)), (2, .int p2), (3, .int p3), (5, .int x7), (6, .int x8), (8, .int x11)] → W p l e rl_X7_way s m args below meth c H locs 0 0 (MQ below (PoI D (mw cyI cyJ cyZ bd SZ) (MA bd) r) args s 0 0 (MA bd)) (F0 m 155 ls [.int t16]) := by
                  intro t16 hf H locs ls hP hS hl
                  unfold m_X7_way_J155 at hf
                  refine lv_istore (lv' := [(7, .int t16), (4, .int x9), (0, .ref (bd 0)), (2, .int p2), (3, .int p3), (5, .int x7), (6, .int x8), (8, .int x11)]) hx hb dX7_way_155 hl (by decide) rfl (fun ls hl => ?_)
                  obtain ⟨x17, ex17, hf⟩ := zb_k hf
                  refine lv_iinc (v := x17) (lv' := [(8, .int x17), (7, .int t16), (4, .int x9), (0, .ref (bd 0)), (2, .int p2), (3, .int p3), (5, .int x7), (6, .int x8)]) hx hb dX7_way_157 hl (k := 7) rfl (by rw [ex17]; rfl) (by decide) rfl (fun ls hl => ?_)
                  refine lv_goto (tgt := 85) hx hb dX7_way_160 (by decide) ?_
                  exact ih85 t16 x17 hf _ _ _ hP hS (lv_sub hl [2, 3, 4, 5, 6, 7, 1, 0] rfl)
                refine lv_if_eq (tgt := 153) hx hb dX7_way_145 (by decide) (fun hc => ?_) (fun hc => ?_)
                · have hf := ifp hf hc
                  refine lv_iload hx hb dX7_way_153 (lv_at hl 7 rfl) ?_
                  exact hJ155 x10 hf _ _ _ hP hS (lv_sub hl [1, 2, 3, 4, 5, 6, 8] rfl)
                · have hf := ifn hf hc
                  refine lv_iload hx hb dX7_way_148 (lv_at hl 8 rfl) ?_
                  refine lv_goto (tgt := 155) hx hb dX7_way_150 (by decide) ?_
                  exact hJ155 x11 hf _ _ _ hP hS (lv_sub hl [1, 2, 3, 4, 5, 6, 8] rfl)
              have hJ140 : m_X7_way_J140 x11 rec85 x10 = some (r, SZ) → ∀ (H : Heap) (locs : List Loc) (ls : Array Slot), va_P D vwCl (mw cyI cyJ cyZ bd S4) H → va_S (MA bd) s.heap H locs → lv_has ls 10 [(4, .int x9), (0, .ref (bd 0)), (2, .int p2), (3, .int p3), (5, .int x7), (6, .int x8), (7, .int x10), (8, .int x11)] → W p l e rl_X7_way s m args below meth c H locs 0 0 (MQ below (PoI D (mw cyI cyJ cyZ bd SZ) (MA bd) r) args s 0 0 (MA bd)) (F0 m 140 ls []) := by
                intro  hf H locs ls hP hS hl
                unfold m_X7_way_J140 at hf
                refine lv_iconst (v := (nI 0)) hx hb dX7_way_140 (by decide) ?_
                exact hJ141 (nI 0) hf _ _ _ hP hS (lv_sub hl [0, 1, 2, 3, 4, 5, 6, 7] rfl)
              refine lv_if_eq (tgt := 140) hx hb dX7_way_101 (by decide) (fun hc => ?_) (fun hc => ?_)
              · have hf := ifp hf hc
                exact hJ140  hf _ _ _ hP hS (lv_sub hl [0, 1, 2, 3, 4, 5, 6, 7] rfl)
              · have hf := ifn hf hc
                refine lv_iload hx hb dX7_way_104 (lv_at hl 0 rfl) ?_
                have hJ136 : m_X7_way_J136 x11 rec85 x10 = some (r, SZ) → ∀ (H : Heap) (locs : List Loc) (ls : Array Slot), va_P D vwCl (mw cyI cyJ cyZ bd S4) H → va_S (MA bd) s.heap H locs → lv_has ls 10 [(4, .int x9), (0, .ref (bd 0)), (2, .int p2), (3, .int p3), (5, .int x7), (6, .int x8), (7, .int x10), (8, .int x11)] → W p l e rl_X7_way s m args below meth c H locs 0 0 (MQ below (PoI D (mw cyI cyJ cyZ bd SZ) (MA bd) r) args s 0 0 (MA bd)) (F0 m 136 ls []) := by
                  intro  hf H locs ls hP hS hl
                  unfold m_X7_way_J136 at hf
                  refine lv_iconst (v := (nI 1)) hx hb dX7_way_136 (by decide) ?_
                  refine lv_goto (tgt := 141) hx hb dX7_way_137 (by decide) ?_
                  exact hJ141 (nI 1) hf _ _ _ hP hS (lv_sub hl [0, 1, 2, 3, 4, 5, 6, 7] rfl)
                refine lv_if_ne (tgt := 118) hx hb dX7_way_106 (by decide) (fun hc => ?_) (fun hc => ?_)
                · have hf := ifn hf hc
                  refine lv_iload hx hb dX7_way_118 (lv_at hl 7 rfl) ?_
                  refine lv_iload_n hx hb dX7_way_120 rfl (lv_at hl 2 rfl) ?_
                  refine lv_icmp_eq (tgt := 140) hx hb dX7_way_121 (by decide) (fun hc => ?_) (fun hc => ?_)
                  · have hf := ifp hf hc
                    exact hJ140  hf _ _ _ hP hS (lv_sub hl [0, 1, 2, 3, 4, 5, 6, 7] rfl)
                  · have hf := ifn hf hc
                    refine lv_aload_n hx hb dX7_way_124 rfl (lv_at hl 1 rfl) ?_
                    refine lv_iload hx hb dX7_way_125 (lv_at hl 7 rfl) ?_
                    refine lv_iload_n hx hb dX7_way_127 rfl (lv_at hl 2 rfl) ?_
                    obtain ⟨x18, hc128, hf⟩ := zo_k hf
                    refine cal_i (rnV (As := [.int x11, .int p2]) (rest := []) ⟨hx, hb, hml, hown, hts⟩ (c_X7_steps hAd  hc128) (cwV 2 hts gX7_way_X7_steps rfl rfl rfl cdV_X7_steps ⟨Nat.le_of_ble_eq_true rfl, Nat.le_of_ble_eq_true rfl⟩) hP hK hN (mw_o (S := S4)) rfl rfl hl.1 rfl (Nat.le_of_ble_eq_true rfl) dX7_way_128 ⟨Nat.zero_le _, Nat.zero_le _⟩) hS (fun H locs hP hS => ?_)
                    refine lv_iload hx hb dX7_way_131 (lv_at hl 0 rfl) ?_
                    refine lv_icmp_ne (tgt := 140) hx hb dX7_way_133 (by decide) (fun hc => ?_) (fun hc => ?_)
                    · have hf := ifn hf hc
                      exact hJ140  hf _ _ _ hP hS (lv_sub hl [0, 1, 2, 3, 4, 5, 6, 7] rfl)
                    · have hf := ifp hf hc
                      exact hJ136  hf _ _ _ hP hS (lv_sub hl [0, 1, 2, 3, 4, 5, 6, 7] rfl)
                · have hf := ifp hf hc
                  refine lv_iload hx hb dX7_way_109 (lv_at hl 7 rfl) ?_
                  refine lv_iload_n hx hb dX7_way_111 rfl (lv_at hl 2 rfl) ?_
                  refine lv_icmp_ne (tgt := 140) hx hb dX7_way_112 (by decide) (fun hc => ?_) (fun hc => ?_)
                  · have hf := ifn hf hc
                    exact hJ140  hf _ _ _ hP hS (lv_sub hl [0, 1, 2, 3, 4, 5, 6, 7] rfl)
                  · have hf := ifp hf hc
                    refine lv_goto (tgt := 136) hx hb dX7_way_115 (by decide) ?_
                    exact hJ136  hf _ _ _ hP hS (lv_sub hl [0, 1, 2, 3, 4, 5, 6, 7] rfl)
        · have hf := ifn hf hc
          refine lv_iconst (v := (-1)) hx hb dX7_way_61 (by decide) ?_
          cases Option.some.inj hf
          exact fin_i hx hb hr hlk hS hP rfl dX7_way_62
    · have hf := ifp hf hc
      refine lv_iconst (v := (nI 0)) hx hb dX7_way_39 (by decide) ?_
      cases Option.some.inj hf
      exact fin_i hx hb hr hlk hS hP rfl dX7_way_40
  have hJ19 : m_X7_way_J19 S p1 p2 p3 = some (r, SZ) → ∀ (H : Heap) (locs : List Loc) (ls : Array Slot), va_P D vwCl (mw cyI cyJ cyZ bd S) H → va_S (MA bd) s.heap H locs → lv_has ls 10 [(0, .ref (bd 0)), (1, .int p1), (2, .int p2), (3, .int p3)] → W p l e rl_X7_way s m args below meth c H locs 0 0 (MQ below (PoI D (mw cyI cyJ cyZ bd SZ) (MA bd) r) args s 0 0 (MA bd)) (F0 m 19 ls [.ref (bd 0)]) := by
    intro  hf H locs ls hP hS hl
    unfold m_X7_way_J19 at hf
    refine lv_iconst (v := (nI 1)) hx hb dX7_way_19 (by decide) ?_
    refine lv_goto (tgt := 33) hx hb dX7_way_20 (by decide) ?_
    exact hJ33 (nI 1) hf _ _ _ hP hS (lv_sub hl [0, 1, 2, 3] rfl)
  refine lv_if_eq (tgt := 19) hx hb dX7_way_5 (by decide) (fun hc => ?_) (fun hc => ?_)
  · have hf := ifp hf hc
    exact hJ19  hf _ _ _ hP hS (lv_sub hl [0, 1, 2, 3] rfl)
  · have hf := ifn hf hc
    refine lv_iload_n hx hb dX7_way_8 rfl (lv_at hl 2 rfl) ?_
    obtain ⟨x19, hc9, hf⟩ := zo_k hf
    refine cal_i (rnS (As := [.int p2]) (rest := [.ref (bd 0)]) ⟨hx, hb, hml, hown, hts⟩ (c_X7_isTarget hAd  hc9) (va_cwS 1 hts gX7_way_X7_isTarget rfl rfl rfl cdS_X7_isTarget ⟨Nat.le_of_ble_eq_true rfl, Nat.le_of_ble_eq_true rfl⟩) hP hK hN rfl hl.1 rfl (Nat.le_of_ble_eq_true rfl) dX7_way_9 ⟨Nat.zero_le _, Nat.zero_le _⟩) hS (fun H locs hP hS => ?_)
    refine lv_if_eq (tgt := 19) hx hb dX7_way_12 (by decide) (fun hc => ?_) (fun hc => ?_)
    · have hf := ifp hf hc
      exact hJ19  hf _ _ _ hP hS (lv_sub hl [0, 1, 2, 3] rfl)
    · have hf := ifn hf hc
      refine lv_iload_n hx hb dX7_way_15 rfl (lv_at hl 3 rfl) ?_
      refine lv_if_ge (tgt := 23) hx hb dX7_way_16 (by decide) (fun hc => ?_) (fun hc => ?_)
      · have hf := ifp hf hc
        refine lv_iload_n hx hb dX7_way_23 rfl (lv_at hl 1 rfl) ?_
        refine lv_iload_n hx hb dX7_way_24 rfl (lv_at hl 2 rfl) ?_
        refine lv_icmp_ne (tgt := 32) hx hb dX7_way_25 (by decide) (fun hc => ?_) (fun hc => ?_)
        · have hf := ifn hf hc
          refine lv_iconst (v := (nI 0)) hx hb dX7_way_32 (by decide) ?_
          exact hJ33 (nI 0) hf _ _ _ hP hS (lv_sub hl [0, 1, 2, 3] rfl)
        · have hf := ifp hf hc
          refine lv_iconst (v := (nI 2)) hx hb dX7_way_28 (by decide) ?_
          refine lv_goto (tgt := 33) hx hb dX7_way_29 (by decide) ?_
          exact hJ33 (nI 2) hf _ _ _ hP hS (lv_sub hl [0, 1, 2, 3] rfl)
      · have hf := ifn hf hc
        exact hJ19  hf _ _ _ hP hS (lv_sub hl [0, 1, 2, 3] rfl)
set_option maxHeartbeats 4000000 in
set_option maxRecDepth 100000 in
theorem c_X7_why {l : Launch} {D : va_G} {cyI cyJ cyZ : ClassId} {bd : Nat → Nat}  (hAd : AdOK 41 bd)  {S : St} {p1 : Int32} {p2 : Int32} {r : Int32} {SZ : St} (hf : m_X7_why S p1 p2 = some (r, SZ)) : Met l yX7_why wsX7_why rl_X7_why (PreW D [(cyI, .int), (cyJ, .long), (cyZ, .boolean)] (mw cyI cyJ cyZ bd S) [.ref (bd 0), .int p1, .int p2]) (PoI D (mw cyI cyJ cyZ bd SZ) (MA bd) r) 0 0 (MA bd) := by
  refine met_go (cc := cX7_why) (maxL := 3) (ret := (some .int)) (by decide) rfl (Nat.le_of_ble_eq_true rfl) ?_
  intro p e s m args below meth c ls hx hb hr hml hts hown hlk hP hK hN hl
  have hown : s.vm.findClass RX7 = some m.cls := hown
  have hS : va_S (MA bd) s.heap s.heap [] := va_S.rf
  have hl : lv_has ls 3 [(0, .ref (bd 0)), (1, .int p1), (2, .int p2)] := hl
  have hin7 : ∀ w ∈ wsX70, w ∈ wsX7_why := by decide +kernel
  have hfl93 := hts (.fieldLink RX7 93 "MakewheelModel" "whys" "[I") (by decide +kernel)
  unfold m_X7_why at hf
  refine lv_aload_n hx hb dX7_why_0 rfl (lv_at hl 0 rfl) ?_
  refine lv_iload_n hx hb dX7_why_1 rfl (lv_at hl 1 rfl) ?_
  refine lv_iload_n hx hb dX7_why_2 rfl (lv_at hl 2 rfl) ?_
  obtain ⟨x1, hc3, hf⟩ := zo_k hf
  refine cal_i (rnS (As := [.int p1, .int p2]) (rest := [.ref (bd 0)]) ⟨hx, hb, hml, hown, hts⟩ (c_X7_isNode hAd  hc3) (va_cwS 2 hts gX7_why_X7_isNode rfl rfl rfl cdS_X7_isNode ⟨Nat.le_of_ble_eq_true rfl, Nat.le_of_ble_eq_true rfl⟩) hP hK hN rfl hl.1 rfl (Nat.le_of_ble_eq_true rfl) dX7_why_3 ⟨Nat.zero_le _, Nat.zero_le _⟩) hS (fun H locs hP hS => ?_)
  refine lv_if_eq (tgt := 13) hx hb dX7_why_6 (by decide) (fun hc => ?_) (fun hc => ?_)
  · have hf := ifp hf hc
    refine lv_iconst (v := (nI 1)) hx hb dX7_why_13 (by decide) ?_
    obtain ⟨x2, S3, hc14, hf⟩ := zo2_k hf
    refine cal_i (rnV (As := [.int (nI 1)]) (rest := []) ⟨hx, hb, hml, hown, hts⟩ (c_X7_goes hAd  hc14) (cwV 1 hts gX7_why_X7_goes rfl rfl rfl cdV_X7_goes ⟨Nat.le_of_ble_eq_true rfl, Nat.le_of_ble_eq_true rfl⟩) hP hK hN (mw_o (S := S)) rfl rfl hl.1 rfl (Nat.le_of_ble_eq_true rfl) dX7_why_14 ⟨Nat.zero_le _, Nat.zero_le _⟩) hS (fun H locs hP hS => ?_)
    refine lv_if_eq (tgt := 33) hx hb dX7_why_17 (by decide) (fun hc => ?_) (fun hc => ?_)
    · have hf := ifp hf hc
      refine lv_iconst (v := (nI 0)) hx hb dX7_why_33 (by decide) ?_
      cases Option.some.inj hf
      exact fin_i hx hb hr hlk hS hP rfl dX7_why_34
    · have hf := ifn hf hc
      refine lv_aload_n hx hb dX7_why_20 rfl (lv_at hl 0 rfl) ?_
      refine va_get (D := D) (ci := 7) (v := .ref (bd 28)) (C := RX7) (T := TX7) (N := 48) hx hb hts hin7 hown hK hP 0 (mw_o (S := S3)) rfl 32 (by decide) hfl93 (fun _ h9 => h9) mw_f32 dX7_why_21 ?_
      refine lv_iconst (v := (nI 2)) hx hb dX7_why_24 (by decide) ?_
      refine lv_iload_n hx hb dX7_why_25 rfl (lv_at hl 1 rfl) ?_
      refine lv_imul hx hb dX7_why_26 ?_
      refine lv_iload_n hx hb dX7_why_27 rfl (lv_at hl 2 rfl) ?_
      refine lv_iadd hx hb dX7_why_28 ?_
      obtain ⟨hin, hf⟩ := zg_k hf
      refine va_iald hx hb hK hP 28 0 (mw_a32 (S := S3)) rfl (inb_k hin) dX7_why_29 ?_
      refine lv_goto (tgt := 34) hx hb dX7_why_30 (by decide) ?_
      cases Option.some.inj hf
      exact fin_i hx hb hr hlk hS hP rfl dX7_why_34
  · have hf := ifn hf hc
    refine lv_iconst (v := (nI 0)) hx hb dX7_why_9 (by decide) ?_
    refine lv_goto (tgt := 14) hx hb dX7_why_10 (by decide) ?_
    obtain ⟨x4, S5, hc14, hf⟩ := zo2_k hf
    refine cal_i (rnV (As := [.int (nI 0)]) (rest := []) ⟨hx, hb, hml, hown, hts⟩ (c_X7_goes hAd  hc14) (cwV 1 hts gX7_why_X7_goes rfl rfl rfl cdV_X7_goes ⟨Nat.le_of_ble_eq_true rfl, Nat.le_of_ble_eq_true rfl⟩) hP hK hN (mw_o (S := S)) rfl rfl hl.1 rfl (Nat.le_of_ble_eq_true rfl) dX7_why_14 ⟨Nat.zero_le _, Nat.zero_le _⟩) hS (fun H locs hP hS => ?_)
    refine lv_if_eq (tgt := 33) hx hb dX7_why_17 (by decide) (fun hc => ?_) (fun hc => ?_)
    · have hf := ifp hf hc
      refine lv_iconst (v := (nI 0)) hx hb dX7_why_33 (by decide) ?_
      cases Option.some.inj hf
      exact fin_i hx hb hr hlk hS hP rfl dX7_why_34
    · have hf := ifn hf hc
      refine lv_aload_n hx hb dX7_why_20 rfl (lv_at hl 0 rfl) ?_
      refine va_get (D := D) (ci := 7) (v := .ref (bd 28)) (C := RX7) (T := TX7) (N := 48) hx hb hts hin7 hown hK hP 0 (mw_o (S := S5)) rfl 32 (by decide) hfl93 (fun _ h9 => h9) mw_f32 dX7_why_21 ?_
      refine lv_iconst (v := (nI 2)) hx hb dX7_why_24 (by decide) ?_
      refine lv_iload_n hx hb dX7_why_25 rfl (lv_at hl 1 rfl) ?_
      refine lv_imul hx hb dX7_why_26 ?_
      refine lv_iload_n hx hb dX7_why_27 rfl (lv_at hl 2 rfl) ?_
      refine lv_iadd hx hb dX7_why_28 ?_
      obtain ⟨hin, hf⟩ := zg_k hf
      refine va_iald hx hb hK hP 28 0 (mw_a32 (S := S5)) rfl (inb_k hin) dX7_why_29 ?_
      refine lv_goto (tgt := 34) hx hb dX7_why_30 (by decide) ?_
      cases Option.some.inj hf
      exact fin_i hx hb hr hlk hS hP rfl dX7_why_34
set_option maxHeartbeats 4000000 in
set_option maxRecDepth 100000 in
theorem c_X7_write {l : Launch} {D : va_G} {cyI cyJ cyZ : ClassId} {bd : Nat → Nat}  (hAd : AdOK 41 bd)  {S : St} {p1 : Int32} {p2 : Int32} {r : Int32} {SZ : St} (hf : m_X7_write S p1 p2 = some (r, SZ)) : Met l yX7_write wsX7_write rl_X7_write (PreW D [(cyI, .int), (cyJ, .long), (cyZ, .boolean)] (mw cyI cyJ cyZ bd S) [.ref (bd 0), .int p1, .int p2]) (PoI D (mw cyI cyJ cyZ bd SZ) (MA bd) r) 0 0 (MA bd) := by
  refine met_go (cc := cX7_write) (maxL := 4) (ret := (some .int)) (by decide) rfl (Nat.le_of_ble_eq_true rfl) ?_
  intro p e s m args below meth c ls hx hb hr hml hts hown hlk hP hK hN hl
  have hown : s.vm.findClass RX7 = some m.cls := hown
  have hS : va_S (MA bd) s.heap s.heap [] := va_S.rf
  have hl : lv_has ls 4 [(0, .ref (bd 0)), (1, .int p1), (2, .int p2)] := hl
  have hin7 : ∀ w ∈ wsX70, w ∈ wsX7_write := by decide +kernel
  have hfl7 := hts (.fieldLink RX7 7 "MakewheelModel" "files" "[I") (by decide +kernel)
  unfold m_X7_write at hf
  refine lv_aload_n hx hb dX7_write_0 rfl (lv_at hl 0 rfl) ?_
  refine lv_iload_n hx hb dX7_write_1 rfl (lv_at hl 1 rfl) ?_
  refine lv_iconst (v := (nI 0)) hx hb dX7_write_2 (by decide) ?_
  refine lv_bipush (v := (nI 19)) hx hb dX7_write_3 (by decide) ?_
  obtain ⟨x1, hc5, hf⟩ := zo_k hf
  refine cal_i (rnS (As := [.int p1, .int (nI 0), .int (nI 19)]) (rest := [.ref (bd 0)]) ⟨hx, hb, hml, hown, hts⟩ (c_X7_isIn hAd  hc5) (va_cwS 3 hts gX7_write_X7_isIn rfl rfl rfl cdS_X7_isIn ⟨Nat.le_of_ble_eq_true rfl, Nat.le_of_ble_eq_true rfl⟩) hP hK hN rfl hl.1 rfl (Nat.le_of_ble_eq_true rfl) dX7_write_5 ⟨Nat.zero_le _, Nat.zero_le _⟩) hS (fun H locs hP hS => ?_)
  refine lv_if_ne (tgt := 15) hx hb dX7_write_8 (by decide) (fun hc => ?_) (fun hc => ?_)
  · have hf := ifn hf hc
    refine lv_iload_n hx hb dX7_write_15 rfl (lv_at hl 2 rfl) ?_
    refine lv_iconst (v := (-1)) hx hb dX7_write_16 (by decide) ?_
    refine lv_sipush (v := (nI 999)) hx hb dX7_write_17 (by decide) ?_
    obtain ⟨x2, hc20, hf⟩ := zo_k hf
    refine cal_i (rnS (As := [.int p2, .int (-1), .int (nI 999)]) (rest := [.ref (bd 0)]) ⟨hx, hb, hml, hown, hts⟩ (c_X7_isIn hAd  hc20) (va_cwS 3 hts gX7_write_X7_isIn rfl rfl rfl cdS_X7_isIn ⟨Nat.le_of_ble_eq_true rfl, Nat.le_of_ble_eq_true rfl⟩) hP hK hN rfl hl.1 rfl (Nat.le_of_ble_eq_true rfl) dX7_write_20 ⟨Nat.zero_le _, Nat.zero_le _⟩) hS (fun H locs hP hS => ?_)
    refine lv_if_eq (tgt := 30) hx hb dX7_write_23 (by decide) (fun hc => ?_) (fun hc => ?_)
    · have hf := ifp hf hc
      refine lv_iconst (v := (nI 2)) hx hb dX7_write_30 (by decide) ?_
      obtain ⟨x3, S4, hc31, hf⟩ := zo2_k hf
      refine cal_i (rnV (As := [.int (nI 2)]) (rest := []) ⟨hx, hb, hml, hown, hts⟩ (c_X7_goes hAd  hc31) (cwV 1 hts gX7_write_X7_goes rfl rfl rfl cdV_X7_goes ⟨Nat.le_of_ble_eq_true rfl, Nat.le_of_ble_eq_true rfl⟩) hP hK hN (mw_o (S := S)) rfl rfl hl.1 rfl (Nat.le_of_ble_eq_true rfl) dX7_write_31 ⟨Nat.zero_le _, Nat.zero_le _⟩) hS (fun H locs hP hS => ?_)
      refine lv_if_ne (tgt := 39) hx hb dX7_write_34 (by decide) (fun hc => ?_) (fun hc => ?_)
      · have hf := ifn hf hc
        refine lv_aload_n hx hb dX7_write_39 rfl (lv_at hl 0 rfl) ?_
        refine va_get (D := D) (ci := 7) (v := .ref (bd 1)) (C := RX7) (T := TX7) (N := 48) hx hb hts hin7 hown hK hP 0 (mw_o (S := S4)) rfl 0 (by decide) hfl7 (fun _ h9 => h9) mw_f0 dX7_write_40 ?_
        refine lv_iload_n hx hb dX7_write_43 rfl (lv_at hl 1 rfl) ?_
        obtain ⟨hin, hf⟩ := zg_k hf
        refine va_iald hx hb hK hP 1 0 (mw_a0 (S := S4)) rfl (inb_k hin) dX7_write_44 ?_
        refine lv_topi (fun x5 ex5 => ?_)
        have hf := zb_x hf ex5
        refine lv_istore_n (lv' := [(3, .int x5), (0, .ref (bd 0)), (1, .int p1), (2, .int p2)]) hx hb dX7_write_45 rfl hl (by decide) rfl (fun ls hl => ?_)
        refine lv_aload_n hx hb dX7_write_46 rfl (lv_at hl 1 rfl) ?_
        refine va_get (D := D) (ci := 7) (v := .ref (bd 1)) (C := RX7) (T := TX7) (N := 48) hx hb hts hin7 hown hK hP 0 (mw_o (S := S4)) rfl 0 (by decide) hfl7 (fun _ h9 => h9) mw_f0 dX7_write_47 ?_
        refine lv_iload_n hx hb dX7_write_50 rfl (lv_at hl 2 rfl) ?_
        refine lv_iload_n hx hb dX7_write_51 rfl (lv_at hl 3 rfl) ?_
        obtain ⟨hin, hf⟩ := zg_k hf
        refine va_iast hx hb hK hP (mw_D hAd) hS 1 0 (mw_a0 (S := S4)) rfl (inb_k hin) dX7_write_52 (fun H locs hP _ hS => ?_)
        have hP : va_P D vwCl (mw cyI cyJ cyZ bd (wi S4 0 (Int32.toNatClampNeg p1) p2)) H := by rw [← mw_s0]; exact hP
        obtain ⟨S6, eS6, hf⟩ := zb_k hf
        rw [← eS6] at hP
        refine lv_iload_n hx hb dX7_write_53 rfl (lv_at hl 0 rfl) ?_
        cases Option.some.inj hf
        exact fin_i hx hb hr hlk hS hP rfl dX7_write_54
      · have hf := ifp hf hc
        refine lv_iconst (v := (nI 0)) hx hb dX7_write_37 (by decide) ?_
        cases Option.some.inj hf
        exact fin_i hx hb hr hlk hS hP rfl dX7_write_38
    · have hf := ifn hf hc
      refine lv_iconst (v := (nI 0)) hx hb dX7_write_26 (by decide) ?_
      refine lv_goto (tgt := 31) hx hb dX7_write_27 (by decide) ?_
      obtain ⟨x7, S8, hc31, hf⟩ := zo2_k hf
      refine cal_i (rnV (As := [.int (nI 0)]) (rest := []) ⟨hx, hb, hml, hown, hts⟩ (c_X7_goes hAd  hc31) (cwV 1 hts gX7_write_X7_goes rfl rfl rfl cdV_X7_goes ⟨Nat.le_of_ble_eq_true rfl, Nat.le_of_ble_eq_true rfl⟩) hP hK hN (mw_o (S := S)) rfl rfl hl.1 rfl (Nat.le_of_ble_eq_true rfl) dX7_write_31 ⟨Nat.zero_le _, Nat.zero_le _⟩) hS (fun H locs hP hS => ?_)
      refine lv_if_ne (tgt := 39) hx hb dX7_write_34 (by decide) (fun hc => ?_) (fun hc => ?_)
      · have hf := ifn hf hc
        refine lv_aload_n hx hb dX7_write_39 rfl (lv_at hl 0 rfl) ?_
        refine va_get (D := D) (ci := 7) (v := .ref (bd 1)) (C := RX7) (T := TX7) (N := 48) hx hb hts hin7 hown hK hP 0 (mw_o (S := S8)) rfl 0 (by decide) hfl7 (fun _ h9 => h9) mw_f0 dX7_write_40 ?_
        refine lv_iload_n hx hb dX7_write_43 rfl (lv_at hl 1 rfl) ?_
        obtain ⟨hin, hf⟩ := zg_k hf
        refine va_iald hx hb hK hP 1 0 (mw_a0 (S := S8)) rfl (inb_k hin) dX7_write_44 ?_
        refine lv_topi (fun x9 ex9 => ?_)
        have hf := zb_x hf ex9
        refine lv_istore_n (lv' := [(3, .int x9), (0, .ref (bd 0)), (1, .int p1), (2, .int p2)]) hx hb dX7_write_45 rfl hl (by decide) rfl (fun ls hl => ?_)
        refine lv_aload_n hx hb dX7_write_46 rfl (lv_at hl 1 rfl) ?_
        refine va_get (D := D) (ci := 7) (v := .ref (bd 1)) (C := RX7) (T := TX7) (N := 48) hx hb hts hin7 hown hK hP 0 (mw_o (S := S8)) rfl 0 (by decide) hfl7 (fun _ h9 => h9) mw_f0 dX7_write_47 ?_
        refine lv_iload_n hx hb dX7_write_50 rfl (lv_at hl 2 rfl) ?_
        refine lv_iload_n hx hb dX7_write_51 rfl (lv_at hl 3 rfl) ?_
        obtain ⟨hin, hf⟩ := zg_k hf
        refine va_iast hx hb hK hP (mw_D hAd) hS 1 0 (mw_a0 (S := S8)) rfl (inb_k hin) dX7_write_52 (fun H locs hP _ hS => ?_)
        have hP : va_P D vwCl (mw cyI cyJ cyZ bd (wi S8 0 (Int32.toNatClampNeg p1) p2)) H := by rw [← mw_s0]; exact hP
        obtain ⟨S10, eS10, hf⟩ := zb_k hf
        rw [← eS10] at hP
        refine lv_iload_n hx hb dX7_write_53 rfl (lv_at hl 0 rfl) ?_
        cases Option.some.inj hf
        exact fin_i hx hb hr hlk hS hP rfl dX7_write_54
      · have hf := ifp hf hc
        refine lv_iconst (v := (nI 0)) hx hb dX7_write_37 (by decide) ?_
        cases Option.some.inj hf
        exact fin_i hx hb hr hlk hS hP rfl dX7_write_38
  · have hf := ifp hf hc
    refine lv_iconst (v := (nI 1)) hx hb dX7_write_11 (by decide) ?_
    refine lv_goto (tgt := 31) hx hb dX7_write_12 (by decide) ?_
    obtain ⟨x11, S12, hc31, hf⟩ := zo2_k hf
    refine cal_i (rnV (As := [.int (nI 1)]) (rest := []) ⟨hx, hb, hml, hown, hts⟩ (c_X7_goes hAd  hc31) (cwV 1 hts gX7_write_X7_goes rfl rfl rfl cdV_X7_goes ⟨Nat.le_of_ble_eq_true rfl, Nat.le_of_ble_eq_true rfl⟩) hP hK hN (mw_o (S := S)) rfl rfl hl.1 rfl (Nat.le_of_ble_eq_true rfl) dX7_write_31 ⟨Nat.zero_le _, Nat.zero_le _⟩) hS (fun H locs hP hS => ?_)
    refine lv_if_ne (tgt := 39) hx hb dX7_write_34 (by decide) (fun hc => ?_) (fun hc => ?_)
    · have hf := ifn hf hc
      refine lv_aload_n hx hb dX7_write_39 rfl (lv_at hl 0 rfl) ?_
      refine va_get (D := D) (ci := 7) (v := .ref (bd 1)) (C := RX7) (T := TX7) (N := 48) hx hb hts hin7 hown hK hP 0 (mw_o (S := S12)) rfl 0 (by decide) hfl7 (fun _ h9 => h9) mw_f0 dX7_write_40 ?_
      refine lv_iload_n hx hb dX7_write_43 rfl (lv_at hl 1 rfl) ?_
      obtain ⟨hin, hf⟩ := zg_k hf
      refine va_iald hx hb hK hP 1 0 (mw_a0 (S := S12)) rfl (inb_k hin) dX7_write_44 ?_
      refine lv_topi (fun x13 ex13 => ?_)
      have hf := zb_x hf ex13
      refine lv_istore_n (lv' := [(3, .int x13), (0, .ref (bd 0)), (1, .int p1), (2, .int p2)]) hx hb dX7_write_45 rfl hl (by decide) rfl (fun ls hl => ?_)
      refine lv_aload_n hx hb dX7_write_46 rfl (lv_at hl 1 rfl) ?_
      refine va_get (D := D) (ci := 7) (v := .ref (bd 1)) (C := RX7) (T := TX7) (N := 48) hx hb hts hin7 hown hK hP 0 (mw_o (S := S12)) rfl 0 (by decide) hfl7 (fun _ h9 => h9) mw_f0 dX7_write_47 ?_
      refine lv_iload_n hx hb dX7_write_50 rfl (lv_at hl 2 rfl) ?_
      refine lv_iload_n hx hb dX7_write_51 rfl (lv_at hl 3 rfl) ?_
      obtain ⟨hin, hf⟩ := zg_k hf
      refine va_iast hx hb hK hP (mw_D hAd) hS 1 0 (mw_a0 (S := S12)) rfl (inb_k hin) dX7_write_52 (fun H locs hP _ hS => ?_)
      have hP : va_P D vwCl (mw cyI cyJ cyZ bd (wi S12 0 (Int32.toNatClampNeg p1) p2)) H := by rw [← mw_s0]; exact hP
      obtain ⟨S14, eS14, hf⟩ := zb_k hf
      rw [← eS14] at hP
      refine lv_iload_n hx hb dX7_write_53 rfl (lv_at hl 0 rfl) ?_
      cases Option.some.inj hf
      exact fin_i hx hb hr hlk hS hP rfl dX7_write_54
    · have hf := ifp hf hc
      refine lv_iconst (v := (nI 0)) hx hb dX7_write_37 (by decide) ?_
      cases Option.some.inj hf
      exact fin_i hx hb hr hlk hS hP rfl dX7_write_38
