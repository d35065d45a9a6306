set_option maxHeartbeats 4000000 in
set_option maxRecDepth 100000 in
theorem c_X4_get {l : Launch} {D : va_G} {cyI cyJ cyZ : ClassId} {ad : Nat → Nat} {k : Nat} (hAd : AdOK 31 ad) (hk : k < 12) {S : St} {p1 : Int32} {p2 : Int32} {r : Int32} (hf : m_X4_get k S p1 p2 = some r) : Met l yX4_get wsX4_get rl_X4_get (PreW D [(cyI, .int), (cyJ, .long), (cyZ, .boolean)] (cw cyI ad S) [.ref (ad (2 * k)), .int p1, .int p2]) (PoI D (cw cyI ad S) (CA ad) r) 0 0 (CA ad) := by
  refine met_go (cc := cX4_get) (maxL := 5) (ret := (some .int)) (by decide) rfl (Nat.le_of_ble_eq_true rfl) ?_
  intro p e s m args below meth c ls hx hb hr hml hts hown hlk hP hK hN hl
  have hown : s.vm.findClass RX4 = some m.cls := hown
  have hS : va_S (CA ad) s.heap s.heap [] := va_S.rf
  have hl : lv_has ls 5 [(0, .ref (ad (2 * k))), (1, .int p1), (2, .int p2)] := hl
  have hin4 : ∀ w ∈ wsX40, w ∈ wsX4_get := by decide +kernel
  have hfl18 := hts (.fieldLink RX4 18 "Makewheel$Rows" "blank" "I") (by decide +kernel)
  have hfl9 := hts (.fieldLink RX4 9 "Makewheel$Rows" "many" "I") (by decide +kernel)
  have hfl15 := hts (.fieldLink RX4 15 "Makewheel$Rows" "width" "I") (by decide +kernel)
  have hfl21 := hts (.fieldLink RX4 21 "Makewheel$Rows" "cells" "[I") (by decide +kernel)
  unfold m_X4_get at hf
  refine lv_iload_n hx hb dX4_get_0 rfl (lv_at hl 1 rfl) ?_
  have hJ28 : m_X4_get_J28 k = some r → ∀ (H : Heap) (locs : List Loc) (ls : Array Slot), va_P D vwCl (cw cyI ad S) H → va_S (CA ad) s.heap H locs → lv_has ls 5 [(0, .ref (ad (2 * k))), (1, .int p1), (2, .int p2)] → W p l e rl_X4_get s m args below meth c H locs 0 0 (MQ below (PoI D (cw cyI ad S) (CA ad) r) args s 0 0 (CA ad)) (F0 m 28 ls []) := by
    intro  hf H locs ls hP hS hl
    unfold m_X4_get_J28 at hf
    refine lv_iconst (v := (nI 0)) hx hb dX4_get_28 (by decide) ?_
    refine lv_istore_n (lv' := [(3, .int (nI 0)), (0, .ref (ad (2 * k))), (1, .int p1), (2, .int p2)]) hx hb dX4_get_29 rfl hl (by decide) rfl (fun ls hl => ?_)
    refine lv_iload_n hx hb dX4_get_30 rfl (lv_at hl 0 rfl) ?_
    refine lv_if_eq (tgt := 45) hx hb dX4_get_31 (by decide) (fun _ => ?_) (fun hc => absurd (by decide) hc)
    refine lv_iconst (v := (-1)) hx hb dX4_get_45 (by decide) ?_
    refine lv_istore (lv' := [(4, .int (-1)), (3, .int (nI 0)), (0, .ref (ad (2 * k))), (1, .int p1), (2, .int p2)]) hx hb dX4_get_46 hl (by decide) rfl (fun ls hl => ?_)
    refine lv_iload hx hb dX4_get_48 (lv_at hl 0 rfl) ?_
    refine lv_if_lt (tgt := 73) hx hb dX4_get_50 (by decide) (fun _ => ?_) (fun hc => absurd (by decide) hc)
    refine lv_aload_n hx hb dX4_get_73 rfl (lv_at hl 2 rfl) ?_
    refine va_get (D := D) (ci := 4) (v := .int (blk k)) (C := RX4) (T := TX4) (N := 4) hx hb hts hin4 hown hK hP (2 * k) (cw_ro (S := S) (k := k) hk) rfl 2 (by decide) hfl18 (fun _ h9 => h9) rfl dX4_get_74 ?_
    exact fin_i hx hb hr hlk hS hP (Option.some.inj hf) dX4_get_77
  refine lv_if_lt (tgt := 28) hx hb dX4_get_1 (by decide) (fun hc => ?_) (fun hc => ?_)
  · have hf := ifp hf hc
    exact hJ28  hf _ _ _ hP hS (lv_sub hl [0, 1, 2] rfl)
  · have hf := ifn hf hc
    refine lv_iload_n hx hb dX4_get_4 rfl (lv_at hl 1 rfl) ?_
    refine lv_aload_n hx hb dX4_get_5 rfl (lv_at hl 0 rfl) ?_
    refine va_get (D := D) (ci := 4) (v := .int (mny k)) (C := RX4) (T := TX4) (N := 4) hx hb hts hin4 hown hK hP (2 * k) (cw_ro (S := S) (k := k) hk) rfl 0 (by decide) hfl9 (fun _ h9 => h9) rfl dX4_get_6 ?_
    refine lv_icmp_ge (tgt := 28) hx hb dX4_get_9 (by decide) (fun hc => ?_) (fun hc => ?_)
    · have hf := ifp hf hc
      exact hJ28  hf _ _ _ hP hS (lv_sub hl [0, 1, 2] rfl)
    · have hf := ifn hf hc
      refine lv_iload_n hx hb dX4_get_12 rfl (lv_at hl 2 rfl) ?_
      refine lv_if_lt (tgt := 28) hx hb dX4_get_13 (by decide) (fun hc => ?_) (fun hc => ?_)
      · have hf := ifp hf hc
        exact hJ28  hf _ _ _ hP hS (lv_sub hl [0, 1, 2] rfl)
      · have hf := ifn hf hc
        refine lv_iload_n hx hb dX4_get_16 rfl (lv_at hl 2 rfl) ?_
        refine lv_aload_n hx hb dX4_get_17 rfl (lv_at hl 0 rfl) ?_
        refine va_get (D := D) (ci := 4) (v := .int (wid k)) (C := RX4) (T := TX4) (N := 4) hx hb hts hin4 hown hK hP (2 * k) (cw_ro (S := S) (k := k) hk) rfl 1 (by decide) hfl15 (fun _ h9 => h9) rfl dX4_get_18 ?_
        refine lv_icmp_ge (tgt := 28) hx hb dX4_get_21 (by decide) (fun hc => ?_) (fun hc => ?_)
        · have hf := ifp hf hc
          exact hJ28  hf _ _ _ hP hS (lv_sub hl [0, 1, 2] rfl)
        · have hf := ifn hf hc
          refine lv_iconst (v := (nI 1)) hx hb dX4_get_24 (by decide) ?_
          refine lv_goto (tgt := 29) hx hb dX4_get_25 (by decide) ?_
          refine lv_istore_n (lv' := [(3, .int (nI 1)), (0, .ref (ad (2 * k))), (1, .int p1), (2, .int p2)]) hx hb dX4_get_29 rfl hl (by decide) rfl (fun ls hl => ?_)
          refine lv_iload_n hx hb dX4_get_30 rfl (lv_at hl 0 rfl) ?_
          refine lv_if_eq (tgt := 45) hx hb dX4_get_31 (by decide) (fun hc => absurd hc (by decide)) (fun _ => ?_)
          refine lv_iload_n hx hb dX4_get_34 rfl (lv_at hl 2 rfl) ?_
          refine lv_aload_n hx hb dX4_get_35 rfl (lv_at hl 1 rfl) ?_
          refine va_get (D := D) (ci := 4) (v := .int (wid k)) (C := RX4) (T := TX4) (N := 4) hx hb hts hin4 hown hK hP (2 * k) (cw_ro (S := S) (k := k) hk) rfl 1 (by decide) hfl15 (fun _ h9 => h9) rfl dX4_get_36 ?_
          refine lv_imul hx hb dX4_get_39 ?_
          refine lv_iload_n hx hb dX4_get_40 rfl (lv_at hl 3 rfl) ?_
          refine lv_iadd hx hb dX4_get_41 ?_
          refine lv_goto (tgt := 46) hx hb dX4_get_42 (by decide) ?_
          refine lv_topi (fun x1 ex1 => ?_)
          have hf := zb_x hf ex1
          refine lv_istore (lv' := [(4, .int x1), (3, .int (nI 1)), (0, .ref (ad (2 * k))), (1, .int p1), (2, .int p2)]) hx hb dX4_get_46 hl (by decide) rfl (fun ls hl => ?_)
          refine lv_iload hx hb dX4_get_48 (lv_at hl 0 rfl) ?_
          refine lv_if_lt (tgt := 73) hx hb dX4_get_50 (by decide) (fun hc => ?_) (fun hc => ?_)
          · have hf := ifp hf hc
            refine lv_aload_n hx hb dX4_get_73 rfl (lv_at hl 2 rfl) ?_
            refine va_get (D := D) (ci := 4) (v := .int (blk k)) (C := RX4) (T := TX4) (N := 4) hx hb hts hin4 hown hK hP (2 * k) (cw_ro (S := S) (k := k) hk) rfl 2 (by decide) hfl18 (fun _ h9 => h9) rfl dX4_get_74 ?_
            exact fin_i hx hb hr hlk hS hP (Option.some.inj hf) dX4_get_77
          · have hf := ifn hf hc
            refine lv_iload hx hb dX4_get_53 (lv_at hl 0 rfl) ?_
            refine lv_aload_n hx hb dX4_get_55 rfl (lv_at hl 2 rfl) ?_
            refine va_get (D := D) (ci := 4) (v := .ref (ad (2 * k + 1))) (C := RX4) (T := TX4) (N := 4) hx hb hts hin4 hown hK hP (2 * k) (cw_ro (S := S) (k := k) hk) rfl 3 (by decide) hfl21 (fun _ h9 => h9) rfl dX4_get_56 ?_
            refine va_alen hx hb hK hP (2 * k + 1) 0 (cw_rc (S := S) (k := k) hk) rfl rfl dX4_get_59 ?_
            refine lv_icmp_ge (tgt := 73) hx hb dX4_get_60 (by decide) (fun hc => ?_) (fun hc => ?_)
            · have hf := ifp hf hc
              refine lv_aload_n hx hb dX4_get_73 rfl (lv_at hl 2 rfl) ?_
              refine va_get (D := D) (ci := 4) (v := .int (blk k)) (C := RX4) (T := TX4) (N := 4) hx hb hts hin4 hown hK hP (2 * k) (cw_ro (S := S) (k := k) hk) rfl 2 (by decide) hfl18 (fun _ h9 => h9) rfl dX4_get_74 ?_
              exact fin_i hx hb hr hlk hS hP (Option.some.inj hf) dX4_get_77
            · have hf := ifn hf hc
              refine lv_aload_n hx hb dX4_get_63 rfl (lv_at hl 2 rfl) ?_
              refine va_get (D := D) (ci := 4) (v := .ref (ad (2 * k + 1))) (C := RX4) (T := TX4) (N := 4) hx hb hts hin4 hown hK hP (2 * k) (cw_ro (S := S) (k := k) hk) rfl 3 (by decide) hfl21 (fun _ h9 => h9) rfl dX4_get_64 ?_
              refine lv_iload hx hb dX4_get_67 (lv_at hl 0 rfl) ?_
              obtain ⟨hin, hf⟩ := zg_k hf
              refine va_iald hx hb hK hP (2 * k + 1) 0 (cw_rc (S := S) (k := k) hk) rfl (inb_k hin) dX4_get_69 ?_
              refine lv_goto (tgt := 77) hx hb dX4_get_70 (by decide) ?_
              exact fin_i hx hb hr hlk hS hP (Option.some.inj hf) dX4_get_77
set_option maxHeartbeats 4000000 in
set_option maxRecDepth 100000 in
theorem c_X4_set {l : Launch} {D : va_G} {cyI cyJ cyZ : ClassId} {ad : Nat → Nat} {k : Nat} (hAd : AdOK 31 ad) (hk : k < 12) {S : St} {p1 : Int32} {p2 : Int32} {p3 : Int32} {SZ : St} (hf : m_X4_set k S p1 p2 p3 = some SZ) : Met l yX4_set wsX4_set rl_X4_set (PreW D [(cyI, .int), (cyJ, .long), (cyZ, .boolean)] (cw cyI ad S) [.ref (ad (2 * k)), .int p1, .int p2, .int p3]) (PoV D (cw cyI ad SZ) (CA ad)) 0 0 (CA ad) := by
  refine met_go (cc := cX4_set) (maxL := 6) (ret := none) (by decide) rfl (Nat.le_of_ble_eq_true rfl) ?_
  intro p e s m args below meth c ls hx hb hr hml hts hown hlk hP hK hN hl
  have hown : s.vm.findClass RX4 = some m.cls := hown
  have hS : va_S (CA ad) s.heap s.heap [] := va_S.rf
  have hl : lv_has ls 6 [(0, .ref (ad (2 * k))), (1, .int p1), (2, .int p2), (3, .int p3)] := hl
  have hin4 : ∀ w ∈ wsX40, w ∈ wsX4_set := by decide +kernel
  have hfl9 := hts (.fieldLink RX4 9 "Makewheel$Rows" "many" "I") (by decide +kernel)
  have hfl15 := hts (.fieldLink RX4 15 "Makewheel$Rows" "width" "I") (by decide +kernel)
  have hfl21 := hts (.fieldLink RX4 21 "Makewheel$Rows" "cells" "[I") (by decide +kernel)
  unfold m_X4_set at hf
  refine lv_iload_n hx hb dX4_set_0 rfl (lv_at hl 1 rfl) ?_
  have hJ28 : m_X4_set_J28 S = some SZ → ∀ (H : Heap) (locs : List Loc) (ls : Array Slot), va_P D vwCl (cw cyI ad S) H → va_S (CA ad) s.heap H locs → lv_has ls 6 [(0, .ref (ad (2 * k))), (1, .int p1), (2, .int p2), (3, .int p3)] → W p l e rl_X4_set s m args below meth c H locs 0 0 (MQ below (PoV D (cw cyI ad SZ) (CA ad)) args s 0 0 (CA ad)) (F0 m 28 ls []) := by
    intro  hf H locs ls hP hS hl
    unfold m_X4_set_J28 at hf
    refine lv_iconst (v := (nI 0)) hx hb dX4_set_28 (by decide) ?_
    refine lv_istore (lv' := [(4, .int (nI 0)), (0, .ref (ad (2 * k))), (1, .int p1), (2, .int p2), (3, .int p3)]) hx hb dX4_set_29 hl (by decide) rfl (fun ls hl => ?_)
    refine lv_iload hx hb dX4_set_31 (lv_at hl 0 rfl) ?_
    refine lv_if_eq (tgt := 47) hx hb dX4_set_33 (by decide) (fun _ => ?_) (fun hc => absurd (by decide) hc)
    refine lv_iconst (v := (-1)) hx hb dX4_set_47 (by decide) ?_
    refine lv_istore (lv' := [(5, .int (-1)), (4, .int (nI 0)), (0, .ref (ad (2 * k))), (1, .int p1), (2, .int p2), (3, .int p3)]) hx hb dX4_set_48 hl (by decide) rfl (fun ls hl => ?_)
    refine lv_iload hx hb dX4_set_50 (lv_at hl 0 rfl) ?_
    refine lv_if_lt (tgt := 73) hx hb dX4_set_52 (by decide) (fun _ => ?_) (fun hc => absurd (by decide) hc)
    cases Option.some.inj hf
    exact fin_v hx hb hr hlk hS hP dX4_set_73
  refine lv_if_lt (tgt := 28) hx hb dX4_set_1 (by decide) (fun hc => ?_) (fun hc => ?_)
  · have hf := ifp hf hc
    exact hJ28  hf _ _ _ hP hS (lv_sub hl [0, 1, 2, 3] rfl)
  · have hf := ifn hf hc
    refine lv_iload_n hx hb dX4_set_4 rfl (lv_at hl 1 rfl) ?_
    refine lv_aload_n hx hb dX4_set_5 rfl (lv_at hl 0 rfl) ?_
    refine va_get (D := D) (ci := 4) (v := .int (mny k)) (C := RX4) (T := TX4) (N := 4) hx hb hts hin4 hown hK hP (2 * k) (cw_ro (S := S) (k := k) hk) rfl 0 (by decide) hfl9 (fun _ h9 => h9) rfl dX4_set_6 ?_
    refine lv_icmp_ge (tgt := 28) hx hb dX4_set_9 (by decide) (fun hc => ?_) (fun hc => ?_)
    · have hf := ifp hf hc
      exact hJ28  hf _ _ _ hP hS (lv_sub hl [0, 1, 2, 3] rfl)
    · have hf := ifn hf hc
      refine lv_iload_n hx hb dX4_set_12 rfl (lv_at hl 2 rfl) ?_
      refine lv_if_lt (tgt := 28) hx hb dX4_set_13 (by decide) (fun hc => ?_) (fun hc => ?_)
      · have hf := ifp hf hc
        exact hJ28  hf _ _ _ hP hS (lv_sub hl [0, 1, 2, 3] rfl)
      · have hf := ifn hf hc
        refine lv_iload_n hx hb dX4_set_16 rfl (lv_at hl 2 rfl) ?_
        refine lv_aload_n hx hb dX4_set_17 rfl (lv_at hl 0 rfl) ?_
        refine va_get (D := D) (ci := 4) (v := .int (wid k)) (C := RX4) (T := TX4) (N := 4) hx hb hts hin4 hown hK hP (2 * k) (cw_ro (S := S) (k := k) hk) rfl 1 (by decide) hfl15 (fun _ h9 => h9) rfl dX4_set_18 ?_
        refine lv_icmp_ge (tgt := 28) hx hb dX4_set_21 (by decide) (fun hc => ?_) (fun hc => ?_)
        · have hf := ifp hf hc
          exact hJ28  hf _ _ _ hP hS (lv_sub hl [0, 1, 2, 3] rfl)
        · have hf := ifn hf hc
          refine lv_iconst (v := (nI 1)) hx hb dX4_set_24 (by decide) ?_
          refine lv_goto (tgt := 29) hx hb dX4_set_25 (by decide) ?_
          refine lv_istore (lv' := [(4, .int (nI 1)), (0, .ref (ad (2 * k))), (1, .int p1), (2, .int p2), (3, .int p3)]) hx hb dX4_set_29 hl (by decide) rfl (fun ls hl => ?_)
          refine lv_iload hx hb dX4_set_31 (lv_at hl 0 rfl) ?_
          refine lv_if_eq (tgt := 47) hx hb dX4_set_33 (by decide) (fun hc => absurd hc (by decide)) (fun _ => ?_)
          refine lv_iload_n hx hb dX4_set_36 rfl (lv_at hl 2 rfl) ?_
          refine lv_aload_n hx hb dX4_set_37 rfl (lv_at hl 1 rfl) ?_
          refine va_get (D := D) (ci := 4) (v := .int (wid k)) (C := RX4) (T := TX4) (N := 4) hx hb hts hin4 hown hK hP (2 * k) (cw_ro (S := S) (k := k) hk) rfl 1 (by decide) hfl15 (fun _ h9 => h9) rfl dX4_set_38 ?_
          refine lv_imul hx hb dX4_set_41 ?_
          refine lv_iload_n hx hb dX4_set_42 rfl (lv_at hl 3 rfl) ?_
          refine lv_iadd hx hb dX4_set_43 ?_
          refine lv_goto (tgt := 48) hx hb dX4_set_44 (by decide) ?_
          refine lv_topi (fun x1 ex1 => ?_)
          have hf := zb_x hf ex1
          refine lv_istore (lv' := [(5, .int x1), (4, .int (nI 1)), (0, .ref (ad (2 * k))), (1, .int p1), (2, .int p2), (3, .int p3)]) hx hb dX4_set_48 hl (by decide) rfl (fun ls hl => ?_)
          refine lv_iload hx hb dX4_set_50 (lv_at hl 0 rfl) ?_
          refine lv_if_lt (tgt := 73) hx hb dX4_set_52 (by decide) (fun hc => ?_) (fun hc => ?_)
          · have hf := ifp hf hc
            cases Option.some.inj hf
            exact fin_v hx hb hr hlk hS hP dX4_set_73
          · have hf := ifn hf hc
            refine lv_iload hx hb dX4_set_55 (lv_at hl 0 rfl) ?_
            refine lv_aload_n hx hb dX4_set_57 rfl (lv_at hl 2 rfl) ?_
            refine va_get (D := D) (ci := 4) (v := .ref (ad (2 * k + 1))) (C := RX4) (T := TX4) (N := 4) hx hb hts hin4 hown hK hP (2 * k) (cw_ro (S := S) (k := k) hk) rfl 3 (by decide) hfl21 (fun _ h9 => h9) rfl dX4_set_58 ?_
            refine va_alen hx hb hK hP (2 * k + 1) 0 (cw_rc (S := S) (k := k) hk) rfl rfl dX4_set_61 ?_
            refine lv_icmp_ge (tgt := 73) hx hb dX4_set_62 (by decide) (fun hc => ?_) (fun hc => ?_)
            · have hf := ifp hf hc
              cases Option.some.inj hf
              exact fin_v hx hb hr hlk hS hP dX4_set_73
            · have hf := ifn hf hc
              refine lv_aload_n hx hb dX4_set_65 rfl (lv_at hl 2 rfl) ?_
              refine va_get (D := D) (ci := 4) (v := .ref (ad (2 * k + 1))) (C := RX4) (T := TX4) (N := 4) hx hb hts hin4 hown hK hP (2 * k) (cw_ro (S := S) (k := k) hk) rfl 3 (by decide) hfl21 (fun _ h9 => h9) rfl dX4_set_66 ?_
              refine lv_iload hx hb dX4_set_69 (lv_at hl 0 rfl) ?_
              refine lv_iload_n hx hb dX4_set_71 rfl (lv_at hl 5 rfl) ?_
              obtain ⟨hin, hf⟩ := zg_k hf
              refine va_iast hx hb hK hP (cw_D hAd) hS (2 * k + 1) 0 (cw_rc (S := S) (k := k) hk) rfl (inb_k hin) dX4_set_72 (fun H locs hP _ hS => ?_)
              have hP : va_P D vwCl (cw cyI ad (wi S k (Int32.toNatClampNeg x1) p3)) H := by rw [← cw_rs hk]; exact hP
              obtain ⟨S2, eS2, hf⟩ := zb_k hf
              rw [← eS2] at hP
              cases Option.some.inj hf
              exact fin_v hx hb hr hlk hS hP dX4_set_73
set_option maxHeartbeats 4000000 in
set_option maxRecDepth 100000 in
theorem c_X4_clear {l : Launch} {D : va_G} {cyI cyJ cyZ : ClassId} {ad : Nat → Nat} {k : Nat} (hAd : AdOK 31 ad) (hk : k < 12) {S : St} {p1 : Int32} {SZ : St} (hf : m_X4_clear k S p1 = some SZ) : Met l yX4_clear wsX4_clear rl_X4_clear (PreW D [(cyI, .int), (cyJ, .long), (cyZ, .boolean)] (cw cyI ad S) [.ref (ad (2 * k)), .int p1]) (PoV D (cw cyI ad SZ) (CA ad)) 0 0 (CA ad) := by
  refine met_go (cc := cX4_clear) (maxL := 4) (ret := none) (by decide) rfl (Nat.le_of_ble_eq_true rfl) ?_
  intro p e s m args below meth c ls hx hb hr hml hts hown hlk hP hK hN hl
  have hown : s.vm.findClass RX4 = some m.cls := hown
  have hS : va_S (CA ad) s.heap s.heap [] := va_S.rf
  have hl : lv_has ls 4 [(0, .ref (ad (2 * k))), (1, .int p1)] := hl
  have hin4 : ∀ w ∈ wsX40, w ∈ wsX4_clear := by decide +kernel
  have hfl21 := hts (.fieldLink RX4 21 "Makewheel$Rows" "cells" "[I") (by decide +kernel)
  have hfl15 := hts (.fieldLink RX4 15 "Makewheel$Rows" "width" "I") (by decide +kernel)
  have hfl18 := hts (.fieldLink RX4 18 "Makewheel$Rows" "blank" "I") (by decide +kernel)
  have hfl9 := hts (.fieldLink RX4 9 "Makewheel$Rows" "many" "I") (by decide +kernel)
  unfold m_X4_clear at hf
  refine lv_iload_n hx hb dX4_clear_0 rfl (lv_at hl 1 rfl) ?_
  have hJ26 : ∀ (t1 : Int32), m_X4_clear_J26 k S t1 = some SZ → ∀ (H : Heap) (locs : List Loc) (ls : Array Slot), va_P D vwCl (cw cyI ad S) H → va_S (CA ad) s.heap H locs → lv_has ls 4 [(0, .ref (ad (2 * k)))] → W p l e rl_X4_clear s m args below meth c H locs 0 0 (MQ below (PoV D (cw cyI ad SZ) (CA ad)) args s 0 0 (CA ad)) (F0 m 26 ls [.int t1]) := by
    intro t1 hf H locs ls hP hS hl
    unfold m_X4_clear_J26 at hf
    refine lv_istore_n (lv' := [(2, .int t1), (0, .ref (ad (2 * k)))]) hx hb dX4_clear_26 rfl hl (by decide) rfl (fun ls hl => ?_)
    refine lv_iload_n hx hb dX4_clear_27 rfl (lv_at hl 0 rfl) ?_
    refine lv_istore_n (lv' := [(3, .int t1), (2, .int t1), (0, .ref (ad (2 * k)))]) hx hb dX4_clear_28 rfl hl (by decide) rfl (fun ls hl => ?_)
    refine zl2_ind (F := (m_X4_clear_B29 k t1)) (R := SZ) (P := fun S2 x3 => ∀ (H : Heap) (locs : List Loc) (ls : Array Slot), va_P D vwCl (cw cyI ad S2) H → va_S (CA ad) s.heap H locs → lv_has ls 4 [(2, .int t1), (0, .ref (ad (2 * k))), (3, .int x3)] → W p l e rl_X4_clear s m args below meth c H locs 0 0 (MQ below (PoV D (cw cyI ad SZ) (CA ad)) args s 0 0 (CA ad)) (F0 m 29 ls [])) (fun rec29 ih29 S2 x3 hf H locs ls hP hS hl => ?_) FU S t1 hf _ _ _ hP hS (lv_sub hl [1, 2, 0] rfl)
    unfold m_X4_clear_B29 at hf
    refine lv_iload_n hx hb dX4_clear_29 rfl (lv_at hl 2 rfl) ?_
    refine lv_if_lt (tgt := 68) hx hb dX4_clear_30 (by decide) (fun hc => ?_) (fun hc => ?_)
    · have hf := ifp hf hc
      cases Option.some.inj hf
      exact fin_v hx hb hr hlk hS hP dX4_clear_68
    · have hf := ifn hf hc
      refine lv_iload_n hx hb dX4_clear_33 rfl (lv_at hl 2 rfl) ?_
      refine lv_aload_n hx hb dX4_clear_34 rfl (lv_at hl 1 rfl) ?_
      refine va_get (D := D) (ci := 4) (v := .ref (ad (2 * k + 1))) (C := RX4) (T := TX4) (N := 4) hx hb hts hin4 hown hK hP (2 * k) (cw_ro (S := S2) (k := k) hk) rfl 3 (by decide) hfl21 (fun _ h9 => h9) rfl dX4_clear_35 ?_
      refine va_alen hx hb hK hP (2 * k + 1) 0 (cw_rc (S := S2) (k := k) hk) rfl rfl dX4_clear_38 ?_
      refine lv_icmp_ge (tgt := 68) hx hb dX4_clear_39 (by decide) (fun hc => ?_) (fun hc => ?_)
      · have hf := ifp hf hc
        cases Option.some.inj hf
        exact fin_v hx hb hr hlk hS hP dX4_clear_68
      · have hf := ifn hf hc
        refine lv_iload_n hx hb dX4_clear_42 rfl (lv_at hl 2 rfl) ?_
        refine lv_iload_n hx hb dX4_clear_43 rfl (lv_at hl 0 rfl) ?_
        refine lv_aload_n hx hb dX4_clear_44 rfl (lv_at hl 1 rfl) ?_
        refine va_get (D := D) (ci := 4) (v := .int (wid k)) (C := RX4) (T := TX4) (N := 4) hx hb hts hin4 hown hK hP (2 * k) (cw_ro (S := S2) (k := k) hk) rfl 1 (by decide) hfl15 (fun _ h9 => h9) rfl dX4_clear_45 ?_
        refine lv_iadd hx hb dX4_clear_48 ?_
        refine lv_icmp_ge (tgt := 68) hx hb dX4_clear_49 (by decide) (fun hc => ?_) (fun hc => ?_)
        · have hf := ifp hf hc
          cases Option.some.inj hf
          exact fin_v hx hb hr hlk hS hP dX4_clear_68
        · have hf := ifn hf hc
          refine lv_aload_n hx hb dX4_clear_52 rfl (lv_at hl 1 rfl) ?_
          refine va_get (D := D) (ci := 4) (v := .ref (ad (2 * k + 1))) (C := RX4) (T := TX4) (N := 4) hx hb hts hin4 hown hK hP (2 * k) (cw_ro (S := S2) (k := k) hk) rfl 3 (by decide) hfl21 (fun _ h9 => h9) rfl dX4_clear_53 ?_
          refine lv_iload_n hx hb dX4_clear_56 rfl (lv_at hl 2 rfl) ?_
          refine lv_aload_n hx hb dX4_clear_57 rfl (lv_at hl 1 rfl) ?_
          refine va_get (D := D) (ci := 4) (v := .int (blk k)) (C := RX4) (T := TX4) (N := 4) hx hb hts hin4 hown hK hP (2 * k) (cw_ro (S := S2) (k := k) hk) rfl 2 (by decide) hfl18 (fun _ h9 => h9) rfl dX4_clear_58 ?_
          obtain ⟨hin, hf⟩ := zg_k hf
          refine va_iast hx hb hK hP (cw_D hAd) hS (2 * k + 1) 0 (cw_rc (S := S2) (k := k) hk) rfl (inb_k hin) dX4_clear_61 (fun H locs hP _ hS => ?_)
          have hP : va_P D vwCl (cw cyI ad (wi S2 k (Int32.toNatClampNeg x3) (blk k))) H := by rw [← cw_rs hk]; exact hP
          obtain ⟨S4, eS4, hf⟩ := zb_k hf
          rw [← eS4] at hP
          obtain ⟨x5, ex5, hf⟩ := zb_k hf
          refine lv_iinc (v := x5) (lv' := [(3, .int x5), (2, .int t1), (0, .ref (ad (2 * k)))]) hx hb dX4_clear_62 hl (k := 2) rfl (by rw [ex5]; rfl) (by decide) rfl (fun ls hl => ?_)
          refine lv_goto (tgt := 29) hx hb dX4_clear_65 (by decide) ?_
          exact ih29 S4 x5 hf _ _ _ hP hS (lv_sub hl [1, 2, 0] rfl)
  have hJ21 : m_X4_clear_J21 k S = some SZ → ∀ (H : Heap) (locs : List Loc) (ls : Array Slot), va_P D vwCl (cw cyI ad S) H → va_S (CA ad) s.heap H locs → lv_has ls 4 [(0, .ref (ad (2 * k)))] → W p l e rl_X4_clear s m args below meth c H locs 0 0 (MQ below (PoV D (cw cyI ad SZ) (CA ad)) args s 0 0 (CA ad)) (F0 m 21 ls []) := by
    intro  hf H locs ls hP hS hl
    unfold m_X4_clear_J21 at hf
    refine lv_aload_n hx hb dX4_clear_21 rfl (lv_at hl 0 rfl) ?_
    refine va_get (D := D) (ci := 4) (v := .ref (ad (2 * k + 1))) (C := RX4) (T := TX4) (N := 4) hx hb hts hin4 hown hK hP (2 * k) (cw_ro (S := S) (k := k) hk) rfl 3 (by decide) hfl21 (fun _ h9 => h9) rfl dX4_clear_22 ?_
    refine va_alen hx hb hK hP (2 * k + 1) 0 (cw_rc (S := S) (k := k) hk) rfl rfl dX4_clear_25 ?_
    exact hJ26 (Int32.ofNat (rsz k)) hf _ _ _ hP hS (lv_sub hl [0] rfl)
  refine lv_if_lt (tgt := 21) hx hb dX4_clear_1 (by decide) (fun hc => ?_) (fun hc => ?_)
  · have hf := ifp hf hc
    exact hJ21  hf _ _ _ hP hS (lv_sub hl [0] rfl)
  · have hf := ifn hf hc
    refine lv_iload_n hx hb dX4_clear_4 rfl (lv_at hl 1 rfl) ?_
    refine lv_aload_n hx hb dX4_clear_5 rfl (lv_at hl 0 rfl) ?_
    refine va_get (D := D) (ci := 4) (v := .int (mny k)) (C := RX4) (T := TX4) (N := 4) hx hb hts hin4 hown hK hP (2 * k) (cw_ro (S := S) (k := k) hk) rfl 0 (by decide) hfl9 (fun _ h9 => h9) rfl dX4_clear_6 ?_
    refine lv_icmp_ge (tgt := 21) hx hb dX4_clear_9 (by decide) (fun hc => ?_) (fun hc => ?_)
    · have hf := ifp hf hc
      exact hJ21  hf _ _ _ hP hS (lv_sub hl [0] rfl)
    · have hf := ifn hf hc
      refine lv_iload_n hx hb dX4_clear_12 rfl (lv_at hl 1 rfl) ?_
      refine lv_aload_n hx hb dX4_clear_13 rfl (lv_at hl 0 rfl) ?_
      refine va_get (D := D) (ci := 4) (v := .int (wid k)) (C := RX4) (T := TX4) (N := 4) hx hb hts hin4 hown hK hP (2 * k) (cw_ro (S := S) (k := k) hk) rfl 1 (by decide) hfl15 (fun _ h9 => h9) rfl dX4_clear_14 ?_
      refine lv_imul hx hb dX4_clear_17 ?_
      refine lv_goto (tgt := 26) hx hb dX4_clear_18 (by decide) ?_
      exact hJ26 (p1 * wid k) hf _ _ _ hP hS (lv_sub hl [0] rfl)
set_option maxHeartbeats 4000000 in
set_option maxRecDepth 100000 in
theorem c_X4_copy {l : Launch} {D : va_G} {cyI cyJ cyZ : ClassId} {ad : Nat → Nat} {k : Nat} {k2 : Nat} (hAd : AdOK 31 ad) (hk : k < 12) (hk2 : k2 < 12) {S : St} {p1 : Int32} {p3 : Int32} {SZ : St} (hf : m_X4_copy k k2 S p1 p3 = some SZ) : Met l yX4_copy wsX4_copy rl_X4_copy (PreW D [(cyI, .int), (cyJ, .long), (cyZ, .boolean)] (cw cyI ad S) [.ref (ad (2 * k)), .int p1, .ref (ad (2 * k2)), .int p3]) (PoV D (cw cyI ad SZ) (CA ad)) 0 0 (CA ad) := by
  refine met_go (cc := cX4_copy) (maxL := 5) (ret := none) (by decide) rfl (Nat.le_of_ble_eq_true rfl) ?_
  intro p e s m args below meth c ls hx hb hr hml hts hown hlk hP hK hN hl
  have hown : s.vm.findClass RX4 = some m.cls := hown
  have hS : va_S (CA ad) s.heap s.heap [] := va_S.rf
  have hl : lv_has ls 5 [(0, .ref (ad (2 * k))), (1, .int p1), (2, .ref (ad (2 * k2))), (3, .int p3)] := hl
  have hin4 : ∀ w ∈ wsX40, w ∈ wsX4_copy := by decide +kernel
  have hfl15 := hts (.fieldLink RX4 15 "Makewheel$Rows" "width" "I") (by decide +kernel)
  unfold m_X4_copy at hf
  refine lv_iconst (v := (nI 0)) hx hb dX4_copy_0 (by decide) ?_
  refine lv_istore (lv' := [(4, .int (nI 0)), (0, .ref (ad (2 * k))), (1, .int p1), (2, .ref (ad (2 * k2))), (3, .int p3)]) hx hb dX4_copy_1 hl (by decide) rfl (fun ls hl => ?_)
  refine zl2_ind (F := (m_X4_copy_B3 k k2 p3 p1)) (R := SZ) (P := fun S1 x2 => ∀ (H : Heap) (locs : List Loc) (ls : Array Slot), va_P D vwCl (cw cyI ad S1) H → va_S (CA ad) s.heap H locs → lv_has ls 5 [(0, .ref (ad (2 * k))), (1, .int p1), (2, .ref (ad (2 * k2))), (3, .int p3), (4, .int x2)] → W p l e rl_X4_copy s m args below meth c H locs 0 0 (MQ below (PoV D (cw cyI ad SZ) (CA ad)) args s 0 0 (CA ad)) (F0 m 3 ls [])) (fun rec3 ih3 S1 x2 hf H locs ls hP hS hl => ?_) FU S (nI 0) hf _ _ _ hP hS (lv_sub hl [1, 2, 3, 4, 0] rfl)
  unfold m_X4_copy_B3 at hf
  refine lv_iload hx hb dX4_copy_3 (lv_at hl 4 rfl) ?_
  refine lv_aload_n hx hb dX4_copy_5 rfl (lv_at hl 0 rfl) ?_
  refine va_get (D := D) (ci := 4) (v := .int (wid k)) (C := RX4) (T := TX4) (N := 4) hx hb hts hin4 hown hK hP (2 * k) (cw_ro (S := S1) (k := k) hk) rfl 1 (by decide) hfl15 (fun _ h9 => h9) rfl dX4_copy_6 ?_
  refine lv_icmp_ge (tgt := 41) hx hb dX4_copy_9 (by decide) (fun hc => ?_) (fun hc => ?_)
  · have hf := ifp hf hc
    cases Option.some.inj hf
    exact fin_v hx hb hr hlk hS hP dX4_copy_41
  · have hf := ifn hf hc
    refine lv_iload hx hb dX4_copy_12 (lv_at hl 4 rfl) ?_
    refine lv_aload_n hx hb dX4_copy_14 rfl (lv_at hl 2 rfl) ?_
    refine va_get (D := D) (ci := 4) (v := .int (wid k2)) (C := RX4) (T := TX4) (N := 4) hx hb hts hin4 hown hK hP (2 * k2) (cw_ro (S := S1) (k := k2) hk2) rfl 1 (by decide) hfl15 (fun _ h9 => h9) rfl dX4_copy_15 ?_
    refine lv_icmp_ge (tgt := 41) hx hb dX4_copy_18 (by decide) (fun hc => ?_) (fun hc => ?_)
    · have hf := ifp hf hc
      cases Option.some.inj hf
      exact fin_v hx hb hr hlk hS hP dX4_copy_41
    · have hf := ifn hf hc
      refine lv_aload_n hx hb dX4_copy_21 rfl (lv_at hl 0 rfl) ?_
      refine lv_iload_n hx hb dX4_copy_22 rfl (lv_at hl 1 rfl) ?_
      refine lv_iload hx hb dX4_copy_23 (lv_at hl 4 rfl) ?_
      refine lv_aload_n hx hb dX4_copy_25 rfl (lv_at hl 2 rfl) ?_
      refine lv_iload_n hx hb dX4_copy_26 rfl (lv_at hl 3 rfl) ?_
      refine lv_iload hx hb dX4_copy_27 (lv_at hl 4 rfl) ?_
      obtain ⟨x3, hc29, hf⟩ := zo_k hf
      refine cal_i (rnV (As := [.int p3, .int x2]) (rest := [.int x2, .int p1, .ref (ad (2 * k))]) ⟨hx, hb, hml, hown, hts⟩ (c_X4_get hAd hk2 hc29) (cwV 2 hts gX4_copy_X4_get rfl rfl rfl cdV_X4_get ⟨Nat.le_of_ble_eq_true rfl, Nat.le_of_ble_eq_true rfl⟩) hP hK hN (cw_ro (S := S1) (k := k2) hk2) rfl rfl hl.1 rfl (Nat.le_of_ble_eq_true rfl) dX4_copy_29 ⟨Nat.zero_le _, Nat.zero_le _⟩) hS (fun H locs hP hS => ?_)
      obtain ⟨S4, hc32, hf⟩ := zo_k hf
      refine cal_v (rnV (As := [.int p1, .int x2, .int x3]) (rest := []) ⟨hx, hb, hml, hown, hts⟩ (c_X4_set hAd hk hc32) (cwV 3 hts gX4_copy_X4_set rfl rfl rfl cdV_X4_set ⟨Nat.le_of_ble_eq_true rfl, Nat.le_of_ble_eq_true rfl⟩) hP hK hN (cw_ro (S := S1) (k := k) hk) rfl rfl hl.1 rfl (Nat.le_of_ble_eq_true rfl) dX4_copy_32 ⟨Nat.zero_le _, Nat.zero_le _⟩) hS (fun H locs hP hS => ?_)
      obtain ⟨x5, ex5, hf⟩ := zb_k hf
      refine lv_iinc (v := x5) (lv' := [(4, .int x5), (0, .ref (ad (2 * k))), (1, .int p1), (2, .ref (ad (2 * k2))), (3, .int p3)]) hx hb dX4_copy_35 hl (k := 4) rfl (by rw [ex5]; rfl) (by decide) rfl (fun ls hl => ?_)
      refine lv_goto (tgt := 3) hx hb dX4_copy_38 (by decide) ?_
      exact ih3 S4 x5 hf _ _ _ hP hS (lv_sub hl [1, 2, 3, 4, 0] rfl)
set_option maxHeartbeats 4000000 in
set_option maxRecDepth 100000 in
theorem c_X4_isSame {l : Launch} {D : va_G} {cyI cyJ cyZ : ClassId} {ad : Nat → Nat} {k : Nat} {k2 : Nat} (hAd : AdOK 31 ad) (hk : k < 12) (hk2 : k2 < 12) {S : St} {p1 : Int32} {p3 : Int32} {p4 : Int32} {p5 : Int32} {r : Int32} (hf : m_X4_isSame k k2 S p1 p3 p4 p5 = some r) : Met l yX4_isSame wsX4_isSame rl_X4_isSame (PreW D [(cyI, .int), (cyJ, .long), (cyZ, .boolean)] (cw cyI ad S) [.ref (ad (2 * k)), .int p1, .ref (ad (2 * k2)), .int p3, .int p4, .int p5]) (PoI D (cw cyI ad S) (CA ad) r) 0 0 (CA ad) := by
  refine met_go (cc := cX4_isSame) (maxL := 7) (ret := (some .boolean)) (by decide) rfl (Nat.le_of_ble_eq_true rfl) ?_
  intro p e s m args below meth c ls hx hb hr hml hts hown hlk hP hK hN hl
  have hown : s.vm.findClass RX4 = some m.cls := hown
  have hS : va_S (CA ad) s.heap s.heap [] := va_S.rf
  have hl : lv_has ls 7 [(0, .ref (ad (2 * k))), (1, .int p1), (2, .ref (ad (2 * k2))), (3, .int p3), (4, .int p4), (5, .int p5)] := hl
  unfold m_X4_isSame at hf
  refine lv_iload hx hb dX4_isSame_0 (lv_at hl 4 rfl) ?_
  refine lv_istore (lv' := [(6, .int p4), (0, .ref (ad (2 * k))), (1, .int p1), (2, .ref (ad (2 * k2))), (3, .int p3), (4, .int p4), (5, .int p5)]) hx hb dX4_isSame_2 hl (by decide) rfl (fun ls hl => ?_)
  refine zl1_ind (F := (m_X4_isSame_B4 p5 k S p1 k2 p3)) (R := r) (P := fun x1 => ∀ (H : Heap) (locs : List Loc) (ls : Array Slot), va_P D vwCl (cw cyI ad S) H → va_S (CA ad) s.heap H locs → lv_has ls 7 [(0, .ref (ad (2 * k))), (1, .int p1), (2, .ref (ad (2 * k2))), (3, .int p3), (5, .int p5), (6, .int x1)] → W p l e rl_X4_isSame s m args below meth c H locs 0 0 (MQ below (PoI D (cw cyI ad S) (CA ad) r) args s 0 0 (CA ad)) (F0 m 4 ls [])) (fun rec4 ih4 x1 hf H locs ls hP hS hl => ?_) FU p4 hf _ _ _ hP hS (lv_sub hl [1, 2, 3, 4, 6, 0] rfl)
  unfold m_X4_isSame_B4 at hf
  refine lv_iload hx hb dX4_isSame_4 (lv_at hl 5 rfl) ?_
  refine lv_iload hx hb dX4_isSame_6 (lv_at hl 4 rfl) ?_
  refine lv_icmp_ge (tgt := 36) hx hb dX4_isSame_8 (by decide) (fun hc => ?_) (fun hc => ?_)
  · have hf := ifp hf hc
    refine lv_iconst (v := (nI 1)) hx hb dX4_isSame_36 (by decide) ?_
    exact fin_z hx hb hr hlk hS hP rfl (Option.some.inj hf) dX4_isSame_37
  · have hf := ifn hf hc
    refine lv_aload_n hx hb dX4_isSame_11 rfl (lv_at hl 0 rfl) ?_
    refine lv_iload_n hx hb dX4_isSame_12 rfl (lv_at hl 1 rfl) ?_
    refine lv_iload hx hb dX4_isSame_13 (lv_at hl 5 rfl) ?_
    obtain ⟨x2, hc15, hf⟩ := zo_k hf
    refine cal_i (rnV (As := [.int p1, .int x1]) (rest := []) ⟨hx, hb, hml, hown, hts⟩ (c_X4_get hAd hk hc15) (cwV 2 hts gX4_isSame_X4_get rfl rfl rfl cdV_X4_get ⟨Nat.le_of_ble_eq_true rfl, Nat.le_of_ble_eq_true rfl⟩) hP hK hN (cw_ro (S := S) (k := k) hk) rfl rfl hl.1 rfl (Nat.le_of_ble_eq_true rfl) dX4_isSame_15 ⟨Nat.zero_le _, Nat.zero_le _⟩) hS (fun H locs hP hS => ?_)
    refine lv_aload_n hx hb dX4_isSame_18 rfl (lv_at hl 2 rfl) ?_
    refine lv_iload_n hx hb dX4_isSame_19 rfl (lv_at hl 3 rfl) ?_
    refine lv_iload hx hb dX4_isSame_20 (lv_at hl 5 rfl) ?_
    obtain ⟨x3, hc22, hf⟩ := zo_k hf
    refine cal_i (rnV (As := [.int p3, .int x1]) (rest := [.int x2]) ⟨hx, hb, hml, hown, hts⟩ (c_X4_get hAd hk2 hc22) (cwV 2 hts gX4_isSame_X4_get rfl rfl rfl cdV_X4_get ⟨Nat.le_of_ble_eq_true rfl, Nat.le_of_ble_eq_true rfl⟩) hP hK hN (cw_ro (S := S) (k := k2) hk2) rfl rfl hl.1 rfl (Nat.le_of_ble_eq_true rfl) dX4_isSame_22 ⟨Nat.zero_le _, Nat.zero_le _⟩) hS (fun H locs hP hS => ?_)
    refine lv_icmp_eq (tgt := 30) hx hb dX4_isSame_25 (by decide) (fun hc => ?_) (fun hc => ?_)
    · have hf := ifp hf hc
      obtain ⟨x4, ex4, hf⟩ := zb_k hf
      refine lv_iinc (v := x4) (lv' := [(6, .int x4), (0, .ref (ad (2 * k))), (1, .int p1), (2, .ref (ad (2 * k2))), (3, .int p3), (5, .int p5)]) hx hb dX4_isSame_30 hl (k := 5) rfl (by rw [ex4]; rfl) (by decide) rfl (fun ls hl => ?_)
      refine lv_goto (tgt := 4) hx hb dX4_isSame_33 (by decide) ?_
      exact ih4 x4 hf _ _ _ hP hS (lv_sub hl [1, 2, 3, 4, 5, 0] rfl)
    · have hf := ifn hf hc
      refine lv_iconst (v := (nI 0)) hx hb dX4_isSame_28 (by decide) ?_
      exact fin_z hx hb hr hlk hS hP rfl (Option.some.inj hf) dX4_isSame_29
set_option maxHeartbeats 4000000 in
set_option maxRecDepth 100000 in
theorem c_X4_howManyFilled {l : Launch} {D : va_G} {cyI cyJ cyZ : ClassId} {ad : Nat → Nat} {k : Nat} (hAd : AdOK 31 ad) (hk : k < 12) {S : St}  {r : Int32} (hf : m_X4_howManyFilled k S = some r) : Met l yX4_howManyFilled wsX4_howManyFilled rl_X4_howManyFilled (PreW D [(cyI, .int), (cyJ, .long), (cyZ, .boolean)] (cw cyI ad S) [.ref (ad (2 * k))]) (PoI D (cw cyI ad S) (CA ad) r) 0 0 (CA ad) := by
  refine met_go (cc := cX4_howManyFilled) (maxL := 3) (ret := (some .int)) (by decide) rfl (Nat.le_of_ble_eq_true rfl) ?_
  intro p e s m args below meth c ls hx hb hr hml hts hown hlk hP hK hN hl
  have hown : s.vm.findClass RX4 = some m.cls := hown
  have hS : va_S (CA ad) s.heap s.heap [] := va_S.rf
  have hl : lv_has ls 3 [(0, .ref (ad (2 * k)))] := hl
  have hin4 : ∀ w ∈ wsX40, w ∈ wsX4_howManyFilled := by decide +kernel
  have hfl9 := hts (.fieldLink RX4 9 "Makewheel$Rows" "many" "I") (by decide +kernel)
  unfold m_X4_howManyFilled at hf
  refine lv_iconst (v := (nI 0)) hx hb dX4_howManyFilled_0 (by decide) ?_
  refine lv_istore_n (lv' := [(1, .int (nI 0)), (0, .ref (ad (2 * k)))]) hx hb dX4_howManyFilled_1 rfl hl (by decide) rfl (fun ls hl => ?_)
  refine lv_iconst (v := (nI 0)) hx hb dX4_howManyFilled_2 (by decide) ?_
  refine lv_istore_n (lv' := [(2, .int (nI 0)), (1, .int (nI 0)), (0, .ref (ad (2 * k)))]) hx hb dX4_howManyFilled_3 rfl hl (by decide) rfl (fun ls hl => ?_)
  refine zl2_ind (F := (m_X4_howManyFilled_B4 k S)) (R := r) (P := fun x1 x2 => ∀ (H : Heap) (locs : List Loc) (ls : Array Slot), va_P D vwCl (cw cyI ad S) H → va_S (CA ad) s.heap H locs → lv_has ls 3 [(0, .ref (ad (2 * k))), (1, .int x1), (2, .int x2)] → W p l e rl_X4_howManyFilled s m args below meth c H locs 0 0 (MQ below (PoI D (cw cyI ad S) (CA ad) r) args s 0 0 (CA ad)) (F0 m 4 ls [])) (fun rec4 ih4 x1 x2 hf H locs ls hP hS hl => ?_) FU (nI 0) (nI 0) hf _ _ _ hP hS (lv_sub hl [2, 1, 0] rfl)
  unfold m_X4_howManyFilled_B4 at hf
  refine lv_iload_n hx hb dX4_howManyFilled_4 rfl (lv_at hl 2 rfl) ?_
  refine lv_aload_n hx hb dX4_howManyFilled_5 rfl (lv_at hl 0 rfl) ?_
  refine va_get (D := D) (ci := 4) (v := .int (mny k)) (C := RX4) (T := TX4) (N := 4) hx hb hts hin4 hown hK hP (2 * k) (cw_ro (S := S) (k := k) hk) rfl 0 (by decide) hfl9 (fun _ h9 => h9) rfl dX4_howManyFilled_6 ?_
  refine lv_icmp_ge (tgt := 31) hx hb dX4_howManyFilled_9 (by decide) (fun hc => ?_) (fun hc => ?_)
  · have hf := ifp hf hc
    refine lv_iload_n hx hb dX4_howManyFilled_31 rfl (lv_at hl 1 rfl) ?_
    exact fin_i hx hb hr hlk hS hP (Option.some.inj hf) dX4_howManyFilled_32
  · have hf := ifn hf hc
    refine lv_aload_n hx hb dX4_howManyFilled_12 rfl (lv_at hl 0 rfl) ?_
    refine lv_iload_n hx hb dX4_howManyFilled_13 rfl (lv_at hl 2 rfl) ?_
    refine lv_iconst (v := (nI 1)) hx hb dX4_howManyFilled_14 (by decide) ?_
    obtain ⟨x3, hc15, hf⟩ := zo_k hf
    refine cal_i (rnV (As := [.int x2, .int (nI 1)]) (rest := []) ⟨hx, hb, hml, hown, hts⟩ (c_X4_get hAd hk hc15) (cwV 2 hts gX4_howManyFilled_X4_get rfl rfl rfl cdV_X4_get ⟨Nat.le_of_ble_eq_true rfl, Nat.le_of_ble_eq_true rfl⟩) hP hK hN (cw_ro (S := S) (k := k) hk) rfl rfl hl.1 rfl (Nat.le_of_ble_eq_true rfl) dX4_howManyFilled_15 ⟨Nat.zero_le _, Nat.zero_le _⟩) hS (fun H locs hP hS => ?_)
    refine lv_iconst (v := (-1)) hx hb dX4_howManyFilled_18 (by decide) ?_
    refine lv_icmp_eq (tgt := 25) hx hb dX4_howManyFilled_19 (by decide) (fun hc => ?_) (fun hc => ?_)
    · have hf := ifp hf hc
      obtain ⟨x4, ex4, hf⟩ := zb_k hf
      refine lv_iinc (v := x4) (lv' := [(2, .int x4), (0, .ref (ad (2 * k))), (1, .int x1)]) hx hb dX4_howManyFilled_25 hl (k := 2) rfl (by rw [ex4]; rfl) (by decide) rfl (fun ls hl => ?_)
      refine lv_goto (tgt := 4) hx hb dX4_howManyFilled_28 (by decide) ?_
      exact ih4 x1 x4 hf _ _ _ hP hS (lv_sub hl [1, 2, 0] rfl)
    · have hf := ifn hf hc
      obtain ⟨x5, ex5, hf⟩ := zb_k hf
      refine lv_iinc (v := x5) (lv' := [(1, .int x5), (0, .ref (ad (2 * k))), (2, .int x2)]) hx hb dX4_howManyFilled_22 hl (k := 1) rfl (by rw [ex5]; rfl) (by decide) rfl (fun ls hl => ?_)
      obtain ⟨x6, ex6, hf⟩ := zb_k hf
      refine lv_iinc (v := x6) (lv' := [(2, .int x6), (1, .int x5), (0, .ref (ad (2 * k)))]) hx hb dX4_howManyFilled_25 hl (k := 2) rfl (by rw [ex6]; rfl) (by decide) rfl (fun ls hl => ?_)
      refine lv_goto (tgt := 4) hx hb dX4_howManyFilled_28 (by decide) ?_
      exact ih4 x5 x6 hf _ _ _ hP hS (lv_sub hl [2, 1, 0] rfl)
