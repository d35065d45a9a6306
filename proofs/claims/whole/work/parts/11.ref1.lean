set_option maxHeartbeats 4000000 in
set_option maxRecDepth 100000 in
theorem c_X7_away {l : Launch} {D : va_G} {cyI cyJ cyZ : ClassId} {bd : Nat → Nat}  (hAd : AdOK 41 bd)  {S : St}  {r : Int32} {SZ : St} (hf : m_X7_away S = some (r, SZ)) : Met l yX7_away wsX7_away rl_X7_away (PreW D [(cyI, .int), (cyJ, .long), (cyZ, .boolean)] (mw cyI cyJ cyZ bd S) [.ref (bd 0)]) (PoI D (mw cyI cyJ cyZ bd SZ) (MA bd) r) 0 0 (MA bd) := by
  refine met_go (cc := cX7_away) (maxL := 3) (ret := (some .int)) (by decide) rfl (Nat.le_of_ble_eq_true rfl) ?_
  intro p e s m args below meth c ls hx hb hr hml hts hown hlk hP hK hN hl
  have hown : s.vm.findClass RX7 = some m.cls := hown
  have hS : va_S (MA bd) s.heap s.heap [] := va_S.rf
  have hl : lv_has ls 3 [(0, .ref (bd 0))] := hl
  have hin7 : ∀ w ∈ wsX70, w ∈ wsX7_away := by decide +kernel
  have hfl132 := hts (.fieldLink RX7 132 "MakewheelModel" "thrown" "I") (by decide +kernel)
  have hfl41 := hts (.fieldLink RX7 41 "MakewheelModel" "isAway" "[Z") (by decide +kernel)
  unfold m_X7_away at hf
  refine lv_aload_n hx hb dX7_away_0 rfl (lv_at hl 0 rfl) ?_
  refine lv_iconst (v := (nI 0)) hx hb dX7_away_1 (by decide) ?_
  refine va_put (D := D) (ci := 7) (v := .int (nI 0)) (ty := .int) (C := RX7) (T := TX7) (N := 48) hx hb hts hin7 tyX7 tyX7_ok nmX7 hown hK hP (mw_D hAd) hS 0 (mw_o (S := S)) rfl 47 (by decide) hfl132 (fun _ h9 => h9) rfl (by decide +kernel) rfl rfl (Nat.le_of_ble_eq_true rfl) dX7_away_2 (fun H locs hP _ hS => ?_)
  have hP : va_P D vwCl (mw cyI cyJ cyZ bd (wi S 47 0 (nI 0))) H := by rw [← mw_s47]; exact hP
  obtain ⟨S1, eS1, hf⟩ := zb_k hf
  rw [← eS1] at hP
  refine lv_iconst (v := (nI 0)) hx hb dX7_away_5 (by decide) ?_
  refine lv_istore_n (lv' := [(1, .int (nI 0)), (0, .ref (bd 0))]) hx hb dX7_away_6 rfl hl (by decide) rfl (fun ls hl => ?_)
  refine lv_iconst (v := (nI 0)) hx hb dX7_away_7 (by decide) ?_
  refine lv_istore_n (lv' := [(2, .int (nI 0)), (1, .int (nI 0)), (0, .ref (bd 0))]) hx hb dX7_away_8 rfl hl (by decide) rfl (fun ls hl => ?_)
  refine zl2_ind (F := (m_X7_away_B9 S1)) (R := (r, SZ)) (P := fun x2 x3 => ∀ (H : Heap) (locs : List Loc) (ls : Array Slot), va_P D vwCl (mw cyI cyJ cyZ bd S1) H → va_S (MA bd) s.heap H locs → lv_has ls 3 [(0, .ref (bd 0)), (1, .int x2), (2, .int x3)] → W p l e rl_X7_away s m args below meth c H locs 0 0 (MQ below (PoI D (mw cyI cyJ cyZ bd SZ) (MA bd) r) args s 0 0 (MA bd)) (F0 m 9 ls [])) (fun rec9 ih9 x2 x3 hf H locs ls hP hS hl => ?_) FU (nI 0) (nI 0) hf _ _ _ hP hS (lv_sub hl [2, 1, 0] rfl)
  unfold m_X7_away_B9 at hf
  refine lv_iload_n hx hb dX7_away_9 rfl (lv_at hl 2 rfl) ?_
  refine lv_iconst (v := (nI 3)) hx hb dX7_away_10 (by decide) ?_
  refine lv_icmp_ge (tgt := 39) hx hb dX7_away_11 (by decide) (fun hc => ?_) (fun hc => ?_)
  · have hf := ifp hf hc
    refine lv_iload_n hx hb dX7_away_39 rfl (lv_at hl 1 rfl) ?_
    cases Option.some.inj hf
    exact fin_i hx hb hr hlk hS hP rfl dX7_away_40
  · have hf := ifn hf hc
    refine lv_iload_n hx hb dX7_away_14 rfl (lv_at hl 1 rfl) ?_
    refine lv_aload_n hx hb dX7_away_15 rfl (lv_at hl 0 rfl) ?_
    refine va_get (D := D) (ci := 7) (v := .ref (bd 11)) (C := RX7) (T := TX7) (N := 48) hx hb hts hin7 hown hK hP 0 (mw_o (S := S1)) rfl 10 (by decide) hfl41 (fun _ h9 => h9) mw_f10 dX7_away_16 ?_
    refine lv_iload_n hx hb dX7_away_19 rfl (lv_at hl 2 rfl) ?_
    obtain ⟨hin, hf⟩ := zg_k hf
    refine va_zald hx hb hK hP 11 2 (mw_a10 (S := S1)) rfl (inb_k hin) dX7_away_20 ?_
    refine lv_if_eq (tgt := 30) hx hb dX7_away_21 (by decide) (fun hc => ?_) (fun hc => ?_)
    · have hf := ifp hf hc
      refine lv_iconst (v := (nI 0)) hx hb dX7_away_30 (by decide) ?_
      refine lv_ior hx hb dX7_away_31 ?_
      refine lv_topi (fun x4 ex4 => ?_)
      have hf := zb_x hf ex4
      refine lv_istore_n (lv' := [(1, .int x4), (0, .ref (bd 0)), (2, .int x3)]) hx hb dX7_away_32 rfl hl (by decide) rfl (fun ls hl => ?_)
      obtain ⟨x5, ex5, hf⟩ := zb_k hf
      refine lv_iinc (v := x5) (lv' := [(2, .int x5), (1, .int x4), (0, .ref (bd 0))]) hx hb dX7_away_33 hl (k := 2) rfl (by rw [ex5]; rfl) (by decide) rfl (fun ls hl => ?_)
      refine lv_goto (tgt := 9) hx hb dX7_away_36 (by decide) ?_
      exact ih9 x4 x5 hf _ _ _ hP hS (lv_sub hl [2, 1, 0] rfl)
    · have hf := ifn hf hc
      refine lv_iconst (v := (nI 1)) hx hb dX7_away_24 (by decide) ?_
      refine lv_iload_n hx hb dX7_away_25 rfl (lv_at hl 2 rfl) ?_
      refine lv_ishl hx hb dX7_away_26 ?_
      refine lv_goto (tgt := 31) hx hb dX7_away_27 (by decide) ?_
      refine lv_ior hx hb dX7_away_31 ?_
      refine lv_topi (fun x6 ex6 => ?_)
      have hf := zb_x hf ex6
      refine lv_istore_n (lv' := [(1, .int x6), (0, .ref (bd 0)), (2, .int x3)]) hx hb dX7_away_32 rfl hl (by decide) rfl (fun ls hl => ?_)
      obtain ⟨x7, ex7, hf⟩ := zb_k hf
      refine lv_iinc (v := x7) (lv' := [(2, .int x7), (1, .int x6), (0, .ref (bd 0))]) hx hb dX7_away_33 hl (k := 2) rfl (by rw [ex7]; rfl) (by decide) rfl (fun ls hl => ?_)
      refine lv_goto (tgt := 9) hx hb dX7_away_36 (by decide) ?_
      exact ih9 x6 x7 hf _ _ _ hP hS (lv_sub hl [2, 1, 0] rfl)
set_option maxHeartbeats 4000000 in
set_option maxRecDepth 100000 in
theorem c_X7_has {l : Launch} {D : va_G} {cyI cyJ cyZ : ClassId} {bd : Nat → Nat}  (hAd : AdOK 41 bd)  {S : St} {p0 : Int32} {p1 : Int32} {r : Int32} (hf : m_X7_has S p0 p1 = some r) : Met l yX7_has wsX7_has rl_X7_has (PreW D [(cyI, .int), (cyJ, .long), (cyZ, .boolean)] (mw cyI cyJ cyZ bd S) [.int p0, .int p1]) (PoI D (mw cyI cyJ cyZ bd S) (MA bd) r) 0 0 (MA bd) := by
  refine met_go (cc := cX7_has) (maxL := 2) (ret := (some .boolean)) (by decide) rfl (Nat.le_of_ble_eq_true rfl) ?_
  intro p e s m args below meth c ls hx hb hr hml hts hown hlk hP hK hN hl
  have hown : s.vm.findClass RX7 = some m.cls := hown
  have hS : va_S (MA bd) s.heap s.heap [] := va_S.rf
  have hl : lv_has ls 2 [(0, .int p0), (1, .int p1)] := hl
  unfold m_X7_has at hf
  refine lv_iload_n hx hb dX7_has_0 rfl (lv_at hl 0 rfl) ?_
  refine lv_iload_n hx hb dX7_has_1 rfl (lv_at hl 1 rfl) ?_
  refine lv_ishr hx hb dX7_has_2 ?_
  refine lv_iconst (v := (nI 1)) hx hb dX7_has_3 (by decide) ?_
  refine lv_iand hx hb dX7_has_4 ?_
  refine lv_iconst (v := (nI 1)) hx hb dX7_has_5 (by decide) ?_
  refine lv_icmp_ne (tgt := 13) hx hb dX7_has_6 (by decide) (fun hc => ?_) (fun hc => ?_)
  · have hf := ifn hf hc
    refine lv_iconst (v := (nI 0)) hx hb dX7_has_13 (by decide) ?_
    exact fin_z hx hb hr hlk hS hP rfl (Option.some.inj hf) dX7_has_14
  · have hf := ifp hf hc
    refine lv_iconst (v := (nI 1)) hx hb dX7_has_9 (by decide) ?_
    refine lv_goto (tgt := 14) hx hb dX7_has_10 (by decide) ?_
    exact fin_z hx hb hr hlk hS hP rfl (Option.some.inj hf) dX7_has_14
set_option maxHeartbeats 4000000 in
set_option maxRecDepth 100000 in
theorem c_X7_beginsNext {l : Launch} {D : va_G} {cyI cyJ cyZ : ClassId} {bd : Nat → Nat}  (hAd : AdOK 41 bd)  {S : St} {p1 : Int32} {r : Int32} (hf : m_X7_beginsNext S p1 = some r) : Met l yX7_beginsNext wsX7_beginsNext rl_X7_beginsNext (PreW D [(cyI, .int), (cyJ, .long), (cyZ, .boolean)] (mw cyI cyJ cyZ bd S) [.ref (bd 0), .int p1]) (PoI D (mw cyI cyJ cyZ bd S) (MA bd) r) 0 0 (MA bd) := by
  refine met_go (cc := cX7_beginsNext) (maxL := 6) (ret := (some .int)) (by decide) rfl (Nat.le_of_ble_eq_true rfl) ?_
  intro p e s m args below meth c ls hx hb hr hml hts hown hlk hP hK hN hl
  have hown : s.vm.findClass RX7 = some m.cls := hown
  have hS : va_S (MA bd) s.heap s.heap [] := va_S.rf
  have hl : lv_has ls 6 [(0, .ref (bd 0)), (1, .int p1)] := hl
  have hin7 : ∀ w ∈ wsX70, w ∈ wsX7_beginsNext := by decide +kernel
  have hfl84 := hts (.fieldLink RX7 84 "MakewheelModel" "looked" "[I") (by decide +kernel)
  have hfl126 := hts (.fieldLink RX7 126 "MakewheelModel" "longest" "[I") (by decide +kernel)
  have hfl123 := hts (.fieldLink RX7 123 "MakewheelModel" "needed" "[I") (by decide +kernel)
  have hfl129 := hts (.fieldLink RX7 129 "MakewheelModel" "ends" "[I") (by decide +kernel)
  unfold m_X7_beginsNext at hf
  refine lv_iconst (v := (-1)) hx hb dX7_beginsNext_0 (by decide) ?_
  refine lv_istore_n (lv' := [(2, .int (-1)), (0, .ref (bd 0)), (1, .int p1)]) hx hb dX7_beginsNext_1 rfl hl (by decide) rfl (fun ls hl => ?_)
  refine lv_bipush (v := (nI 31)) hx hb dX7_beginsNext_2 (by decide) ?_
  refine lv_istore_n (lv' := [(3, .int (nI 31)), (2, .int (-1)), (0, .ref (bd 0)), (1, .int p1)]) hx hb dX7_beginsNext_4 rfl hl (by decide) rfl (fun ls hl => ?_)
  refine zl2_ind (F := (m_X7_beginsNext_B5 S p1)) (R := r) (P := fun x1 x2 => ∀ (H : Heap) (locs : List Loc) (ls : Array Slot), va_P D vwCl (mw cyI cyJ cyZ bd S) H → va_S (MA bd) s.heap H locs → lv_has ls 6 [(0, .ref (bd 0)), (1, .int p1), (2, .int x1), (3, .int x2)] → W p l e rl_X7_beginsNext s m args below meth c H locs 0 0 (MQ below (PoI D (mw cyI cyJ cyZ bd S) (MA bd) r) args s 0 0 (MA bd)) (F0 m 5 ls [])) (fun rec5 ih5 x1 x2 hf H locs ls hP hS hl => ?_) FU (-1) (nI 31) hf _ _ _ hP hS (lv_sub hl [2, 3, 1, 0] rfl)
  unfold m_X7_beginsNext_B5 at hf
  refine lv_iload_n hx hb dX7_beginsNext_5 rfl (lv_at hl 3 rfl) ?_
  refine lv_if_lt (tgt := 135) hx hb dX7_beginsNext_6 (by decide) (fun hc => ?_) (fun hc => ?_)
  · have hf := ifp hf hc
    refine lv_iload_n hx hb dX7_beginsNext_135 rfl (lv_at hl 2 rfl) ?_
    exact fin_i hx hb hr hlk hS hP (Option.some.inj hf) dX7_beginsNext_136
  · have hf := ifn hf hc
    refine lv_aload_n hx hb dX7_beginsNext_9 rfl (lv_at hl 0 rfl) ?_
    refine va_get (D := D) (ci := 7) (v := .ref (bd 25)) (C := RX7) (T := TX7) (N := 48) hx hb hts hin7 hown hK hP 0 (mw_o (S := S)) rfl 29 (by decide) hfl84 (fun _ h9 => h9) mw_f29 dX7_beginsNext_10 ?_
    refine lv_iload_n hx hb dX7_beginsNext_13 rfl (lv_at hl 3 rfl) ?_
    obtain ⟨hin, hf⟩ := zg_k hf
    refine va_iald hx hb hK hP 25 0 (mw_a29 (S := S)) rfl (inb_k hin) dX7_beginsNext_14 ?_
    refine lv_iconst (v := (nI 2)) hx hb dX7_beginsNext_15 (by decide) ?_
    have hJ33 : ∀ (t3 : Int32), m_X7_beginsNext_J33 x2 rec5 x1 S p1 t3 = some r → ∀ (H : Heap) (locs : List Loc) (ls : Array Slot), va_P D vwCl (mw cyI cyJ cyZ bd S) H → va_S (MA bd) s.heap H locs → lv_has ls 6 [(0, .ref (bd 0)), (1, .int p1), (2, .int x1), (3, .int x2)] → W p l e rl_X7_beginsNext s m args below meth c H locs 0 0 (MQ below (PoI D (mw cyI cyJ cyZ bd S) (MA bd) r) args s 0 0 (MA bd)) (F0 m 33 ls [.int t3]) := by
      intro t3 hf H locs ls hP hS hl
      unfold m_X7_beginsNext_J33 at hf
      refine lv_istore (lv' := [(4, .int t3), (0, .ref (bd 0)), (1, .int p1), (2, .int x1), (3, .int x2)]) hx hb dX7_beginsNext_33 hl (by decide) rfl (fun ls hl => ?_)
      refine lv_iconst (v := (nI 0)) hx hb dX7_beginsNext_35 (by decide) ?_
      refine lv_istore (lv' := [(5, .int (nI 0)), (4, .int t3), (0, .ref (bd 0)), (1, .int p1), (2, .int x1), (3, .int x2)]) hx hb dX7_beginsNext_36 hl (by decide) rfl (fun ls hl => ?_)
      refine zl2_ind (F := (m_X7_beginsNext_B38 x2 rec5 x1 S p1)) (R := r) (P := fun x4 x5 => ∀ (H : Heap) (locs : List Loc) (ls : Array Slot), va_P D vwCl (mw cyI cyJ cyZ bd S) H → va_S (MA bd) s.heap H locs → lv_has ls 6 [(0, .ref (bd 0)), (1, .int p1), (2, .int x1), (3, .int x2), (4, .int x4), (5, .int x5)] → W p l e rl_X7_beginsNext s m args below meth c H locs 0 0 (MQ below (PoI D (mw cyI cyJ cyZ bd S) (MA bd) r) args s 0 0 (MA bd)) (F0 m 38 ls [])) (fun rec38 ih38 x4 x5 hf H locs ls hP hS hl => ?_) FU t3 (nI 0) hf _ _ _ hP hS (lv_sub hl [2, 3, 4, 5, 1, 0] rfl)
      unfold m_X7_beginsNext_B38 at hf
      refine lv_iload hx hb dX7_beginsNext_38 (lv_at hl 5 rfl) ?_
      refine lv_bipush (v := (nI 32)) hx hb dX7_beginsNext_40 (by decide) ?_
      refine lv_icmp_ge (tgt := 98) hx hb dX7_beginsNext_42 (by decide) (fun hc => ?_) (fun hc => ?_)
      · have hf := ifp hf hc
        refine lv_iload hx hb dX7_beginsNext_98 (lv_at hl 4 rfl) ?_
        have hJ128 : ∀ (t6 : Int32), m_X7_beginsNext_J128 x2 rec5 t6 = some r → ∀ (H : Heap) (locs : List Loc) (ls : Array Slot), va_P D vwCl (mw cyI cyJ cyZ bd S) H → va_S (MA bd) s.heap H locs → lv_has ls 6 [(0, .ref (bd 0)), (1, .int p1), (3, .int x2)] → W p l e rl_X7_beginsNext s m args below meth c H locs 0 0 (MQ below (PoI D (mw cyI cyJ cyZ bd S) (MA bd) r) args s 0 0 (MA bd)) (F0 m 128 ls [.int t6]) := by
          intro t6 hf H locs ls hP hS hl
          unfold m_X7_beginsNext_J128 at hf
          refine lv_istore_n (lv' := [(2, .int t6), (0, .ref (bd 0)), (1, .int p1), (3, .int x2)]) hx hb dX7_beginsNext_128 rfl hl (by decide) rfl (fun ls hl => ?_)
          obtain ⟨x7, ex7, hf⟩ := zb_k hf
          refine lv_iinc (v := x7) (lv' := [(3, .int x7), (2, .int t6), (0, .ref (bd 0)), (1, .int p1)]) hx hb dX7_beginsNext_129 hl (k := 3) rfl (by rw [ex7]; rfl) (by decide) rfl (fun ls hl => ?_)
          refine lv_goto (tgt := 5) hx hb dX7_beginsNext_132 (by decide) ?_
          exact ih5 t6 x7 hf _ _ _ hP hS (lv_sub hl [2, 3, 1, 0] rfl)
        have hJ127 : m_X7_beginsNext_J127 x2 rec5 x1 = some r → ∀ (H : Heap) (locs : List Loc) (ls : Array Slot), va_P D vwCl (mw cyI cyJ cyZ bd S) H → va_S (MA bd) s.heap H locs → lv_has ls 6 [(0, .ref (bd 0)), (1, .int p1), (2, .int x1), (3, .int x2)] → W p l e rl_X7_beginsNext s m args below meth c H locs 0 0 (MQ below (PoI D (mw cyI cyJ cyZ bd S) (MA bd) r) args s 0 0 (MA bd)) (F0 m 127 ls []) := by
          intro  hf H locs ls hP hS hl
          unfold m_X7_beginsNext_J127 at hf
          refine lv_iload_n hx hb dX7_beginsNext_127 rfl (lv_at hl 2 rfl) ?_
          exact hJ128 x1 hf _ _ _ hP hS (lv_sub hl [0, 1, 3] rfl)
        refine lv_if_eq (tgt := 127) hx hb dX7_beginsNext_100 (by decide) (fun hc => ?_) (fun hc => ?_)
        · have hf := ifp hf hc
          exact hJ127  hf _ _ _ hP hS (lv_sub hl [0, 1, 2, 3] rfl)
        · have hf := ifn hf hc
          refine lv_iload_n hx hb dX7_beginsNext_103 rfl (lv_at hl 2 rfl) ?_
          refine lv_iconst (v := (-1)) hx hb dX7_beginsNext_104 (by decide) ?_
          have hJ123 : m_X7_beginsNext_J123 x2 rec5 = some r → ∀ (H : Heap) (locs : List Loc) (ls : Array Slot), va_P D vwCl (mw cyI cyJ cyZ bd S) H → va_S (MA bd) s.heap H locs → lv_has ls 6 [(0, .ref (bd 0)), (1, .int p1), (3, .int x2)] → W p l e rl_X7_beginsNext s m args below meth c H locs 0 0 (MQ below (PoI D (mw cyI cyJ cyZ bd S) (MA bd) r) args s 0 0 (MA bd)) (F0 m 123 ls []) := by
            intro  hf H locs ls hP hS hl
            unfold m_X7_beginsNext_J123 at hf
            refine lv_iload_n hx hb dX7_beginsNext_123 rfl (lv_at hl 2 rfl) ?_
            refine lv_goto (tgt := 128) hx hb dX7_beginsNext_124 (by decide) ?_
            exact hJ128 x2 hf _ _ _ hP hS (lv_sub hl [0, 1, 2] rfl)
          refine lv_icmp_eq (tgt := 123) hx hb dX7_beginsNext_105 (by decide) (fun hc => ?_) (fun hc => ?_)
          · have hf := ifp hf hc
            exact hJ123  hf _ _ _ hP hS (lv_sub hl [0, 1, 3] rfl)
          · have hf := ifn hf hc
            refine lv_aload_n hx hb dX7_beginsNext_108 rfl (lv_at hl 0 rfl) ?_
            refine va_get (D := D) (ci := 7) (v := .ref (bd 39)) (C := RX7) (T := TX7) (N := 48) hx hb hts hin7 hown hK hP 0 (mw_o (S := S)) rfl 45 (by decide) hfl126 (fun _ h9 => h9) mw_f45 dX7_beginsNext_109 ?_
            refine lv_iload_n hx hb dX7_beginsNext_112 rfl (lv_at hl 3 rfl) ?_
            obtain ⟨hin, hf⟩ := zg_k hf
            refine va_iald hx hb hK hP 39 0 (mw_a45 (S := S)) rfl (inb_k hin) dX7_beginsNext_113 ?_
            refine lv_aload_n hx hb dX7_beginsNext_114 rfl (lv_at hl 0 rfl) ?_
            refine va_get (D := D) (ci := 7) (v := .ref (bd 39)) (C := RX7) (T := TX7) (N := 48) hx hb hts hin7 hown hK hP 0 (mw_o (S := S)) rfl 45 (by decide) hfl126 (fun _ h9 => h9) mw_f45 dX7_beginsNext_115 ?_
            refine lv_iload_n hx hb dX7_beginsNext_118 rfl (lv_at hl 2 rfl) ?_
            obtain ⟨hin, hf⟩ := zg_k hf
            refine va_iald hx hb hK hP 39 0 (mw_a45 (S := S)) rfl (inb_k hin) dX7_beginsNext_119 ?_
            refine lv_icmp_lt (tgt := 127) hx hb dX7_beginsNext_120 (by decide) (fun hc => ?_) (fun hc => ?_)
            · have hf := ifp hf hc
              exact hJ127  hf _ _ _ hP hS (lv_sub hl [0, 1, 2, 3] rfl)
            · have hf := ifn hf hc
              exact hJ123  hf _ _ _ hP hS (lv_sub hl [0, 1, 3] rfl)
      · have hf := ifn hf hc
        refine lv_iload hx hb dX7_beginsNext_45 (lv_at hl 4 rfl) ?_
        have hJ90 : ∀ (t8 : Int32), m_X7_beginsNext_J90 x5 rec38 t8 = some r → ∀ (H : Heap) (locs : List Loc) (ls : Array Slot), va_P D vwCl (mw cyI cyJ cyZ bd S) H → va_S (MA bd) s.heap H locs → lv_has ls 6 [(0, .ref (bd 0)), (1, .int p1), (2, .int x1), (3, .int x2), (5, .int x5)] → W p l e rl_X7_beginsNext s m args below meth c H locs 0 0 (MQ below (PoI D (mw cyI cyJ cyZ bd S) (MA bd) r) args s 0 0 (MA bd)) (F0 m 90 ls [.int t8]) := by
          intro t8 hf H locs ls hP hS hl
          unfold m_X7_beginsNext_J90 at hf
          refine lv_istore (lv' := [(4, .int t8), (0, .ref (bd 0)), (1, .int p1), (2, .int x1), (3, .int x2), (5, .int x5)]) hx hb dX7_beginsNext_90 hl (by decide) rfl (fun ls hl => ?_)
          obtain ⟨x9, ex9, hf⟩ := zb_k hf
          refine lv_iinc (v := x9) (lv' := [(5, .int x9), (4, .int t8), (0, .ref (bd 0)), (1, .int p1), (2, .int x1), (3, .int x2)]) hx hb dX7_beginsNext_92 hl (k := 5) rfl (by rw [ex9]; rfl) (by decide) rfl (fun ls hl => ?_)
          refine lv_goto (tgt := 38) hx hb dX7_beginsNext_95 (by decide) ?_
          exact ih38 t8 x9 hf _ _ _ hP hS (lv_sub hl [2, 3, 4, 5, 1, 0] rfl)
        have hJ89 : m_X7_beginsNext_J89 x5 rec38 = some r → ∀ (H : Heap) (locs : List Loc) (ls : Array Slot), va_P D vwCl (mw cyI cyJ cyZ bd S) H → va_S (MA bd) s.heap H locs → lv_has ls 6 [(0, .ref (bd 0)), (1, .int p1), (2, .int x1), (3, .int x2), (5, .int x5)] → W p l e rl_X7_beginsNext s m args below meth c H locs 0 0 (MQ below (PoI D (mw cyI cyJ cyZ bd S) (MA bd) r) args s 0 0 (MA bd)) (F0 m 89 ls []) := by
          intro  hf H locs ls hP hS hl
          unfold m_X7_beginsNext_J89 at hf
          refine lv_iconst (v := (nI 0)) hx hb dX7_beginsNext_89 (by decide) ?_
          exact hJ90 (nI 0) hf _ _ _ hP hS (lv_sub hl [0, 1, 2, 3, 4] rfl)
        refine lv_if_eq (tgt := 89) hx hb dX7_beginsNext_47 (by decide) (fun hc => ?_) (fun hc => ?_)
        · have hf := ifp hf hc
          exact hJ89  hf _ _ _ hP hS (lv_sub hl [0, 1, 2, 3, 5] rfl)
        · have hf := ifn hf hc
          refine lv_aload_n hx hb dX7_beginsNext_50 rfl (lv_at hl 0 rfl) ?_
          refine va_get (D := D) (ci := 7) (v := .ref (bd 38)) (C := RX7) (T := TX7) (N := 48) hx hb hts hin7 hown hK hP 0 (mw_o (S := S)) rfl 44 (by decide) hfl123 (fun _ h9 => h9) mw_f44 dX7_beginsNext_51 ?_
          refine lv_iload_n hx hb dX7_beginsNext_54 rfl (lv_at hl 3 rfl) ?_
          obtain ⟨hin, hf⟩ := zg_k hf
          refine va_iald hx hb hK hP 38 0 (mw_a44 (S := S)) rfl (inb_k hin) dX7_beginsNext_55 ?_
          refine lv_iload hx hb dX7_beginsNext_56 (lv_at hl 5 rfl) ?_
          obtain ⟨x10, hc58, hf⟩ := zo_k hf
          refine cal_i (rnS (As := [.int (ri S 44 x2), .int x5]) (rest := []) ⟨hx, hb, hml, hown, hts⟩ (c_X7_has hAd  hc58) (va_cwS 2 hts gX7_beginsNext_X7_has rfl rfl rfl cdS_X7_has ⟨Nat.le_of_ble_eq_true rfl, Nat.le_of_ble_eq_true rfl⟩) hP hK hN rfl hl.1 rfl (Nat.le_of_ble_eq_true rfl) dX7_beginsNext_58 ⟨Nat.zero_le _, Nat.zero_le _⟩) hS (fun H locs hP hS => ?_)
          have hJ85 : m_X7_beginsNext_J85 x5 rec38 = some r → ∀ (H : Heap) (locs : List Loc) (ls : Array Slot), va_P D vwCl (mw cyI cyJ cyZ bd S) H → va_S (MA bd) s.heap H locs → lv_has ls 6 [(0, .ref (bd 0)), (1, .int p1), (2, .int x1), (3, .int x2), (5, .int x5)] → W p l e rl_X7_beginsNext s m args below meth c H locs 0 0 (MQ below (PoI D (mw cyI cyJ cyZ bd S) (MA bd) r) args s 0 0 (MA bd)) (F0 m 85 ls []) := by
            intro  hf H locs ls hP hS hl
            unfold m_X7_beginsNext_J85 at hf
            refine lv_iconst (v := (nI 1)) hx hb dX7_beginsNext_85 (by decide) ?_
            refine lv_goto (tgt := 90) hx hb dX7_beginsNext_86 (by decide) ?_
            exact hJ90 (nI 1) hf _ _ _ hP hS (lv_sub hl [0, 1, 2, 3, 4] rfl)
          refine lv_if_eq (tgt := 85) hx hb dX7_beginsNext_61 (by decide) (fun hc => ?_) (fun hc => ?_)
          · have hf := ifp hf hc
            exact hJ85  hf _ _ _ hP hS (lv_sub hl [0, 1, 2, 3, 5] rfl)
          · have hf := ifn hf hc
            refine lv_aload_n hx hb dX7_beginsNext_64 rfl (lv_at hl 0 rfl) ?_
            refine va_get (D := D) (ci := 7) (v := .ref (bd 40)) (C := RX7) (T := TX7) (N := 48) hx hb hts hin7 hown hK hP 0 (mw_o (S := S)) rfl 46 (by decide) hfl129 (fun _ h9 => h9) mw_f46 dX7_beginsNext_65 ?_
            refine lv_iload hx hb dX7_beginsNext_68 (lv_at hl 5 rfl) ?_
            obtain ⟨hin, hf⟩ := zg_k hf
            refine va_iald hx hb hK hP 40 0 (mw_a46 (S := S)) rfl (inb_k hin) dX7_beginsNext_70 ?_
            refine lv_if_le (tgt := 89) hx hb dX7_beginsNext_71 (by decide) (fun hc => ?_) (fun hc => ?_)
            · have hf := ifp hf hc
              exact hJ89  hf _ _ _ hP hS (lv_sub hl [0, 1, 2, 3, 5] rfl)
            · have hf := ifn hf hc
              refine lv_aload_n hx hb dX7_beginsNext_74 rfl (lv_at hl 0 rfl) ?_
              refine va_get (D := D) (ci := 7) (v := .ref (bd 40)) (C := RX7) (T := TX7) (N := 48) hx hb hts hin7 hown hK hP 0 (mw_o (S := S)) rfl 46 (by decide) hfl129 (fun _ h9 => h9) mw_f46 dX7_beginsNext_75 ?_
              refine lv_iload hx hb dX7_beginsNext_78 (lv_at hl 5 rfl) ?_
              obtain ⟨hin, hf⟩ := zg_k hf
              refine va_iald hx hb hK hP 40 0 (mw_a46 (S := S)) rfl (inb_k hin) dX7_beginsNext_80 ?_
              refine lv_iload_n hx hb dX7_beginsNext_81 rfl (lv_at hl 1 rfl) ?_
              refine lv_icmp_gt (tgt := 89) hx hb dX7_beginsNext_82 (by decide) (fun hc => ?_) (fun hc => ?_)
              · have hf := ifp hf hc
                exact hJ89  hf _ _ _ hP hS (lv_sub hl [0, 1, 2, 3, 5] rfl)
              · have hf := ifn hf hc
                exact hJ85  hf _ _ _ hP hS (lv_sub hl [0, 1, 2, 3, 5] rfl)
    have hJ32 : m_X7_beginsNext_J32 x2 rec5 x1 S p1 = some r → ∀ (H : Heap) (locs : List Loc) (ls : Array Slot), va_P D vwCl (mw cyI cyJ cyZ bd S) H → va_S (MA bd) s.heap H locs → lv_has ls 6 [(0, .ref (bd 0)), (1, .int p1), (2, .int x1), (3, .int x2)] → W p l e rl_X7_beginsNext s m args below meth c H locs 0 0 (MQ below (PoI D (mw cyI cyJ cyZ bd S) (MA bd) r) args s 0 0 (MA bd)) (F0 m 32 ls []) := by
      intro  hf H locs ls hP hS hl
      unfold m_X7_beginsNext_J32 at hf
      refine lv_iconst (v := (nI 0)) hx hb dX7_beginsNext_32 (by decide) ?_
      exact hJ33 (nI 0) hf _ _ _ hP hS (lv_sub hl [0, 1, 2, 3] rfl)
    refine lv_icmp_ne (tgt := 32) hx hb dX7_beginsNext_16 (by decide) (fun hc => ?_) (fun hc => ?_)
    · have hf := ifn hf hc
      exact hJ32  hf _ _ _ hP hS (lv_sub hl [0, 1, 2, 3] rfl)
    · have hf := ifp hf hc
      refine lv_aload_n hx hb dX7_beginsNext_19 rfl (lv_at hl 0 rfl) ?_
      refine va_get (D := D) (ci := 7) (v := .ref (bd 40)) (C := RX7) (T := TX7) (N := 48) hx hb hts hin7 hown hK hP 0 (mw_o (S := S)) rfl 46 (by decide) hfl129 (fun _ h9 => h9) mw_f46 dX7_beginsNext_20 ?_
      refine lv_iload_n hx hb dX7_beginsNext_23 rfl (lv_at hl 3 rfl) ?_
      obtain ⟨hin, hf⟩ := zg_k hf
      refine va_iald hx hb hK hP 40 0 (mw_a46 (S := S)) rfl (inb_k hin) dX7_beginsNext_24 ?_
      refine lv_if_ne (tgt := 32) hx hb dX7_beginsNext_25 (by decide) (fun hc => ?_) (fun hc => ?_)
      · have hf := ifn hf hc
        exact hJ32  hf _ _ _ hP hS (lv_sub hl [0, 1, 2, 3] rfl)
      · have hf := ifp hf hc
        refine lv_iconst (v := (nI 1)) hx hb dX7_beginsNext_28 (by decide) ?_
        refine lv_goto (tgt := 33) hx hb dX7_beginsNext_29 (by decide) ?_
        exact hJ33 (nI 1) hf _ _ _ hP hS (lv_sub hl [0, 1, 2, 3] rfl)
set_option maxHeartbeats 4000000 in
set_option maxRecDepth 100000 in
theorem c_X7_isIn {l : Launch} {D : va_G} {cyI cyJ cyZ : ClassId} {bd : Nat → Nat}  (hAd : AdOK 41 bd)  {S : St} {p0 : Int32} {p1 : Int32} {p2 : Int32} {r : Int32} (hf : m_X7_isIn S p0 p1 p2 = some r) : Met l yX7_isIn wsX7_isIn rl_X7_isIn (PreW D [(cyI, .int), (cyJ, .long), (cyZ, .boolean)] (mw cyI cyJ cyZ bd S) [.int p0, .int p1, .int p2]) (PoI D (mw cyI cyJ cyZ bd S) (MA bd) r) 0 0 (MA bd) := by
  refine met_go (cc := cX7_isIn) (maxL := 3) (ret := (some .boolean)) (by decide) rfl (Nat.le_of_ble_eq_true rfl) ?_
  intro p e s m args below meth c ls hx hb hr hml hts hown hlk hP hK hN hl
  have hown : s.vm.findClass RX7 = some m.cls := hown
  have hS : va_S (MA bd) s.heap s.heap [] := va_S.rf
  have hl : lv_has ls 3 [(0, .int p0), (1, .int p1), (2, .int p2)] := hl
  unfold m_X7_isIn at hf
  refine lv_iload_n hx hb dX7_isIn_0 rfl (lv_at hl 0 rfl) ?_
  refine lv_iload_n hx hb dX7_isIn_1 rfl (lv_at hl 1 rfl) ?_
  refine lv_icmp_lt (tgt := 14) hx hb dX7_isIn_2 (by decide) (fun hc => ?_) (fun hc => ?_)
  · have hf := ifp hf hc
    refine lv_iconst (v := (nI 0)) hx hb dX7_isIn_14 (by decide) ?_
    exact fin_z hx hb hr hlk hS hP rfl (Option.some.inj hf) dX7_isIn_15
  · have hf := ifn hf hc
    refine lv_iload_n hx hb dX7_isIn_5 rfl (lv_at hl 0 rfl) ?_
    refine lv_iload_n hx hb dX7_isIn_6 rfl (lv_at hl 2 rfl) ?_
    refine lv_icmp_gt (tgt := 14) hx hb dX7_isIn_7 (by decide) (fun hc => ?_) (fun hc => ?_)
    · have hf := ifp hf hc
      refine lv_iconst (v := (nI 0)) hx hb dX7_isIn_14 (by decide) ?_
      exact fin_z hx hb hr hlk hS hP rfl (Option.some.inj hf) dX7_isIn_15
    · have hf := ifn hf hc
      refine lv_iconst (v := (nI 1)) hx hb dX7_isIn_10 (by decide) ?_
      refine lv_goto (tgt := 15) hx hb dX7_isIn_11 (by decide) ?_
      exact fin_z hx hb hr hlk hS hP rfl (Option.some.inj hf) dX7_isIn_15
set_option maxHeartbeats 4000000 in
set_option maxRecDepth 100000 in
theorem c_X7_isTarget {l : Launch} {D : va_G} {cyI cyJ cyZ : ClassId} {bd : Nat → Nat}  (hAd : AdOK 41 bd)  {S : St} {p0 : Int32} {r : Int32} (hf : m_X7_isTarget S p0 = some r) : Met l yX7_isTarget wsX7_isTarget rl_X7_isTarget (PreW D [(cyI, .int), (cyJ, .long), (cyZ, .boolean)] (mw cyI cyJ cyZ bd S) [.int p0]) (PoI D (mw cyI cyJ cyZ bd S) (MA bd) r) 0 0 (MA bd) := by
  refine met_go (cc := cX7_isTarget) (maxL := 1) (ret := (some .boolean)) (by decide) rfl (Nat.le_of_ble_eq_true rfl) ?_
  intro p e s m args below meth c ls hx hb hr hml hts hown hlk hP hK hN hl
  have hown : s.vm.findClass RX7 = some m.cls := hown
  have hS : va_S (MA bd) s.heap s.heap [] := va_S.rf
  have hl : lv_has ls 1 [(0, .int p0)] := hl
  unfold m_X7_isTarget at hf
  refine lv_iload_n hx hb dX7_isTarget_0 rfl (lv_at hl 0 rfl) ?_
  refine lv_iconst (v := (nI 0)) hx hb dX7_isTarget_1 (by decide) ?_
  refine lv_bipush (v := (nI 15)) hx hb dX7_isTarget_2 (by decide) ?_
  obtain ⟨x1, hc4, hf⟩ := zo_k hf
  refine cal_i (rnS (As := [.int p0, .int (nI 0), .int (nI 15)]) (rest := []) ⟨hx, hb, hml, hown, hts⟩ (c_X7_isIn hAd  hc4) (va_cwS 3 hts gX7_isTarget_X7_isIn rfl rfl rfl cdS_X7_isIn ⟨Nat.le_of_ble_eq_true rfl, Nat.le_of_ble_eq_true rfl⟩) hP hK hN rfl hl.1 rfl (Nat.le_of_ble_eq_true rfl) dX7_isTarget_4 ⟨Nat.zero_le _, Nat.zero_le _⟩) hS (fun H locs hP hS => ?_)
  obtain ⟨hbz, hf⟩ := zg_k hf
  exact fin_z hx hb hr hlk hS hP (bz_n hbz) (Option.some.inj hf) dX7_isTarget_7
set_option maxHeartbeats 4000000 in
set_option maxRecDepth 100000 in
theorem c_X7_isNode {l : Launch} {D : va_G} {cyI cyJ cyZ : ClassId} {bd : Nat → Nat}  (hAd : AdOK 41 bd)  {S : St} {p0 : Int32} {p1 : Int32} {r : Int32} (hf : m_X7_isNode S p0 p1 = some r) : Met l yX7_isNode wsX7_isNode rl_X7_isNode (PreW D [(cyI, .int), (cyJ, .long), (cyZ, .boolean)] (mw cyI cyJ cyZ bd S) [.int p0, .int p1]) (PoI D (mw cyI cyJ cyZ bd S) (MA bd) r) 0 0 (MA bd) := by
  refine met_go (cc := cX7_isNode) (maxL := 2) (ret := (some .boolean)) (by decide) rfl (Nat.le_of_ble_eq_true rfl) ?_
  intro p e s m args below meth c ls hx hb hr hml hts hown hlk hP hK hN hl
  have hown : s.vm.findClass RX7 = some m.cls := hown
  have hS : va_S (MA bd) s.heap s.heap [] := va_S.rf
  have hl : lv_has ls 2 [(0, .int p0), (1, .int p1)] := hl
  unfold m_X7_isNode at hf
  refine lv_iload_n hx hb dX7_isNode_0 rfl (lv_at hl 0 rfl) ?_
  obtain ⟨x1, hc1, hf⟩ := zo_k hf
  refine cal_i (rnS (As := [.int p0]) (rest := []) ⟨hx, hb, hml, hown, hts⟩ (c_X7_isTarget hAd  hc1) (va_cwS 1 hts gX7_isNode_X7_isTarget rfl rfl rfl cdS_X7_isTarget ⟨Nat.le_of_ble_eq_true rfl, Nat.le_of_ble_eq_true rfl⟩) hP hK hN rfl hl.1 rfl (Nat.le_of_ble_eq_true rfl) dX7_isNode_1 ⟨Nat.zero_le _, Nat.zero_le _⟩) hS (fun H locs hP hS => ?_)
  refine lv_if_eq (tgt := 20) hx hb dX7_isNode_4 (by decide) (fun hc => ?_) (fun hc => ?_)
  · have hf := ifp hf hc
    refine lv_iconst (v := (nI 0)) hx hb dX7_isNode_20 (by decide) ?_
    exact fin_z hx hb hr hlk hS hP rfl (Option.some.inj hf) dX7_isNode_21
  · have hf := ifn hf hc
    refine lv_iload_n hx hb dX7_isNode_7 rfl (lv_at hl 1 rfl) ?_
    refine lv_iconst (v := (nI 0)) hx hb dX7_isNode_8 (by decide) ?_
    refine lv_iconst (v := (nI 1)) hx hb dX7_isNode_9 (by decide) ?_
    obtain ⟨x2, hc10, hf⟩ := zo_k hf
    refine cal_i (rnS (As := [.int p1, .int (nI 0), .int (nI 1)]) (rest := []) ⟨hx, hb, hml, hown, hts⟩ (c_X7_isIn hAd  hc10) (va_cwS 3 hts gX7_isNode_X7_isIn rfl rfl rfl cdS_X7_isIn ⟨Nat.le_of_ble_eq_true rfl, Nat.le_of_ble_eq_true rfl⟩) hP hK hN rfl hl.1 rfl (Nat.le_of_ble_eq_true rfl) dX7_isNode_10 ⟨Nat.zero_le _, Nat.zero_le _⟩) hS (fun H locs hP hS => ?_)
    refine lv_if_eq (tgt := 20) hx hb dX7_isNode_13 (by decide) (fun hc => ?_) (fun hc => ?_)
    · have hf := ifp hf hc
      refine lv_iconst (v := (nI 0)) hx hb dX7_isNode_20 (by decide) ?_
      exact fin_z hx hb hr hlk hS hP rfl (Option.some.inj hf) dX7_isNode_21
    · have hf := ifn hf hc
      refine lv_iconst (v := (nI 1)) hx hb dX7_isNode_16 (by decide) ?_
      refine lv_goto (tgt := 21) hx hb dX7_isNode_17 (by decide) ?_
      exact fin_z hx hb hr hlk hS hP rfl (Option.some.inj hf) dX7_isNode_21
set_option maxHeartbeats 4000000 in
set_option maxRecDepth 100000 in
theorem c_X7_goes {l : Launch} {D : va_G} {cyI cyJ cyZ : ClassId} {bd : Nat → Nat}  (hAd : AdOK 41 bd)  {S : St} {p1 : Int32} {r : Int32} {SZ : St} (hf : m_X7_goes S p1 = some (r, SZ)) : Met l yX7_goes wsX7_goes rl_X7_goes (PreW D [(cyI, .int), (cyJ, .long), (cyZ, .boolean)] (mw cyI cyJ cyZ bd S) [.ref (bd 0), .int p1]) (PoI D (mw cyI cyJ cyZ bd SZ) (MA bd) r) 0 0 (MA bd) := by
  refine met_go (cc := cX7_goes) (maxL := 2) (ret := (some .boolean)) (by decide) rfl (Nat.le_of_ble_eq_true rfl) ?_
  intro p e s m args below meth c ls hx hb hr hml hts hown hlk hP hK hN hl
  have hown : s.vm.findClass RX7 = some m.cls := hown
  have hS : va_S (MA bd) s.heap s.heap [] := va_S.rf
  have hl : lv_has ls 2 [(0, .ref (bd 0)), (1, .int p1)] := hl
  have hin7 : ∀ w ∈ wsX70, w ∈ wsX7_goes := by decide +kernel
  have hfl132 := hts (.fieldLink RX7 132 "MakewheelModel" "thrown" "I") (by decide +kernel)
  unfold m_X7_goes at hf
  refine lv_aload_n hx hb dX7_goes_0 rfl (lv_at hl 0 rfl) ?_
  refine lv_iload_n hx hb dX7_goes_1 rfl (lv_at hl 1 rfl) ?_
  refine va_put (D := D) (ci := 7) (v := .int p1) (ty := .int) (C := RX7) (T := TX7) (N := 48) hx hb hts hin7 tyX7 tyX7_ok nmX7 hown hK hP (mw_D hAd) hS 0 (mw_o (S := S)) rfl 47 (by decide) hfl132 (fun _ h9 => h9) rfl (by decide +kernel) rfl rfl (Nat.le_of_ble_eq_true rfl) dX7_goes_2 (fun H locs hP _ hS => ?_)
  have hP : va_P D vwCl (mw cyI cyJ cyZ bd (wi S 47 0 p1)) H := by rw [← mw_s47]; exact hP
  obtain ⟨S1, eS1, hf⟩ := zb_k hf
  rw [← eS1] at hP
  refine lv_iload_n hx hb dX7_goes_5 rfl (lv_at hl 1 rfl) ?_
  refine lv_if_ne (tgt := 13) hx hb dX7_goes_6 (by decide) (fun hc => ?_) (fun hc => ?_)
  · have hf := ifn hf hc
    refine lv_iconst (v := (nI 0)) hx hb dX7_goes_13 (by decide) ?_
    cases Option.some.inj hf
    exact fin_z hx hb hr hlk hS hP rfl rfl dX7_goes_14
  · have hf := ifp hf hc
    refine lv_iconst (v := (nI 1)) hx hb dX7_goes_9 (by decide) ?_
    refine lv_goto (tgt := 14) hx hb dX7_goes_10 (by decide) ?_
    cases Option.some.inj hf
    exact fin_z hx hb hr hlk hS hP rfl rfl dX7_goes_14
set_option maxHeartbeats 4000000 in
set_option maxRecDepth 100000 in
theorem c_X7_ruleOf {l : Launch} {D : va_G} {cyI cyJ cyZ : ClassId} {bd : Nat → Nat}  (hAd : AdOK 41 bd)  {S : St} {p1 : Int32} {r : Int64} (hf : m_X7_ruleOf S p1 = some r) : Met l yX7_ruleOf wsX7_ruleOf rl_X7_ruleOf (PreW D [(cyI, .int), (cyJ, .long), (cyZ, .boolean)] (mw cyI cyJ cyZ bd S) [.ref (bd 0), .int p1]) (PoL D (mw cyI cyJ cyZ bd S) (MA bd) r) 0 0 (MA bd) := by
  refine met_go (cc := cX7_ruleOf) (maxL := 5) (ret := (some .long)) (by decide) rfl (Nat.le_of_ble_eq_true rfl) ?_
  intro p e s m args below meth c ls hx hb hr hml hts hown hlk hP hK hN hl
  have hown : s.vm.findClass RX7 = some m.cls := hown
  have hS : va_S (MA bd) s.heap s.heap [] := va_S.rf
  have hl : lv_has ls 5 [(0, .ref (bd 0)), (1, .int p1)] := hl
  have hin7 : ∀ w ∈ wsX70, w ∈ wsX7_ruleOf := by decide +kernel
  have hfl13 := hts (.fieldLink RX7 13 "MakewheelModel" "kinds" "[I") (by decide +kernel)
  have hfl16 := hts (.fieldLink RX7 16 "MakewheelModel" "numbers" "[I") (by decide +kernel)
  have hfl19 := hts (.fieldLink RX7 19 "MakewheelModel" "salts" "[I") (by decide +kernel)
  have hfl25 := hts (.fieldLink RX7 25 "MakewheelModel" "many" "[I") (by decide +kernel)
  have hfl28 := hts (.fieldLink RX7 28 "MakewheelModel" "whats" "[I") (by decide +kernel)
  have hfl31 := hts (.fieldLink RX7 31 "MakewheelModel" "whiches" "[I") (by decide +kernel)
  unfold m_X7_ruleOf at hf
  refine lv_aload_n hx hb dX7_ruleOf_0 rfl (lv_at hl 0 rfl) ?_
  refine va_get (D := D) (ci := 7) (v := .ref (bd 2)) (C := RX7) (T := TX7) (N := 48) hx hb hts hin7 hown hK hP 0 (mw_o (S := S)) rfl 1 (by decide) hfl13 (fun _ h9 => h9) mw_f1 dX7_ruleOf_1 ?_
  refine lv_iload_n hx hb dX7_ruleOf_4 rfl (lv_at hl 1 rfl) ?_
  obtain ⟨hin, hf⟩ := zg_k hf
  refine va_iald hx hb hK hP 2 0 (mw_a1 (S := S)) rfl (inb_k hin) dX7_ruleOf_5 ?_
  refine lv_i2l hx hb dX7_ruleOf_6 rfl ?_
  refine lv_lconst (v := 1) hx hb dX7_ruleOf_7 rfl ?_
  refine lv_ladd hx hb dX7_ruleOf_8 ?_
  refine lv_ldc2 (v := 8) hx hb hown (hts (.constantLong RX7 157 8) (by decide +kernel)) dX7_ruleOf_9 ?_
  refine lv_aload_n hx hb dX7_ruleOf_12 rfl (lv_at hl 0 rfl) ?_
  refine va_get (D := D) (ci := 7) (v := .ref (bd 3)) (C := RX7) (T := TX7) (N := 48) hx hb hts hin7 hown hK hP 0 (mw_o (S := S)) rfl 2 (by decide) hfl16 (fun _ h9 => h9) mw_f2 dX7_ruleOf_13 ?_
  refine lv_iload_n hx hb dX7_ruleOf_16 rfl (lv_at hl 1 rfl) ?_
  obtain ⟨hin, hf⟩ := zg_k hf
  refine va_iald hx hb hK hP 3 0 (mw_a2 (S := S)) rfl (inb_k hin) dX7_ruleOf_17 ?_
  refine lv_i2l hx hb dX7_ruleOf_18 rfl ?_
  refine lv_lmul hx hb dX7_ruleOf_19 ?_
  refine lv_ladd hx hb dX7_ruleOf_20 ?_
  refine lv_ldc2 (v := 8192) hx hb hown (hts (.constantLong RX7 159 8192) (by decide +kernel)) dX7_ruleOf_21 ?_
  refine lv_aload_n hx hb dX7_ruleOf_24 rfl (lv_at hl 0 rfl) ?_
  refine va_get (D := D) (ci := 7) (v := .ref (bd 4)) (C := RX7) (T := TX7) (N := 48) hx hb hts hin7 hown hK hP 0 (mw_o (S := S)) rfl 3 (by decide) hfl19 (fun _ h9 => h9) mw_f3 dX7_ruleOf_25 ?_
  refine lv_iload_n hx hb dX7_ruleOf_28 rfl (lv_at hl 1 rfl) ?_
  obtain ⟨hin, hf⟩ := zg_k hf
  refine va_iald hx hb hK hP 4 0 (mw_a3 (S := S)) rfl (inb_k hin) dX7_ruleOf_29 ?_
  refine lv_i2l hx hb dX7_ruleOf_30 rfl ?_
  refine lv_lmul hx hb dX7_ruleOf_31 ?_
  refine lv_ladd hx hb dX7_ruleOf_32 ?_
  refine lv_ldc2 (v := 8388608) hx hb hown (hts (.constantLong RX7 161 8388608) (by decide +kernel)) dX7_ruleOf_33 ?_
  refine lv_aload_n hx hb dX7_ruleOf_36 rfl (lv_at hl 0 rfl) ?_
  refine va_get (D := D) (ci := 7) (v := .ref (bd 6)) (C := RX7) (T := TX7) (N := 48) hx hb hts hin7 hown hK hP 0 (mw_o (S := S)) rfl 5 (by decide) hfl25 (fun _ h9 => h9) mw_f5 dX7_ruleOf_37 ?_
  refine lv_iload_n hx hb dX7_ruleOf_40 rfl (lv_at hl 1 rfl) ?_
  obtain ⟨hin, hf⟩ := zg_k hf
  refine va_iald hx hb hK hP 6 0 (mw_a5 (S := S)) rfl (inb_k hin) dX7_ruleOf_41 ?_
  refine lv_i2l hx hb dX7_ruleOf_42 rfl ?_
  refine lv_lmul hx hb dX7_ruleOf_43 ?_
  refine lv_ladd hx hb dX7_ruleOf_44 ?_
  refine lv_topl (fun x1 ex1 => ?_)
  have hf := zb_x hf ex1
  refine lv_lstore_n (lv' := [(2, .long x1), (0, .ref (bd 0)), (1, .int p1)]) hx hb dX7_ruleOf_45 rfl hl (by decide) rfl (fun ls hl => ?_)
  refine lv_iconst (v := (nI 0)) hx hb dX7_ruleOf_46 (by decide) ?_
  refine lv_istore (lv' := [(4, .int (nI 0)), (2, .long x1), (0, .ref (bd 0)), (1, .int p1)]) hx hb dX7_ruleOf_47 hl (by decide) rfl (fun ls hl => ?_)
  refine zl2_ind (F := (m_X7_ruleOf_B49 p1 S)) (R := r) (P := fun x2 x3 => ∀ (H : Heap) (locs : List Loc) (ls : Array Slot), va_P D vwCl (mw cyI cyJ cyZ bd S) H → va_S (MA bd) s.heap H locs → lv_has ls 5 [(0, .ref (bd 0)), (1, .int p1), (2, .long x2), (4, .int x3)] → W p l e rl_X7_ruleOf s m args below meth c H locs 0 0 (MQ below (PoL D (mw cyI cyJ cyZ bd S) (MA bd) r) args s 0 0 (MA bd)) (F0 m 49 ls [])) (fun rec49 ih49 x2 x3 hf H locs ls hP hS hl => ?_) FU x1 (nI 0) hf _ _ _ hP hS (lv_sub hl [2, 3, 1, 0] rfl)
  unfold m_X7_ruleOf_B49 at hf
  refine lv_iload hx hb dX7_ruleOf_49 (lv_at hl 3 rfl) ?_
  refine lv_aload_n hx hb dX7_ruleOf_51 rfl (lv_at hl 0 rfl) ?_
  refine va_get (D := D) (ci := 7) (v := .ref (bd 6)) (C := RX7) (T := TX7) (N := 48) hx hb hts hin7 hown hK hP 0 (mw_o (S := S)) rfl 5 (by decide) hfl25 (fun _ h9 => h9) mw_f5 dX7_ruleOf_52 ?_
  refine lv_iload_n hx hb dX7_ruleOf_55 rfl (lv_at hl 1 rfl) ?_
  obtain ⟨hin, hf⟩ := zg_k hf
  refine va_iald hx hb hK hP 6 0 (mw_a5 (S := S)) rfl (inb_k hin) dX7_ruleOf_56 ?_
  refine lv_icmp_ge (tgt := 105) hx hb dX7_ruleOf_57 (by decide) (fun hc => ?_) (fun hc => ?_)
  · have hf := ifp hf hc
    refine lv_lload_n hx hb dX7_ruleOf_105 rfl (lv_at hl 2 rfl) ?_
    exact fin_l hx hb hr hlk hS hP (Option.some.inj hf) dX7_ruleOf_106
  · have hf := ifn hf hc
    refine lv_lload_n hx hb dX7_ruleOf_60 rfl (lv_at hl 2 rfl) ?_
    refine lv_aload_n hx hb dX7_ruleOf_61 rfl (lv_at hl 0 rfl) ?_
    refine va_get (D := D) (ci := 7) (v := .ref (bd 7)) (C := RX7) (T := TX7) (N := 48) hx hb hts hin7 hown hK hP 0 (mw_o (S := S)) rfl 6 (by decide) hfl28 (fun _ h9 => h9) mw_f6 dX7_ruleOf_62 ?_
    refine lv_iconst (v := (nI 4)) hx hb dX7_ruleOf_65 (by decide) ?_
    refine lv_iload_n hx hb dX7_ruleOf_66 rfl (lv_at hl 1 rfl) ?_
    refine lv_imul hx hb dX7_ruleOf_67 ?_
    refine lv_iload hx hb dX7_ruleOf_68 (lv_at hl 3 rfl) ?_
    refine lv_iadd hx hb dX7_ruleOf_70 ?_
    obtain ⟨hin, hf⟩ := zg_k hf
    refine va_iald hx hb hK hP 7 0 (mw_a6 (S := S)) rfl (inb_k hin) dX7_ruleOf_71 ?_
    refine lv_bipush (v := (nI 32)) hx hb dX7_ruleOf_72 (by decide) ?_
    refine lv_imul hx hb dX7_ruleOf_74 ?_
    refine lv_aload_n hx hb dX7_ruleOf_75 rfl (lv_at hl 0 rfl) ?_
    refine va_get (D := D) (ci := 7) (v := .ref (bd 8)) (C := RX7) (T := TX7) (N := 48) hx hb hts hin7 hown hK hP 0 (mw_o (S := S)) rfl 7 (by decide) hfl31 (fun _ h9 => h9) mw_f7 dX7_ruleOf_76 ?_
    refine lv_iconst (v := (nI 4)) hx hb dX7_ruleOf_79 (by decide) ?_
    refine lv_iload_n hx hb dX7_ruleOf_80 rfl (lv_at hl 1 rfl) ?_
    refine lv_imul hx hb dX7_ruleOf_81 ?_
    refine lv_iload hx hb dX7_ruleOf_82 (lv_at hl 3 rfl) ?_
    refine lv_iadd hx hb dX7_ruleOf_84 ?_
    obtain ⟨hin, hf⟩ := zg_k hf
    refine va_iald hx hb hK hP 8 0 (mw_a7 (S := S)) rfl (inb_k hin) dX7_ruleOf_85 ?_
    refine lv_iadd hx hb dX7_ruleOf_86 ?_
    refine lv_i2l hx hb dX7_ruleOf_87 rfl ?_
    refine lv_bipush (v := (nI 26)) hx hb dX7_ruleOf_88 (by decide) ?_
    refine lv_bipush (v := (nI 7)) hx hb dX7_ruleOf_90 (by decide) ?_
    refine lv_iload hx hb dX7_ruleOf_92 (lv_at hl 3 rfl) ?_
    refine lv_imul hx hb dX7_ruleOf_94 ?_
    refine lv_iadd hx hb dX7_ruleOf_95 ?_
    refine lv_lshl hx hb dX7_ruleOf_96 rfl ?_
    refine lv_lor hx hb dX7_ruleOf_97 ?_
    refine lv_topl (fun x4 ex4 => ?_)
    have hf := zb_x hf ex4
    refine lv_lstore_n (lv' := [(2, .long x4), (0, .ref (bd 0)), (1, .int p1), (4, .int x3)]) hx hb dX7_ruleOf_98 rfl hl (by decide) rfl (fun ls hl => ?_)
    obtain ⟨x5, ex5, hf⟩ := zb_k hf
    refine lv_iinc (v := x5) (lv' := [(4, .int x5), (2, .long x4), (0, .ref (bd 0)), (1, .int p1)]) hx hb dX7_ruleOf_99 hl (k := 3) rfl (by rw [ex5]; rfl) (by decide) rfl (fun ls hl => ?_)
    refine lv_goto (tgt := 49) hx hb dX7_ruleOf_102 (by decide) ?_
    exact ih49 x4 x5 hf _ _ _ hP hS (lv_sub hl [2, 3, 1, 0] rfl)
set_option maxHeartbeats 4000000 in
set_option maxRecDepth 100000 in
theorem c_X7_pushes {l : Launch} {D : va_G} {cyI cyJ cyZ : ClassId} {bd : Nat → Nat}  (hAd : AdOK 41 bd)  {S : St} {p1 : Int32} {SZ : St} (hf : m_X7_pushes S p1 = some SZ) : Met l yX7_pushes wsX7_pushes rl_X7_pushes (PreW D [(cyI, .int), (cyJ, .long), (cyZ, .boolean)] (mw cyI cyJ cyZ bd S) [.ref (bd 0), .int p1]) (PoV D (mw cyI cyJ cyZ bd SZ) (MA bd)) 0 0 (MA bd) := by
  refine met_go (cc := cX7_pushes) (maxL := 4) (ret := none) (by decide) rfl (Nat.le_of_ble_eq_true rfl) ?_
  intro p e s m args below meth c ls hx hb hr hml hts hown hlk hP hK hN hl
  have hown : s.vm.findClass RX7 = some m.cls := hown
  have hS : va_S (MA bd) s.heap s.heap [] := va_S.rf
  have hl : lv_has ls 4 [(0, .ref (bd 0)), (1, .int p1)] := hl
  have hin7 : ∀ w ∈ wsX70, w ∈ wsX7_pushes := by decide +kernel
  have hfl99 := hts (.fieldLink RX7 99 "MakewheelModel" "pile" "[I") (by decide +kernel)
  have hfl165 := hts (.fieldLink RX7 165 "MakewheelModel" "height" "I") (by decide +kernel)
  have hfl84 := hts (.fieldLink RX7 84 "MakewheelModel" "looked" "[I") (by decide +kernel)
  have hfl96 := hts (.fieldLink RX7 96 "MakewheelModel" "counted" "[I") (by decide +kernel)
  have hfl108 := hts (.fieldLink RX7 108 "MakewheelModel" "reads" "[I") (by decide +kernel)
  have hfl105 := hts (.fieldLink RX7 105 "MakewheelModel" "ats" "[I") (by decide +kernel)
  have hfl44 := hts (.fieldLink RX7 44 "MakewheelModel" "isKept" "[Z") (by decide +kernel)
  have hfl102 := hts (.fieldLink RX7 102 "MakewheelModel" "compares" "[Z") (by decide +kernel)
  have hfl93 := hts (.fieldLink RX7 93 "MakewheelModel" "whys" "[I") (by decide +kernel)
  have hfl13 := hts (.fieldLink RX7 13 "MakewheelModel" "kinds" "[I") (by decide +kernel)
  have hfl47 := hts (.fieldLink RX7 47 "MakewheelModel" "keptRule" "[J") (by decide +kernel)
  have hfl51 := hts (.fieldLink RX7 51 "MakewheelModel" "keptTime" "[I") (by decide +kernel)
  have hfl22 := hts (.fieldLink RX7 22 "MakewheelModel" "times" "[I") (by decide +kernel)
  have hfl172 := hts (.fieldLink RX7 172 "MakewheelModel" "isPlain" "Z") (by decide +kernel)
  unfold m_X7_pushes at hf
  refine lv_aload_n hx hb dX7_pushes_0 rfl (lv_at hl 0 rfl) ?_
  refine va_get (D := D) (ci := 7) (v := .ref (bd 30)) (C := RX7) (T := TX7) (N := 48) hx hb hts hin7 hown hK hP 0 (mw_o (S := S)) rfl 35 (by decide) hfl99 (fun _ h9 => h9) mw_f35 dX7_pushes_1 ?_
  refine lv_aload_n hx hb dX7_pushes_4 rfl (lv_at hl 0 rfl) ?_
  refine va_get (D := D) (ci := 7) (v := .int (S.1 34 0)) (C := RX7) (T := TX7) (N := 48) hx hb hts hin7 hown hK hP 0 (mw_o (S := S)) rfl 34 (by decide) hfl165 (fun _ h9 => h9) mw_f34 dX7_pushes_5 ?_
  refine lv_iload_n hx hb dX7_pushes_8 rfl (lv_at hl 1 rfl) ?_
  obtain ⟨hin, hf⟩ := zg_k hf
  refine va_iast hx hb hK hP (mw_D hAd) hS 30 0 (mw_a35 (S := S)) rfl (inb_k hin) dX7_pushes_9 (fun H locs hP _ hS => ?_)
  have hP : va_P D vwCl (mw cyI cyJ cyZ bd (wi S 35 (Int32.toNatClampNeg (rs S 34)) p1)) H := by rw [← mw_s35]; exact hP
  obtain ⟨S1, eS1, hf⟩ := zb_k hf
  rw [← eS1] at hP
  refine lv_aload_n hx hb dX7_pushes_10 rfl (lv_at hl 0 rfl) ?_
  refine lv_dup hx hb dX7_pushes_11 rfl ?_
  refine va_get (D := D) (ci := 7) (v := .int (S1.1 34 0)) (C := RX7) (T := TX7) (N := 48) hx hb hts hin7 hown hK hP 0 (mw_o (S := S1)) rfl 34 (by decide) hfl165 (fun _ h9 => h9) mw_f34 dX7_pushes_12 ?_
  refine lv_iconst (v := (nI 1)) hx hb dX7_pushes_15 (by decide) ?_
  refine lv_iadd hx hb dX7_pushes_16 ?_
  refine va_put (D := D) (ci := 7) (v := .int (rs S1 34 + (nI 1))) (ty := .int) (C := RX7) (T := TX7) (N := 48) hx hb hts hin7 tyX7 tyX7_ok nmX7 hown hK hP (mw_D hAd) hS 0 (mw_o (S := S1)) rfl 34 (by decide) hfl165 (fun _ h9 => h9) rfl (by decide +kernel) rfl rfl (Nat.le_of_ble_eq_true rfl) dX7_pushes_17 (fun H locs hP _ hS => ?_)
  have hP : va_P D vwCl (mw cyI cyJ cyZ bd (wi S1 34 0 (rs S1 34 + (nI 1)))) H := by rw [← mw_s34]; exact hP
  obtain ⟨S2, eS2, hf⟩ := zb_k hf
  rw [← eS2] at hP
  refine lv_aload_n hx hb dX7_pushes_20 rfl (lv_at hl 0 rfl) ?_
  refine va_get (D := D) (ci := 7) (v := .ref (bd 25)) (C := RX7) (T := TX7) (N := 48) hx hb hts hin7 hown hK hP 0 (mw_o (S := S2)) rfl 29 (by decide) hfl84 (fun _ h9 => h9) mw_f29 dX7_pushes_21 ?_
  refine lv_iload_n hx hb dX7_pushes_24 rfl (lv_at hl 1 rfl) ?_
  refine lv_iconst (v := (nI 1)) hx hb dX7_pushes_25 (by decide) ?_
  obtain ⟨hin, hf⟩ := zg_k hf
  refine va_iast hx hb hK hP (mw_D hAd) hS 25 0 (mw_a29 (S := S2)) rfl (inb_k hin) dX7_pushes_26 (fun H locs hP _ hS => ?_)
  have hP : va_P D vwCl (mw cyI cyJ cyZ bd (wi S2 29 (Int32.toNatClampNeg p1) (nI 1))) H := by rw [← mw_s29]; exact hP
  obtain ⟨S3, eS3, hf⟩ := zb_k hf
  rw [← eS3] at hP
  refine lv_aload_n hx hb dX7_pushes_27 rfl (lv_at hl 0 rfl) ?_
  refine va_get (D := D) (ci := 7) (v := .ref (bd 29)) (C := RX7) (T := TX7) (N := 48) hx hb hts hin7 hown hK hP 0 (mw_o (S := S3)) rfl 33 (by decide) hfl96 (fun _ h9 => h9) mw_f33 dX7_pushes_28 ?_
  refine lv_iconst (v := (nI 3)) hx hb dX7_pushes_31 (by decide) ?_
  refine lv_dup2_11 hx hb dX7_pushes_32 rfl rfl ?_
  obtain ⟨hin, hf⟩ := zg_k hf
  refine va_iald hx hb hK hP 29 0 (mw_a33 (S := S3)) rfl (inb_k hin) dX7_pushes_33 ?_
  refine lv_iconst (v := (nI 1)) hx hb dX7_pushes_34 (by decide) ?_
  refine lv_iadd hx hb dX7_pushes_35 ?_
  obtain ⟨hin, hf⟩ := zg_k hf
  refine va_iast hx hb hK hP (mw_D hAd) hS 29 0 (mw_a33 (S := S3)) rfl (inb_k hin) dX7_pushes_36 (fun H locs hP _ hS => ?_)
  have hP : va_P D vwCl (mw cyI cyJ cyZ bd (wi S3 33 (Int32.toNatClampNeg (nI 3)) ((ri S3 33 (nI 3)) + (nI 1)))) H := by rw [← mw_s33]; exact hP
  obtain ⟨S4, eS4, hf⟩ := zb_k hf
  rw [← eS4] at hP
  refine lv_aload_n hx hb dX7_pushes_37 rfl (lv_at hl 0 rfl) ?_
  refine va_get (D := D) (ci := 7) (v := .ref (bd 33)) (C := RX7) (T := TX7) (N := 48) hx hb hts hin7 hown hK hP 0 (mw_o (S := S4)) rfl 38 (by decide) hfl108 (fun _ h9 => h9) mw_f38 dX7_pushes_38 ?_
  refine lv_iload_n hx hb dX7_pushes_41 rfl (lv_at hl 1 rfl) ?_
  refine lv_iconst (v := (nI 0)) hx hb dX7_pushes_42 (by decide) ?_
  obtain ⟨hin, hf⟩ := zg_k hf
  refine va_iast hx hb hK hP (mw_D hAd) hS 33 0 (mw_a38 (S := S4)) rfl (inb_k hin) dX7_pushes_43 (fun H locs hP _ hS => ?_)
  have hP : va_P D vwCl (mw cyI cyJ cyZ bd (wi S4 38 (Int32.toNatClampNeg p1) (nI 0))) H := by rw [← mw_s38]; exact hP
  obtain ⟨S5, eS5, hf⟩ := zb_k hf
  rw [← eS5] at hP
  refine lv_aload_n hx hb dX7_pushes_44 rfl (lv_at hl 0 rfl) ?_
  refine va_get (D := D) (ci := 7) (v := .ref (bd 32)) (C := RX7) (T := TX7) (N := 48) hx hb hts hin7 hown hK hP 0 (mw_o (S := S5)) rfl 37 (by decide) hfl105 (fun _ h9 => h9) mw_f37 dX7_pushes_45 ?_
  refine lv_iload_n hx hb dX7_pushes_48 rfl (lv_at hl 1 rfl) ?_
  refine lv_iconst (v := (nI 0)) hx hb dX7_pushes_49 (by decide) ?_
  obtain ⟨hin, hf⟩ := zg_k hf
  refine va_iast hx hb hK hP (mw_D hAd) hS 32 0 (mw_a37 (S := S5)) rfl (inb_k hin) dX7_pushes_50 (fun H locs hP _ hS => ?_)
  have hP : va_P D vwCl (mw cyI cyJ cyZ bd (wi S5 37 (Int32.toNatClampNeg p1) (nI 0))) H := by rw [← mw_s37]; exact hP
  obtain ⟨S6, eS6, hf⟩ := zb_k hf
  rw [← eS6] at hP
  refine lv_iload_n hx hb dX7_pushes_51 rfl (lv_at hl 1 rfl) ?_
  refine lv_iconst (v := (nI 2)) hx hb dX7_pushes_52 (by decide) ?_
  refine lv_idiv hx hb dX7_pushes_53 (by decide) ?_
  refine lv_topi (fun x7 ex7 => ?_)
  have hf := zb_x hf ex7
  refine lv_istore_n (lv' := [(2, .int x7), (0, .ref (bd 0)), (1, .int p1)]) hx hb dX7_pushes_54 rfl hl (by decide) rfl (fun ls hl => ?_)
  refine lv_aload_n hx hb dX7_pushes_55 rfl (lv_at hl 1 rfl) ?_
  refine va_get (D := D) (ci := 7) (v := .ref (bd 12)) (C := RX7) (T := TX7) (N := 48) hx hb hts hin7 hown hK hP 0 (mw_o (S := S6)) rfl 15 (by decide) hfl44 (fun _ h9 => h9) mw_f15 dX7_pushes_56 ?_
  refine lv_iload_n hx hb dX7_pushes_59 rfl (lv_at hl 2 rfl) ?_
  obtain ⟨hin, hf⟩ := zg_k hf
  refine va_zald hx hb hK hP 12 2 (mw_a15 (S := S6)) rfl (inb_k hin) dX7_pushes_60 ?_
  have hJ108 : m_X7_pushes_J108 p1 S6 = some SZ → ∀ (H : Heap) (locs : List Loc) (ls : Array Slot), va_P D vwCl (mw cyI cyJ cyZ bd S6) H → va_S (MA bd) s.heap H locs → lv_has ls 4 [(0, .ref (bd 0)), (1, .int p1)] → W p l e rl_X7_pushes s m args below meth c H locs 0 0 (MQ below (PoV D (mw cyI cyJ cyZ bd SZ) (MA bd)) args s 0 0 (MA bd)) (F0 m 108 ls []) := by
    intro  hf H locs ls hP hS hl
    unfold m_X7_pushes_J108 at hf
    refine lv_iconst (v := (nI 0)) hx hb dX7_pushes_108 (by decide) ?_
    refine lv_istore_n (lv' := [(3, .int (nI 0)), (0, .ref (bd 0)), (1, .int p1)]) hx hb dX7_pushes_109 rfl hl (by decide) rfl (fun ls hl => ?_)
    refine lv_aload_n hx hb dX7_pushes_110 rfl (lv_at hl 1 rfl) ?_
    refine va_get (D := D) (ci := 7) (v := .ref (bd 31)) (C := RX7) (T := TX7) (N := 48) hx hb hts hin7 hown hK hP 0 (mw_o (S := S6)) rfl 36 (by decide) hfl102 (fun _ h9 => h9) mw_f36 dX7_pushes_111 ?_
    refine lv_iload_n hx hb dX7_pushes_114 rfl (lv_at hl 2 rfl) ?_
    refine lv_iload_n hx hb dX7_pushes_115 rfl (lv_at hl 0 rfl) ?_
    refine lv_if_eq (tgt := 130) hx hb dX7_pushes_116 (by decide) (fun _ => ?_) (fun hc => absurd (by decide) hc)
    refine lv_iconst (v := (nI 0)) hx hb dX7_pushes_130 (by decide) ?_
    obtain ⟨hin, hf⟩ := zg_k hf
    refine va_zast hx hb hK hP (mw_D hAd) hS 31 2 (mw_a36 (S := S6)) rfl (inb_k hin) dX7_pushes_131 (fun H locs hP _ hS => ?_)
    have hP : va_P D vwCl (mw cyI cyJ cyZ bd (wi S6 36 (Int32.toNatClampNeg p1) (nI 0))) H := by rw [← mw_s36]; exact hP
    obtain ⟨S8, eS8, hf⟩ := zb_k hf
    rw [← eS8] at hP
    refine lv_aload_n hx hb dX7_pushes_132 rfl (lv_at hl 1 rfl) ?_
    refine va_get (D := D) (ci := 7) (v := .ref (bd 28)) (C := RX7) (T := TX7) (N := 48) hx hb hts hin7 hown hK hP 0 (mw_o (S := S8)) rfl 32 (by decide) hfl93 (fun _ h9 => h9) mw_f32 dX7_pushes_133 ?_
    refine lv_iload_n hx hb dX7_pushes_136 rfl (lv_at hl 2 rfl) ?_
    refine lv_iload_n hx hb dX7_pushes_137 rfl (lv_at hl 0 rfl) ?_
    refine lv_if_eq (tgt := 145) hx hb dX7_pushes_138 (by decide) (fun _ => ?_) (fun hc => absurd (by decide) hc)
    refine lv_aload_n hx hb dX7_pushes_145 rfl (lv_at hl 1 rfl) ?_
    refine va_get (D := D) (ci := 7) (v := .ref (bd 12)) (C := RX7) (T := TX7) (N := 48) hx hb hts hin7 hown hK hP 0 (mw_o (S := S8)) rfl 15 (by decide) hfl44 (fun _ h9 => h9) mw_f15 dX7_pushes_146 ?_
    refine lv_iload_n hx hb dX7_pushes_149 rfl (lv_at hl 2 rfl) ?_
    obtain ⟨hin, hf⟩ := zg_k hf
    refine va_zald hx hb hK hP 12 2 (mw_a15 (S := S8)) rfl (inb_k hin) dX7_pushes_150 ?_
    refine lv_if_eq (tgt := 158) hx hb dX7_pushes_151 (by decide) (fun hc => ?_) (fun hc => ?_)
    · have hf := ifp hf hc
      refine lv_iconst (v := (nI 1)) hx hb dX7_pushes_158 (by decide) ?_
      obtain ⟨hin, hf⟩ := zg_k hf
      refine va_iast hx hb hK hP (mw_D hAd) hS 28 0 (mw_a32 (S := S8)) rfl (inb_k hin) dX7_pushes_159 (fun H locs hP _ hS => ?_)
      have hP : va_P D vwCl (mw cyI cyJ cyZ bd (wi S8 32 (Int32.toNatClampNeg p1) (nI 1))) H := by rw [← mw_s32]; exact hP
      obtain ⟨S9, eS9, hf⟩ := zb_k hf
      rw [← eS9] at hP
      cases Option.some.inj hf
      exact fin_v hx hb hr hlk hS hP dX7_pushes_160
    · have hf := ifn hf hc
      refine lv_iconst (v := (nI 2)) hx hb dX7_pushes_154 (by decide) ?_
      refine lv_goto (tgt := 159) hx hb dX7_pushes_155 (by decide) ?_
      obtain ⟨hin, hf⟩ := zg_k hf
      refine va_iast hx hb hK hP (mw_D hAd) hS 28 0 (mw_a32 (S := S8)) rfl (inb_k hin) dX7_pushes_159 (fun H locs hP _ hS => ?_)
      have hP : va_P D vwCl (mw cyI cyJ cyZ bd (wi S8 32 (Int32.toNatClampNeg p1) (nI 2))) H := by rw [← mw_s32]; exact hP
      obtain ⟨S10, eS10, hf⟩ := zb_k hf
      rw [← eS10] at hP
      cases Option.some.inj hf
      exact fin_v hx hb hr hlk hS hP dX7_pushes_160
  refine lv_if_eq (tgt := 108) hx hb dX7_pushes_61 (by decide) (fun hc => ?_) (fun hc => ?_)
  · have hf := ifp hf hc
    exact hJ108  hf _ _ _ hP hS (lv_sub hl [1, 2] rfl)
  · have hf := ifn hf hc
    refine lv_aload_n hx hb dX7_pushes_64 rfl (lv_at hl 1 rfl) ?_
    refine va_get (D := D) (ci := 7) (v := .ref (bd 2)) (C := RX7) (T := TX7) (N := 48) hx hb hts hin7 hown hK hP 0 (mw_o (S := S6)) rfl 1 (by decide) hfl13 (fun _ h9 => h9) mw_f1 dX7_pushes_65 ?_
    refine lv_iload_n hx hb dX7_pushes_68 rfl (lv_at hl 0 rfl) ?_
    obtain ⟨hin, hf⟩ := zg_k hf
    refine va_iald hx hb hK hP 2 0 (mw_a1 (S := S6)) rfl (inb_k hin) dX7_pushes_69 ?_
    refine lv_iconst (v := (-1)) hx hb dX7_pushes_70 (by decide) ?_
    refine lv_icmp_eq (tgt := 108) hx hb dX7_pushes_71 (by decide) (fun hc => ?_) (fun hc => ?_)
    · have hf := ifp hf hc
      exact hJ108  hf _ _ _ hP hS (lv_sub hl [1, 2] rfl)
    · have hf := ifn hf hc
      refine lv_aload_n hx hb dX7_pushes_74 rfl (lv_at hl 1 rfl) ?_
      refine va_get (D := D) (ci := 7) (v := .ref (bd 13)) (C := RX7) (T := TX7) (N := 48) hx hb hts hin7 hown hK hP 0 (mw_o (S := S6)) rfl 16 (by decide) hfl47 (fun _ h9 => h9) mw_f16 dX7_pushes_75 ?_
      refine lv_iload_n hx hb dX7_pushes_78 rfl (lv_at hl 2 rfl) ?_
      obtain ⟨hin, hf⟩ := zg_k hf
      refine va_lald hx hb hK hP 13 1 (mw_a16 (S := S6)) rfl (inb_k hin) dX7_pushes_79 ?_
      refine lv_aload_n hx hb dX7_pushes_80 rfl (lv_at hl 1 rfl) ?_
      refine lv_iload_n hx hb dX7_pushes_81 rfl (lv_at hl 0 rfl) ?_
      obtain ⟨x11, hc82, hf⟩ := zo_k hf
      refine cal_l (rnV (As := [.int x7]) (rest := [.long (rj S6 16 p1)]) ⟨hx, hb, hml, hown, hts⟩ (c_X7_ruleOf hAd  hc82) (cwV 1 hts gX7_pushes_X7_ruleOf rfl rfl rfl cdV_X7_ruleOf ⟨Nat.le_of_ble_eq_true rfl, Nat.le_of_ble_eq_true rfl⟩) hP hK hN (mw_o (S := S6)) rfl rfl hl.1 rfl (Nat.le_of_ble_eq_true rfl) dX7_pushes_82 ⟨Nat.zero_le _, Nat.zero_le _⟩) hS (fun H locs hP hS => ?_)
      refine W.lcmp hx hb dX7_pushes_85 ?_
      refine lv_if_ne (tgt := 108) hx hb dX7_pushes_86 (by decide) (fun hc => ?_) (fun hc => ?_)
      · have hf := ifn hf hc
        exact hJ108  hf _ _ _ hP hS (lv_sub hl [1, 2] rfl)
      · have hf := ifp hf hc
        refine lv_aload_n hx hb dX7_pushes_89 rfl (lv_at hl 1 rfl) ?_
        refine va_get (D := D) (ci := 7) (v := .ref (bd 14)) (C := RX7) (T := TX7) (N := 48) hx hb hts hin7 hown hK hP 0 (mw_o (S := S6)) rfl 17 (by decide) hfl51 (fun _ h9 => h9) mw_f17 dX7_pushes_90 ?_
        refine lv_iload_n hx hb dX7_pushes_93 rfl (lv_at hl 2 rfl) ?_
        obtain ⟨hin, hf⟩ := zg_k hf
        refine va_iald hx hb hK hP 14 0 (mw_a17 (S := S6)) rfl (inb_k hin) dX7_pushes_94 ?_
        refine lv_aload_n hx hb dX7_pushes_95 rfl (lv_at hl 1 rfl) ?_
        refine va_get (D := D) (ci := 7) (v := .ref (bd 5)) (C := RX7) (T := TX7) (N := 48) hx hb hts hin7 hown hK hP 0 (mw_o (S := S6)) rfl 4 (by decide) hfl22 (fun _ h9 => h9) mw_f4 dX7_pushes_96 ?_
        refine lv_iload_n hx hb dX7_pushes_99 rfl (lv_at hl 0 rfl) ?_
        obtain ⟨hin, hf⟩ := zg_k hf
        refine va_iald hx hb hK hP 5 0 (mw_a4 (S := S6)) rfl (inb_k hin) dX7_pushes_100 ?_
        refine lv_icmp_ne (tgt := 108) hx hb dX7_pushes_101 (by decide) (fun hc => ?_) (fun hc => ?_)
        · have hf := ifn hf hc
          exact hJ108  hf _ _ _ hP hS (lv_sub hl [1, 2] rfl)
        · have hf := ifp hf hc
          refine lv_iconst (v := (nI 1)) hx hb dX7_pushes_104 (by decide) ?_
          refine lv_goto (tgt := 109) hx hb dX7_pushes_105 (by decide) ?_
          refine lv_istore_n (lv' := [(3, .int (nI 1)), (2, .int x7), (0, .ref (bd 0)), (1, .int p1)]) hx hb dX7_pushes_109 rfl hl (by decide) rfl (fun ls hl => ?_)
          refine lv_aload_n hx hb dX7_pushes_110 rfl (lv_at hl 2 rfl) ?_
          refine va_get (D := D) (ci := 7) (v := .ref (bd 31)) (C := RX7) (T := TX7) (N := 48) hx hb hts hin7 hown hK hP 0 (mw_o (S := S6)) rfl 36 (by decide) hfl102 (fun _ h9 => h9) mw_f36 dX7_pushes_111 ?_
          refine lv_iload_n hx hb dX7_pushes_114 rfl (lv_at hl 3 rfl) ?_
          refine lv_iload_n hx hb dX7_pushes_115 rfl (lv_at hl 0 rfl) ?_
          refine lv_if_eq (tgt := 130) hx hb dX7_pushes_116 (by decide) (fun hc => absurd hc (by decide)) (fun _ => ?_)
          refine lv_aload_n hx hb dX7_pushes_119 rfl (lv_at hl 2 rfl) ?_
          refine va_get (D := D) (ci := 7) (v := .int (S6.1 43 0)) (C := RX7) (T := TX7) (N := 48) hx hb hts hin7 hown hK hP 0 (mw_o (S := S6)) rfl 43 (by decide) hfl172 (fun _ h9 => h9) mw_f43 dX7_pushes_120 ?_
          refine lv_if_ne (tgt := 130) hx hb dX7_pushes_123 (by decide) (fun hc => ?_) (fun hc => ?_)
          · have hf := ifn hf hc
            refine lv_iconst (v := (nI 0)) hx hb dX7_pushes_130 (by decide) ?_
            obtain ⟨hin, hf⟩ := zg_k hf
            refine va_zast hx hb hK hP (mw_D hAd) hS 31 2 (mw_a36 (S := S6)) rfl (inb_k hin) dX7_pushes_131 (fun H locs hP _ hS => ?_)
            have hP : va_P D vwCl (mw cyI cyJ cyZ bd (wi S6 36 (Int32.toNatClampNeg p1) (nI 0))) H := by rw [← mw_s36]; exact hP
            obtain ⟨S12, eS12, hf⟩ := zb_k hf
            rw [← eS12] at hP
            refine lv_aload_n hx hb dX7_pushes_132 rfl (lv_at hl 2 rfl) ?_
            refine va_get (D := D) (ci := 7) (v := .ref (bd 28)) (C := RX7) (T := TX7) (N := 48) hx hb hts hin7 hown hK hP 0 (mw_o (S := S12)) rfl 32 (by decide) hfl93 (fun _ h9 => h9) mw_f32 dX7_pushes_133 ?_
            refine lv_iload_n hx hb dX7_pushes_136 rfl (lv_at hl 3 rfl) ?_
            refine lv_iload_n hx hb dX7_pushes_137 rfl (lv_at hl 0 rfl) ?_
            refine lv_if_eq (tgt := 145) hx hb dX7_pushes_138 (by decide) (fun hc => absurd hc (by decide)) (fun _ => ?_)
            refine lv_iconst (v := (nI 0)) hx hb dX7_pushes_141 (by decide) ?_
            refine lv_goto (tgt := 159) hx hb dX7_pushes_142 (by decide) ?_
            obtain ⟨hin, hf⟩ := zg_k hf
            refine va_iast hx hb hK hP (mw_D hAd) hS 28 0 (mw_a32 (S := S12)) rfl (inb_k hin) dX7_pushes_159 (fun H locs hP _ hS => ?_)
            have hP : va_P D vwCl (mw cyI cyJ cyZ bd (wi S12 32 (Int32.toNatClampNeg p1) (nI 0))) H := by rw [← mw_s32]; exact hP
            obtain ⟨S13, eS13, hf⟩ := zb_k hf
            rw [← eS13] at hP
            cases Option.some.inj hf
            exact fin_v hx hb hr hlk hS hP dX7_pushes_160
          · have hf := ifp hf hc
            refine lv_iconst (v := (nI 1)) hx hb dX7_pushes_126 (by decide) ?_
            refine lv_goto (tgt := 131) hx hb dX7_pushes_127 (by decide) ?_
            obtain ⟨hin, hf⟩ := zg_k hf
            refine va_zast hx hb hK hP (mw_D hAd) hS 31 2 (mw_a36 (S := S6)) rfl (inb_k hin) dX7_pushes_131 (fun H locs hP _ hS => ?_)
            have hP : va_P D vwCl (mw cyI cyJ cyZ bd (wi S6 36 (Int32.toNatClampNeg p1) (nI 1))) H := by rw [← mw_s36]; exact hP
            obtain ⟨S14, eS14, hf⟩ := zb_k hf
            rw [← eS14] at hP
            refine lv_aload_n hx hb dX7_pushes_132 rfl (lv_at hl 2 rfl) ?_
            refine va_get (D := D) (ci := 7) (v := .ref (bd 28)) (C := RX7) (T := TX7) (N := 48) hx hb hts hin7 hown hK hP 0 (mw_o (S := S14)) rfl 32 (by decide) hfl93 (fun _ h9 => h9) mw_f32 dX7_pushes_133 ?_
            refine lv_iload_n hx hb dX7_pushes_136 rfl (lv_at hl 3 rfl) ?_
            refine lv_iload_n hx hb dX7_pushes_137 rfl (lv_at hl 0 rfl) ?_
            refine lv_if_eq (tgt := 145) hx hb dX7_pushes_138 (by decide) (fun hc => absurd hc (by decide)) (fun _ => ?_)
            refine lv_iconst (v := (nI 0)) hx hb dX7_pushes_141 (by decide) ?_
            refine lv_goto (tgt := 159) hx hb dX7_pushes_142 (by decide) ?_
            obtain ⟨hin, hf⟩ := zg_k hf
            refine va_iast hx hb hK hP (mw_D hAd) hS 28 0 (mw_a32 (S := S14)) rfl (inb_k hin) dX7_pushes_159 (fun H locs hP _ hS => ?_)
            have hP : va_P D vwCl (mw cyI cyJ cyZ bd (wi S14 32 (Int32.toNatClampNeg p1) (nI 0))) H := by rw [← mw_s32]; exact hP
            obtain ⟨S15, eS15, hf⟩ := zb_k hf
            rw [← eS15] at hP
            cases Option.some.inj hf
            exact fin_v hx hb hr hlk hS hP dX7_pushes_160
set_option maxHeartbeats 4000000 in
set_option maxRecDepth 100000 in
theorem c_X7_finishes {l : Launch} {D : va_G} {cyI cyJ cyZ : ClassId} {bd : Nat → Nat}  (hAd : AdOK 41 bd)  {S : St} {p1 : Int32} {p2 : Int32} {p3 : Int32} {SZ : St} (hf : m_X7_finishes S p1 p2 p3 = some SZ) : Met l yX7_finishes wsX7_finishes rl_X7_finishes (PreW D [(cyI, .int), (cyJ, .long), (cyZ, .boolean)] (mw cyI cyJ cyZ bd S) [.ref (bd 0), .int p1, .int p2, .int p3]) (PoV D (mw cyI cyJ cyZ bd SZ) (MA bd)) 0 0 (MA bd) := by
  refine met_go (cc := cX7_finishes) (maxL := 4) (ret := none) (by decide) rfl (Nat.le_of_ble_eq_true rfl) ?_
  intro p e s m args below meth c ls hx hb hr hml hts hown hlk hP hK hN hl
  have hown : s.vm.findClass RX7 = some m.cls := hown
  have hS : va_S (MA bd) s.heap s.heap [] := va_S.rf
  have hl : lv_has ls 4 [(0, .ref (bd 0)), (1, .int p1), (2, .int p2), (3, .int p3)] := hl
  have hin7 : ∀ w ∈ wsX70, w ∈ wsX7_finishes := by decide +kernel
  have hfl84 := hts (.fieldLink RX7 84 "MakewheelModel" "looked" "[I") (by decide +kernel)
  have hfl87 := hts (.fieldLink RX7 87 "MakewheelModel" "gave" "[I") (by decide +kernel)
  have hfl90 := hts (.fieldLink RX7 90 "MakewheelModel" "dones" "[I") (by decide +kernel)
  have hfl165 := hts (.fieldLink RX7 165 "MakewheelModel" "height" "I") (by decide +kernel)
  have hfl172 := hts (.fieldLink RX7 172 "MakewheelModel" "isPlain" "Z") (by decide +kernel)
  have hfl44 := hts (.fieldLink RX7 44 "MakewheelModel" "isKept" "[Z") (by decide +kernel)
  unfold m_X7_finishes at hf
  refine lv_aload_n hx hb dX7_finishes_0 rfl (lv_at hl 0 rfl) ?_
  refine va_get (D := D) (ci := 7) (v := .ref (bd 25)) (C := RX7) (T := TX7) (N := 48) hx hb hts hin7 hown hK hP 0 (mw_o (S := S)) rfl 29 (by decide) hfl84 (fun _ h9 => h9) mw_f29 dX7_finishes_1 ?_
  refine lv_iload_n hx hb dX7_finishes_4 rfl (lv_at hl 1 rfl) ?_
  refine lv_iconst (v := (nI 2)) hx hb dX7_finishes_5 (by decide) ?_
  obtain ⟨hin, hf⟩ := zg_k hf
  refine va_iast hx hb hK hP (mw_D hAd) hS 25 0 (mw_a29 (S := S)) rfl (inb_k hin) dX7_finishes_6 (fun H locs hP _ hS => ?_)
  have hP : va_P D vwCl (mw cyI cyJ cyZ bd (wi S 29 (Int32.toNatClampNeg p1) (nI 2))) H := by rw [← mw_s29]; exact hP
  obtain ⟨S1, eS1, hf⟩ := zb_k hf
  rw [← eS1] at hP
  refine lv_aload_n hx hb dX7_finishes_7 rfl (lv_at hl 0 rfl) ?_
  refine va_get (D := D) (ci := 7) (v := .ref (bd 26)) (C := RX7) (T := TX7) (N := 48) hx hb hts hin7 hown hK hP 0 (mw_o (S := S1)) rfl 30 (by decide) hfl87 (fun _ h9 => h9) mw_f30 dX7_finishes_8 ?_
  refine lv_iload_n hx hb dX7_finishes_11 rfl (lv_at hl 1 rfl) ?_
  refine lv_iload_n hx hb dX7_finishes_12 rfl (lv_at hl 2 rfl) ?_
  obtain ⟨hin, hf⟩ := zg_k hf
  refine va_iast hx hb hK hP (mw_D hAd) hS 26 0 (mw_a30 (S := S1)) rfl (inb_k hin) dX7_finishes_13 (fun H locs hP _ hS => ?_)
  have hP : va_P D vwCl (mw cyI cyJ cyZ bd (wi S1 30 (Int32.toNatClampNeg p1) p2)) H := by rw [← mw_s30]; exact hP
  obtain ⟨S2, eS2, hf⟩ := zb_k hf
  rw [← eS2] at hP
  refine lv_aload_n hx hb dX7_finishes_14 rfl (lv_at hl 0 rfl) ?_
  refine va_get (D := D) (ci := 7) (v := .ref (bd 27)) (C := RX7) (T := TX7) (N := 48) hx hb hts hin7 hown hK hP 0 (mw_o (S := S2)) rfl 31 (by decide) hfl90 (fun _ h9 => h9) mw_f31 dX7_finishes_15 ?_
  refine lv_iload_n hx hb dX7_finishes_18 rfl (lv_at hl 1 rfl) ?_
  refine lv_iload_n hx hb dX7_finishes_19 rfl (lv_at hl 3 rfl) ?_
  obtain ⟨hin, hf⟩ := zg_k hf
  refine va_iast hx hb hK hP (mw_D hAd) hS 27 0 (mw_a31 (S := S2)) rfl (inb_k hin) dX7_finishes_20 (fun H locs hP _ hS => ?_)
  have hP : va_P D vwCl (mw cyI cyJ cyZ bd (wi S2 31 (Int32.toNatClampNeg p1) p3)) H := by rw [← mw_s31]; exact hP
  obtain ⟨S3, eS3, hf⟩ := zb_k hf
  rw [← eS3] at hP
  refine lv_aload_n hx hb dX7_finishes_21 rfl (lv_at hl 0 rfl) ?_
  refine lv_dup hx hb dX7_finishes_22 rfl ?_
  refine va_get (D := D) (ci := 7) (v := .int (S3.1 34 0)) (C := RX7) (T := TX7) (N := 48) hx hb hts hin7 hown hK hP 0 (mw_o (S := S3)) rfl 34 (by decide) hfl165 (fun _ h9 => h9) mw_f34 dX7_finishes_23 ?_
  refine lv_iconst (v := (nI 1)) hx hb dX7_finishes_26 (by decide) ?_
  refine lv_isub hx hb dX7_finishes_27 ?_
  refine va_put (D := D) (ci := 7) (v := .int (rs S3 34 - (nI 1))) (ty := .int) (C := RX7) (T := TX7) (N := 48) hx hb hts hin7 tyX7 tyX7_ok nmX7 hown hK hP (mw_D hAd) hS 0 (mw_o (S := S3)) rfl 34 (by decide) hfl165 (fun _ h9 => h9) rfl (by decide +kernel) rfl rfl (Nat.le_of_ble_eq_true rfl) dX7_finishes_28 (fun H locs hP _ hS => ?_)
  have hP : va_P D vwCl (mw cyI cyJ cyZ bd (wi S3 34 0 (rs S3 34 - (nI 1)))) H := by rw [← mw_s34]; exact hP
  obtain ⟨S4, eS4, hf⟩ := zb_k hf
  rw [← eS4] at hP
  refine lv_aload_n hx hb dX7_finishes_31 rfl (lv_at hl 0 rfl) ?_
  refine va_get (D := D) (ci := 7) (v := .int (S4.1 43 0)) (C := RX7) (T := TX7) (N := 48) hx hb hts hin7 hown hK hP 0 (mw_o (S := S4)) rfl 43 (by decide) hfl172 (fun _ h9 => h9) mw_f43 dX7_finishes_32 ?_
  refine lv_if_ne (tgt := 49) hx hb dX7_finishes_35 (by decide) (fun hc => ?_) (fun hc => ?_)
  · have hf := ifn hf hc
    cases Option.some.inj hf
    exact fin_v hx hb hr hlk hS hP dX7_finishes_49
  · have hf := ifp hf hc
    refine lv_iload_n hx hb dX7_finishes_38 rfl (lv_at hl 2 rfl) ?_
    refine lv_if_ge (tgt := 49) hx hb dX7_finishes_39 (by decide) (fun hc => ?_) (fun hc => ?_)
    · have hf := ifp hf hc
      cases Option.some.inj hf
      exact fin_v hx hb hr hlk hS hP dX7_finishes_49
    · have hf := ifn hf hc
      refine lv_aload_n hx hb dX7_finishes_42 rfl (lv_at hl 0 rfl) ?_
      refine va_get (D := D) (ci := 7) (v := .ref (bd 12)) (C := RX7) (T := TX7) (N := 48) hx hb hts hin7 hown hK hP 0 (mw_o (S := S4)) rfl 15 (by decide) hfl44 (fun _ h9 => h9) mw_f15 dX7_finishes_43 ?_
      refine lv_iload_n hx hb dX7_finishes_46 rfl (lv_at hl 1 rfl) ?_
      refine lv_iconst (v := (nI 0)) hx hb dX7_finishes_47 (by decide) ?_
      obtain ⟨hin, hf⟩ := zg_k hf
      refine va_zast hx hb hK hP (mw_D hAd) hS 12 2 (mw_a15 (S := S4)) rfl (inb_k hin) dX7_finishes_48 (fun H locs hP _ hS => ?_)
      have hP : va_P D vwCl (mw cyI cyJ cyZ bd (wi S4 15 (Int32.toNatClampNeg p1) (nI 0))) H := by rw [← mw_s15]; exact hP
      obtain ⟨S5, eS5, hf⟩ := zb_k hf
      rw [← eS5] at hP
      cases Option.some.inj hf
      exact fin_v hx hb hr hlk hS hP dX7_finishes_49
set_option maxHeartbeats 4000000 in
set_option maxRecDepth 100000 in
theorem c_X7_folder {l : Launch} {D : va_G} {cyI cyJ cyZ : ClassId} {bd : Nat → Nat}  (hAd : AdOK 41 bd)  {S : St} {p1 : Int32} {r : Int64} (hf : m_X7_folder S p1 = some r) : Met l yX7_folder wsX7_folder rl_X7_folder (PreW D [(cyI, .int), (cyJ, .long), (cyZ, .boolean)] (mw cyI cyJ cyZ bd S) [.ref (bd 0), .int p1]) (PoL D (mw cyI cyJ cyZ bd S) (MA bd) r) 0 0 (MA bd) := by
  refine met_go (cc := cX7_folder) (maxL := 5) (ret := (some .long)) (by decide) rfl (Nat.le_of_ble_eq_true rfl) ?_
  intro p e s m args below meth c ls hx hb hr hml hts hown hlk hP hK hN hl
  have hown : s.vm.findClass RX7 = some m.cls := hown
  have hS : va_S (MA bd) s.heap s.heap [] := va_S.rf
  have hl : lv_has ls 5 [(0, .ref (bd 0)), (1, .int p1)] := hl
  have hin7 : ∀ w ∈ wsX70, w ∈ wsX7_folder := by decide +kernel
  have hfl7 := hts (.fieldLink RX7 7 "MakewheelModel" "files" "[I") (by decide +kernel)
  unfold m_X7_folder at hf
  refine lv_lconst (v := 0) hx hb dX7_folder_0 rfl ?_
  refine lv_topl (fun x1 ex1 => ?_)
  have hf := zb_x hf ex1
  refine lv_lstore_n (lv' := [(2, .long x1), (0, .ref (bd 0)), (1, .int p1)]) hx hb dX7_folder_1 rfl hl (by decide) rfl (fun ls hl => ?_)
  refine lv_iconst (v := (nI 0)) hx hb dX7_folder_2 (by decide) ?_
  refine lv_istore (lv' := [(4, .int (nI 0)), (2, .long x1), (0, .ref (bd 0)), (1, .int p1)]) hx hb dX7_folder_3 hl (by decide) rfl (fun ls hl => ?_)
  refine zl2_ind (F := (m_X7_folder_B5 p1 S)) (R := r) (P := fun x2 x3 => ∀ (H : Heap) (locs : List Loc) (ls : Array Slot), va_P D vwCl (mw cyI cyJ cyZ bd S) H → va_S (MA bd) s.heap H locs → lv_has ls 5 [(0, .ref (bd 0)), (1, .int p1), (2, .long x2), (4, .int x3)] → W p l e rl_X7_folder s m args below meth c H locs 0 0 (MQ below (PoL D (mw cyI cyJ cyZ bd S) (MA bd) r) args s 0 0 (MA bd)) (F0 m 5 ls [])) (fun rec5 ih5 x2 x3 hf H locs ls hP hS hl => ?_) FU x1 (nI 0) hf _ _ _ hP hS (lv_sub hl [2, 3, 1, 0] rfl)
  unfold m_X7_folder_B5 at hf
  refine lv_iload hx hb dX7_folder_5 (lv_at hl 3 rfl) ?_
  refine lv_iconst (v := (nI 5)) hx hb dX7_folder_7 (by decide) ?_
  refine lv_icmp_ge (tgt := 38) hx hb dX7_folder_8 (by decide) (fun hc => ?_) (fun hc => ?_)
  · have hf := ifp hf hc
    refine lv_lload_n hx hb dX7_folder_38 rfl (lv_at hl 2 rfl) ?_
    exact fin_l hx hb hr hlk hS hP (Option.some.inj hf) dX7_folder_39
  · have hf := ifn hf hc
    refine lv_ldc2 (v := 1024) hx hb hown (hts (.constantLong RX7 163 1024) (by decide +kernel)) dX7_folder_11 ?_
    refine lv_lload_n hx hb dX7_folder_14 rfl (lv_at hl 2 rfl) ?_
    refine lv_lmul hx hb dX7_folder_15 ?_
    refine lv_aload_n hx hb dX7_folder_16 rfl (lv_at hl 0 rfl) ?_
    refine va_get (D := D) (ci := 7) (v := .ref (bd 1)) (C := RX7) (T := TX7) (N := 48) hx hb hts hin7 hown hK hP 0 (mw_o (S := S)) rfl 0 (by decide) hfl7 (fun _ h9 => h9) mw_f0 dX7_folder_17 ?_
    refine lv_iconst (v := (nI 5)) hx hb dX7_folder_20 (by decide) ?_
    refine lv_iload_n hx hb dX7_folder_21 rfl (lv_at hl 1 rfl) ?_
    refine lv_imul hx hb dX7_folder_22 ?_
    refine lv_iload hx hb dX7_folder_23 (lv_at hl 3 rfl) ?_
    refine lv_iadd hx hb dX7_folder_25 ?_
    obtain ⟨hin, hf⟩ := zg_k hf
    refine va_iald hx hb hK hP 1 0 (mw_a0 (S := S)) rfl (inb_k hin) dX7_folder_26 ?_
    refine lv_i2l hx hb dX7_folder_27 rfl ?_
    refine lv_ladd hx hb dX7_folder_28 ?_
    refine lv_lconst (v := 1) hx hb dX7_folder_29 rfl ?_
    refine lv_ladd hx hb dX7_folder_30 ?_
    refine lv_topl (fun x4 ex4 => ?_)
    have hf := zb_x hf ex4
    refine lv_lstore_n (lv' := [(2, .long x4), (0, .ref (bd 0)), (1, .int p1), (4, .int x3)]) hx hb dX7_folder_31 rfl hl (by decide) rfl (fun ls hl => ?_)
    obtain ⟨x5, ex5, hf⟩ := zb_k hf
    refine lv_iinc (v := x5) (lv' := [(4, .int x5), (2, .long x4), (0, .ref (bd 0)), (1, .int p1)]) hx hb dX7_folder_32 hl (k := 3) rfl (by rw [ex5]; rfl) (by decide) rfl (fun ls hl => ?_)
    refine lv_goto (tgt := 5) hx hb dX7_folder_35 (by decide) ?_
    exact ih5 x4 x5 hf _ _ _ hP hS (lv_sub hl [2, 3, 1, 0] rfl)
set_option maxHeartbeats 4000000 in
set_option maxRecDepth 100000 in
theorem c_X7_nodeOf {l : Launch} {D : va_G} {cyI cyJ cyZ : ClassId} {bd : Nat → Nat}  (hAd : AdOK 41 bd)  {S : St} {p0 : Int32} {p1 : Int32} {p2 : Int32} {r : Int32} (hf : m_X7_nodeOf S p0 p1 p2 = some r) : Met l yX7_nodeOf wsX7_nodeOf rl_X7_nodeOf (PreW D [(cyI, .int), (cyJ, .long), (cyZ, .boolean)] (mw cyI cyJ cyZ bd S) [.int p0, .int p1, .int p2]) (PoI D (mw cyI cyJ cyZ bd S) (MA bd) r) 0 0 (MA bd) := by
  refine met_go (cc := cX7_nodeOf) (maxL := 3) (ret := (some .int)) (by decide) rfl (Nat.le_of_ble_eq_true rfl) ?_
  intro p e s m args below meth c ls hx hb hr hml hts hown hlk hP hK hN hl
  have hown : s.vm.findClass RX7 = some m.cls := hown
  have hS : va_S (MA bd) s.heap s.heap [] := va_S.rf
  have hl : lv_has ls 3 [(0, .int p0), (1, .int p1), (2, .int p2)] := hl
  unfold m_X7_nodeOf at hf
  refine lv_iconst (v := (nI 2)) hx hb dX7_nodeOf_0 (by decide) ?_
  refine lv_iload_n hx hb dX7_nodeOf_1 rfl (lv_at hl 1 rfl) ?_
  refine lv_imul hx hb dX7_nodeOf_2 ?_
  refine lv_iload_n hx hb dX7_nodeOf_3 rfl (lv_at hl 0 rfl) ?_
  refine lv_iconst (v := (nI 3)) hx hb dX7_nodeOf_4 (by decide) ?_
  refine lv_icmp_ne (tgt := 14) hx hb dX7_nodeOf_5 (by decide) (fun hc => ?_) (fun hc => ?_)
  · have hf := ifn hf hc
    refine lv_iload_n hx hb dX7_nodeOf_14 rfl (lv_at hl 2 rfl) ?_
    refine lv_iadd hx hb dX7_nodeOf_15 ?_
    exact fin_i hx hb hr hlk hS hP (Option.some.inj hf) dX7_nodeOf_16
  · have hf := ifp hf hc
    refine lv_iconst (v := (nI 1)) hx hb dX7_nodeOf_8 (by decide) ?_
    refine lv_iload_n hx hb dX7_nodeOf_9 rfl (lv_at hl 2 rfl) ?_
    refine lv_isub hx hb dX7_nodeOf_10 ?_
    refine lv_goto (tgt := 15) hx hb dX7_nodeOf_11 (by decide) ?_
    refine lv_iadd hx hb dX7_nodeOf_15 ?_
    exact fin_i hx hb hr hlk hS hP (Option.some.inj hf) dX7_nodeOf_16
set_option maxHeartbeats 4000000 in
set_option maxRecDepth 100000 in
theorem c_X7_comparesOne {l : Launch} {D : va_G} {cyI cyJ cyZ : ClassId} {bd : Nat → Nat}  (hAd : AdOK 41 bd)  {S : St} {p1 : Int32} {SZ : St} (hf : m_X7_comparesOne S p1 = some SZ) : Met l yX7_comparesOne wsX7_comparesOne rl_X7_comparesOne (PreW D [(cyI, .int), (cyJ, .long), (cyZ, .boolean)] (mw cyI cyJ cyZ bd S) [.ref (bd 0), .int p1]) (PoV D (mw cyI cyJ cyZ bd SZ) (MA bd)) 0 0 (MA bd) := by
  refine met_go (cc := cX7_comparesOne) (maxL := 9) (ret := none) (by decide) rfl (Nat.le_of_ble_eq_true rfl) ?_
  intro p e s m args below meth c ls hx hb hr hml hts hown hlk hP hK hN hl
  have hown : s.vm.findClass RX7 = some m.cls := hown
  have hS : va_S (MA bd) s.heap s.heap [] := va_S.rf
  have hl : lv_has ls 9 [(0, .ref (bd 0)), (1, .int p1)] := hl
  have hin7 : ∀ w ∈ wsX70, w ∈ wsX7_comparesOne := by decide +kernel
  have hfl105 := hts (.fieldLink RX7 105 "MakewheelModel" "ats" "[I") (by decide +kernel)
  have hfl54 := hts (.fieldLink RX7 54 "MakewheelModel" "keptReads" "[I") (by decide +kernel)
  have hfl57 := hts (.fieldLink RX7 57 "MakewheelModel" "keptSlot" "[I") (by decide +kernel)
  have hfl93 := hts (.fieldLink RX7 93 "MakewheelModel" "whys" "[I") (by decide +kernel)
  have hfl102 := hts (.fieldLink RX7 102 "MakewheelModel" "compares" "[Z") (by decide +kernel)
  have hfl84 := hts (.fieldLink RX7 84 "MakewheelModel" "looked" "[I") (by decide +kernel)
  have hfl87 := hts (.fieldLink RX7 87 "MakewheelModel" "gave" "[I") (by decide +kernel)
  have hfl63 := hts (.fieldLink RX7 63 "MakewheelModel" "keptRead" "[J") (by decide +kernel)
  have hfl7 := hts (.fieldLink RX7 7 "MakewheelModel" "files" "[I") (by decide +kernel)
  have hfl31 := hts (.fieldLink RX7 31 "MakewheelModel" "whiches" "[I") (by decide +kernel)
  have hfl60 := hts (.fieldLink RX7 60 "MakewheelModel" "keptFile" "[I") (by decide +kernel)
  have hfl28 := hts (.fieldLink RX7 28 "MakewheelModel" "whats" "[I") (by decide +kernel)
  have hfl96 := hts (.fieldLink RX7 96 "MakewheelModel" "counted" "[I") (by decide +kernel)
  have hfl66 := hts (.fieldLink RX7 66 "MakewheelModel" "keptValue" "[I") (by decide +kernel)
  unfold m_X7_comparesOne at hf
  refine lv_aload_n hx hb dX7_comparesOne_0 rfl (lv_at hl 0 rfl) ?_
  refine va_get (D := D) (ci := 7) (v := .ref (bd 32)) (C := RX7) (T := TX7) (N := 48) hx hb hts hin7 hown hK hP 0 (mw_o (S := S)) rfl 37 (by decide) hfl105 (fun _ h9 => h9) mw_f37 dX7_comparesOne_1 ?_
  refine lv_iload_n hx hb dX7_comparesOne_4 rfl (lv_at hl 1 rfl) ?_
  obtain ⟨hin, hf⟩ := zg_k hf
  refine va_iald hx hb hK hP 32 0 (mw_a37 (S := S)) rfl (inb_k hin) dX7_comparesOne_5 ?_
  refine lv_aload_n hx hb dX7_comparesOne_6 rfl (lv_at hl 0 rfl) ?_
  refine va_get (D := D) (ci := 7) (v := .ref (bd 15)) (C := RX7) (T := TX7) (N := 48) hx hb hts hin7 hown hK hP 0 (mw_o (S := S)) rfl 18 (by decide) hfl54 (fun _ h9 => h9) mw_f18 dX7_comparesOne_7 ?_
  refine lv_iload_n hx hb dX7_comparesOne_10 rfl (lv_at hl 1 rfl) ?_
  obtain ⟨hin, hf⟩ := zg_k hf
  refine va_iald hx hb hK hP 15 0 (mw_a18 (S := S)) rfl (inb_k hin) dX7_comparesOne_11 ?_
  refine lv_icmp_ne (tgt := 38) hx hb dX7_comparesOne_12 (by decide) (fun hc => ?_) (fun hc => ?_)
  · have hf := ifn hf hc
    refine lv_iconst (v := (nI 5)) hx hb dX7_comparesOne_38 (by decide) ?_
    refine lv_iload_n hx hb dX7_comparesOne_39 rfl (lv_at hl 1 rfl) ?_
    refine lv_imul hx hb dX7_comparesOne_40 ?_
    refine lv_aload_n hx hb dX7_comparesOne_41 rfl (lv_at hl 0 rfl) ?_
    refine va_get (D := D) (ci := 7) (v := .ref (bd 32)) (C := RX7) (T := TX7) (N := 48) hx hb hts hin7 hown hK hP 0 (mw_o (S := S)) rfl 37 (by decide) hfl105 (fun _ h9 => h9) mw_f37 dX7_comparesOne_42 ?_
    refine lv_iload_n hx hb dX7_comparesOne_45 rfl (lv_at hl 1 rfl) ?_
    obtain ⟨hin, hf⟩ := zg_k hf
    refine va_iald hx hb hK hP 32 0 (mw_a37 (S := S)) rfl (inb_k hin) dX7_comparesOne_46 ?_
    refine lv_iadd hx hb dX7_comparesOne_47 ?_
    refine lv_topi (fun x1 ex1 => ?_)
    have hf := zb_x hf ex1
    refine lv_istore_n (lv' := [(2, .int x1), (0, .ref (bd 0)), (1, .int p1)]) hx hb dX7_comparesOne_48 rfl hl (by decide) rfl (fun ls hl => ?_)
    refine lv_aload_n hx hb dX7_comparesOne_49 rfl (lv_at hl 1 rfl) ?_
    refine va_get (D := D) (ci := 7) (v := .ref (bd 16)) (C := RX7) (T := TX7) (N := 48) hx hb hts hin7 hown hK hP 0 (mw_o (S := S)) rfl 19 (by decide) hfl57 (fun _ h9 => h9) mw_f19 dX7_comparesOne_50 ?_
    refine lv_iload_n hx hb dX7_comparesOne_53 rfl (lv_at hl 0 rfl) ?_
    obtain ⟨hin, hf⟩ := zg_k hf
    refine va_iald hx hb hK hP 16 0 (mw_a19 (S := S)) rfl (inb_k hin) dX7_comparesOne_54 ?_
    refine lv_topi (fun x2 ex2 => ?_)
    have hf := zb_x hf ex2
    refine lv_istore_n (lv' := [(3, .int x2), (2, .int x1), (0, .ref (bd 0)), (1, .int p1)]) hx hb dX7_comparesOne_55 rfl hl (by decide) rfl (fun ls hl => ?_)
    refine lv_iload_n hx hb dX7_comparesOne_56 rfl (lv_at hl 3 rfl) ?_
    refine lv_iconst (v := (nI 2)) hx hb dX7_comparesOne_57 (by decide) ?_
    refine lv_idiv hx hb dX7_comparesOne_58 (by decide) ?_
    refine lv_topi (fun x3 ex3 => ?_)
    have hf := zb_x hf ex3
    refine lv_istore (lv' := [(4, .int x3), (3, .int x2), (2, .int x1), (0, .ref (bd 0)), (1, .int p1)]) hx hb dX7_comparesOne_59 hl (by decide) rfl (fun ls hl => ?_)
    refine lv_iload_n hx hb dX7_comparesOne_61 rfl (lv_at hl 1 rfl) ?_
    refine lv_iconst (v := (nI 4)) hx hb dX7_comparesOne_62 (by decide) ?_
    have hJ81 : ∀ (t4 : Int32), m_X7_comparesOne_J81 x2 x1 S p1 x3 t4 = some SZ → ∀ (H : Heap) (locs : List Loc) (ls : Array Slot), va_P D vwCl (mw cyI cyJ cyZ bd S) H → va_S (MA bd) s.heap H locs → lv_has ls 9 [(4, .int x3), (3, .int x2), (2, .int x1), (0, .ref (bd 0)), (1, .int p1)] → W p l e rl_X7_comparesOne s m args below meth c H locs 0 0 (MQ below (PoV D (mw cyI cyJ cyZ bd SZ) (MA bd)) args s 0 0 (MA bd)) (F0 m 81 ls [.int t4]) := by
      intro t4 hf H locs ls hP hS hl
      unfold m_X7_comparesOne_J81 at hf
      refine lv_istore (lv' := [(5, .int t4), (4, .int x3), (3, .int x2), (2, .int x1), (0, .ref (bd 0)), (1, .int p1)]) hx hb dX7_comparesOne_81 hl (by decide) rfl (fun ls hl => ?_)
      refine lv_iload_n hx hb dX7_comparesOne_83 rfl (lv_at hl 2 rfl) ?_
      refine lv_iconst (v := (nI 4)) hx hb dX7_comparesOne_84 (by decide) ?_
      have hJ108 : ∀ (t5 : Int32), m_X7_comparesOne_J108 t4 x1 S p1 t5 = some SZ → ∀ (H : Heap) (locs : List Loc) (ls : Array Slot), va_P D vwCl (mw cyI cyJ cyZ bd S) H → va_S (MA bd) s.heap H locs → lv_has ls 9 [(5, .int t4), (2, .int x1), (0, .ref (bd 0)), (1, .int p1)] → W p l e rl_X7_comparesOne s m args below meth c H locs 0 0 (MQ below (PoV D (mw cyI cyJ cyZ bd SZ) (MA bd)) args s 0 0 (MA bd)) (F0 m 108 ls [.int t5]) := by
        intro t5 hf H locs ls hP hS hl
        unfold m_X7_comparesOne_J108 at hf
        refine lv_istore (lv' := [(6, .int t5), (5, .int t4), (2, .int x1), (0, .ref (bd 0)), (1, .int p1)]) hx hb dX7_comparesOne_108 hl (by decide) rfl (fun ls hl => ?_)
        refine lv_iload hx hb dX7_comparesOne_110 (lv_at hl 1 rfl) ?_
        have hJ172 : ∀ (t6 : Int32), m_X7_comparesOne_J172 t4 p1 S t5 x1 t6 = some SZ → ∀ (H : Heap) (locs : List Loc) (ls : Array Slot), va_P D vwCl (mw cyI cyJ cyZ bd S) H → va_S (MA bd) s.heap H locs → lv_has ls 9 [(6, .int t5), (5, .int t4), (2, .int x1), (0, .ref (bd 0)), (1, .int p1)] → W p l e rl_X7_comparesOne s m args below meth c H locs 0 0 (MQ below (PoV D (mw cyI cyJ cyZ bd SZ) (MA bd)) args s 0 0 (MA bd)) (F0 m 172 ls [.int t6]) := by
          intro t6 hf H locs ls hP hS hl
          unfold m_X7_comparesOne_J172 at hf
          refine lv_istore (lv' := [(7, .int t6), (6, .int t5), (5, .int t4), (2, .int x1), (0, .ref (bd 0)), (1, .int p1)]) hx hb dX7_comparesOne_172 hl (by decide) rfl (fun ls hl => ?_)
          refine lv_iload hx hb dX7_comparesOne_174 (lv_at hl 2 rfl) ?_
          refine lv_iconst (v := (nI 1)) hx hb dX7_comparesOne_176 (by decide) ?_
          refine lv_icmp_le (tgt := 245) hx hb dX7_comparesOne_177 (by decide) (fun hc => ?_) (fun hc => ?_)
          · have hf := ifp hf hc
            refine lv_iload hx hb dX7_comparesOne_245 (lv_at hl 0 rfl) ?_
            refine lv_if_eq (tgt := 263) hx hb dX7_comparesOne_247 (by decide) (fun hc => ?_) (fun hc => ?_)
            · have hf := ifp hf hc
              refine lv_aload_n hx hb dX7_comparesOne_263 rfl (lv_at hl 4 rfl) ?_
              refine va_get (D := D) (ci := 7) (v := .ref (bd 28)) (C := RX7) (T := TX7) (N := 48) hx hb hts hin7 hown hK hP 0 (mw_o (S := S)) rfl 32 (by decide) hfl93 (fun _ h9 => h9) mw_f32 dX7_comparesOne_264 ?_
              refine lv_iload_n hx hb dX7_comparesOne_267 rfl (lv_at hl 5 rfl) ?_
              refine lv_bipush (v := (nI 10)) hx hb dX7_comparesOne_268 (by decide) ?_
              refine lv_aload_n hx hb dX7_comparesOne_270 rfl (lv_at hl 4 rfl) ?_
              refine va_get (D := D) (ci := 7) (v := .ref (bd 32)) (C := RX7) (T := TX7) (N := 48) hx hb hts hin7 hown hK hP 0 (mw_o (S := S)) rfl 37 (by decide) hfl105 (fun _ h9 => h9) mw_f37 dX7_comparesOne_271 ?_
              refine lv_iload_n hx hb dX7_comparesOne_274 rfl (lv_at hl 5 rfl) ?_
              obtain ⟨hin, hf⟩ := zg_k hf
              refine va_iald hx hb hK hP 32 0 (mw_a37 (S := S)) rfl (inb_k hin) dX7_comparesOne_275 ?_
              refine lv_iadd hx hb dX7_comparesOne_276 ?_
              obtain ⟨hin, hf⟩ := zg_k hf
              refine va_iast hx hb hK hP (mw_D hAd) hS 28 0 (mw_a32 (S := S)) rfl (inb_k hin) dX7_comparesOne_277 (fun H locs hP _ hS => ?_)
              have hP : va_P D vwCl (mw cyI cyJ cyZ bd (wi S 32 (Int32.toNatClampNeg p1) ((nI 10) + (ri S 37 p1)))) H := by rw [← mw_s32]; exact hP
              obtain ⟨S7, eS7, hf⟩ := zb_k hf
              rw [← eS7] at hP
              refine lv_aload_n hx hb dX7_comparesOne_278 rfl (lv_at hl 4 rfl) ?_
              refine va_get (D := D) (ci := 7) (v := .ref (bd 31)) (C := RX7) (T := TX7) (N := 48) hx hb hts hin7 hown hK hP 0 (mw_o (S := S7)) rfl 36 (by decide) hfl102 (fun _ h9 => h9) mw_f36 dX7_comparesOne_279 ?_
              refine lv_iload_n hx hb dX7_comparesOne_282 rfl (lv_at hl 5 rfl) ?_
              refine lv_iconst (v := (nI 0)) hx hb dX7_comparesOne_283 (by decide) ?_
              obtain ⟨hin, hf⟩ := zg_k hf
              refine va_zast hx hb hK hP (mw_D hAd) hS 31 2 (mw_a36 (S := S7)) rfl (inb_k hin) dX7_comparesOne_284 (fun H locs hP _ hS => ?_)
              have hP : va_P D vwCl (mw cyI cyJ cyZ bd (wi S7 36 (Int32.toNatClampNeg p1) (nI 0))) H := by rw [← mw_s36]; exact hP
              obtain ⟨S8, eS8, hf⟩ := zb_k hf
              rw [← eS8] at hP
              refine lv_aload_n hx hb dX7_comparesOne_285 rfl (lv_at hl 4 rfl) ?_
              refine va_get (D := D) (ci := 7) (v := .ref (bd 32)) (C := RX7) (T := TX7) (N := 48) hx hb hts hin7 hown hK hP 0 (mw_o (S := S8)) rfl 37 (by decide) hfl105 (fun _ h9 => h9) mw_f37 dX7_comparesOne_286 ?_
              refine lv_iload_n hx hb dX7_comparesOne_289 rfl (lv_at hl 5 rfl) ?_
              refine lv_iconst (v := (nI 0)) hx hb dX7_comparesOne_290 (by decide) ?_
              obtain ⟨hin, hf⟩ := zg_k hf
              refine va_iast hx hb hK hP (mw_D hAd) hS 32 0 (mw_a37 (S := S8)) rfl (inb_k hin) dX7_comparesOne_291 (fun H locs hP _ hS => ?_)
              have hP : va_P D vwCl (mw cyI cyJ cyZ bd (wi S8 37 (Int32.toNatClampNeg p1) (nI 0))) H := by rw [← mw_s37]; exact hP
              obtain ⟨S9, eS9, hf⟩ := zb_k hf
              rw [← eS9] at hP
              cases Option.some.inj hf
              exact fin_v hx hb hr hlk hS hP dX7_comparesOne_292
            · have hf := ifn hf hc
              refine lv_aload_n hx hb dX7_comparesOne_250 rfl (lv_at hl 4 rfl) ?_
              refine va_get (D := D) (ci := 7) (v := .ref (bd 32)) (C := RX7) (T := TX7) (N := 48) hx hb hts hin7 hown hK hP 0 (mw_o (S := S)) rfl 37 (by decide) hfl105 (fun _ h9 => h9) mw_f37 dX7_comparesOne_251 ?_
              refine lv_iload_n hx hb dX7_comparesOne_254 rfl (lv_at hl 5 rfl) ?_
              refine lv_dup2_11 hx hb dX7_comparesOne_255 rfl rfl ?_
              obtain ⟨hin, hf⟩ := zg_k hf
              refine va_iald hx hb hK hP 32 0 (mw_a37 (S := S)) rfl (inb_k hin) dX7_comparesOne_256 ?_
              refine lv_iconst (v := (nI 1)) hx hb dX7_comparesOne_257 (by decide) ?_
              refine lv_iadd hx hb dX7_comparesOne_258 ?_
              obtain ⟨hin, hf⟩ := zg_k hf
              refine va_iast hx hb hK hP (mw_D hAd) hS 32 0 (mw_a37 (S := S)) rfl (inb_k hin) dX7_comparesOne_259 (fun H locs hP _ hS => ?_)
              have hP : va_P D vwCl (mw cyI cyJ cyZ bd (wi S 37 (Int32.toNatClampNeg p1) ((ri S 37 p1) + (nI 1)))) H := by rw [← mw_s37]; exact hP
              obtain ⟨S10, eS10, hf⟩ := zb_k hf
              rw [← eS10] at hP
              refine lv_goto (tgt := 292) hx hb dX7_comparesOne_260 (by decide) ?_
              cases Option.some.inj hf
              exact fin_v hx hb hr hlk hS hP dX7_comparesOne_292
          · have hf := ifn hf hc
            refine lv_iload hx hb dX7_comparesOne_180 (lv_at hl 2 rfl) ?_
            refine lv_iload hx hb dX7_comparesOne_182 (lv_at hl 1 rfl) ?_
            refine lv_iload_n hx hb dX7_comparesOne_184 rfl (lv_at hl 5 rfl) ?_
            refine lv_iconst (v := (nI 2)) hx hb dX7_comparesOne_185 (by decide) ?_
            refine lv_irem hx hb dX7_comparesOne_186 (by decide) ?_
            obtain ⟨x11, hc187, hf⟩ := zo_k hf
            refine cal_i (rnS (As := [.int t4, .int t5, .int (irm p1 (nI 2))]) (rest := []) ⟨hx, hb, hml, hown, hts⟩ (c_X7_nodeOf hAd  hc187) (va_cwS 3 hts gX7_comparesOne_X7_nodeOf rfl rfl rfl cdS_X7_nodeOf ⟨Nat.le_of_ble_eq_true rfl, Nat.le_of_ble_eq_true rfl⟩) hP hK hN rfl hl.1 rfl (Nat.le_of_ble_eq_true rfl) dX7_comparesOne_187 ⟨Nat.zero_le _, Nat.zero_le _⟩) hS (fun H locs hP hS => ?_)
            refine lv_istore (lv' := [(8, .int x11), (7, .int t6), (6, .int t5), (5, .int t4), (2, .int x1), (0, .ref (bd 0)), (1, .int p1)]) hx hb dX7_comparesOne_190 hl (by decide) rfl (fun ls hl => ?_)
            refine lv_aload_n hx hb dX7_comparesOne_192 rfl (lv_at hl 5 rfl) ?_
            refine va_get (D := D) (ci := 7) (v := .ref (bd 25)) (C := RX7) (T := TX7) (N := 48) hx hb hts hin7 hown hK hP 0 (mw_o (S := S)) rfl 29 (by decide) hfl84 (fun _ h9 => h9) mw_f29 dX7_comparesOne_193 ?_
            refine lv_iload hx hb dX7_comparesOne_196 (lv_at hl 0 rfl) ?_
            obtain ⟨hin, hf⟩ := zg_k hf
            refine va_iald hx hb hK hP 25 0 (mw_a29 (S := S)) rfl (inb_k hin) dX7_comparesOne_198 ?_
            refine lv_if_ne (tgt := 209) hx hb dX7_comparesOne_199 (by decide) (fun hc => ?_) (fun hc => ?_)
            · have hf := ifn hf hc
              refine lv_aload_n hx hb dX7_comparesOne_209 rfl (lv_at hl 5 rfl) ?_
              refine va_get (D := D) (ci := 7) (v := .ref (bd 25)) (C := RX7) (T := TX7) (N := 48) hx hb hts hin7 hown hK hP 0 (mw_o (S := S)) rfl 29 (by decide) hfl84 (fun _ h9 => h9) mw_f29 dX7_comparesOne_210 ?_
              refine lv_iload hx hb dX7_comparesOne_213 (lv_at hl 0 rfl) ?_
              obtain ⟨hin, hf⟩ := zg_k hf
              refine va_iald hx hb hK hP 25 0 (mw_a29 (S := S)) rfl (inb_k hin) dX7_comparesOne_215 ?_
              refine lv_iconst (v := (nI 2)) hx hb dX7_comparesOne_216 (by decide) ?_
              refine lv_icmp_ne (tgt := 242) hx hb dX7_comparesOne_217 (by decide) (fun hc => ?_) (fun hc => ?_)
              · have hf := ifn hf hc
                refine lv_iconst (v := (nI 0)) hx hb dX7_comparesOne_242 (by decide) ?_
                refine lv_istore (lv' := [(7, .int (nI 0)), (8, .int x11), (6, .int t5), (5, .int t4), (2, .int x1), (0, .ref (bd 0)), (1, .int p1)]) hx hb dX7_comparesOne_243 hl (by decide) rfl (fun ls hl => ?_)
                refine lv_iload hx hb dX7_comparesOne_245 (lv_at hl 0 rfl) ?_
                refine lv_if_eq (tgt := 263) hx hb dX7_comparesOne_247 (by decide) (fun _ => ?_) (fun hc => absurd (by decide) hc)
                refine lv_aload_n hx hb dX7_comparesOne_263 rfl (lv_at hl 5 rfl) ?_
                refine va_get (D := D) (ci := 7) (v := .ref (bd 28)) (C := RX7) (T := TX7) (N := 48) hx hb hts hin7 hown hK hP 0 (mw_o (S := S)) rfl 32 (by decide) hfl93 (fun _ h9 => h9) mw_f32 dX7_comparesOne_264 ?_
                refine lv_iload_n hx hb dX7_comparesOne_267 rfl (lv_at hl 6 rfl) ?_
                refine lv_bipush (v := (nI 10)) hx hb dX7_comparesOne_268 (by decide) ?_
                refine lv_aload_n hx hb dX7_comparesOne_270 rfl (lv_at hl 5 rfl) ?_
                refine va_get (D := D) (ci := 7) (v := .ref (bd 32)) (C := RX7) (T := TX7) (N := 48) hx hb hts hin7 hown hK hP 0 (mw_o (S := S)) rfl 37 (by decide) hfl105 (fun _ h9 => h9) mw_f37 dX7_comparesOne_271 ?_
                refine lv_iload_n hx hb dX7_comparesOne_274 rfl (lv_at hl 6 rfl) ?_
                obtain ⟨hin, hf⟩ := zg_k hf
                refine va_iald hx hb hK hP 32 0 (mw_a37 (S := S)) rfl (inb_k hin) dX7_comparesOne_275 ?_
                refine lv_iadd hx hb dX7_comparesOne_276 ?_
                obtain ⟨hin, hf⟩ := zg_k hf
                refine va_iast hx hb hK hP (mw_D hAd) hS 28 0 (mw_a32 (S := S)) rfl (inb_k hin) dX7_comparesOne_277 (fun H locs hP _ hS => ?_)
                have hP : va_P D vwCl (mw cyI cyJ cyZ bd (wi S 32 (Int32.toNatClampNeg p1) ((nI 10) + (ri S 37 p1)))) H := by rw [← mw_s32]; exact hP
                obtain ⟨S12, eS12, hf⟩ := zb_k hf
                rw [← eS12] at hP
                refine lv_aload_n hx hb dX7_comparesOne_278 rfl (lv_at hl 5 rfl) ?_
                refine va_get (D := D) (ci := 7) (v := .ref (bd 31)) (C := RX7) (T := TX7) (N := 48) hx hb hts hin7 hown hK hP 0 (mw_o (S := S12)) rfl 36 (by decide) hfl102 (fun _ h9 => h9) mw_f36 dX7_comparesOne_279 ?_
                refine lv_iload_n hx hb dX7_comparesOne_282 rfl (lv_at hl 6 rfl) ?_
                refine lv_iconst (v := (nI 0)) hx hb dX7_comparesOne_283 (by decide) ?_
                obtain ⟨hin, hf⟩ := zg_k hf
                refine va_zast hx hb hK hP (mw_D hAd) hS 31 2 (mw_a36 (S := S12)) rfl (inb_k hin) dX7_comparesOne_284 (fun H locs hP _ hS => ?_)
                have hP : va_P D vwCl (mw cyI cyJ cyZ bd (wi S12 36 (Int32.toNatClampNeg p1) (nI 0))) H := by rw [← mw_s36]; exact hP
                obtain ⟨S13, eS13, hf⟩ := zb_k hf
                rw [← eS13] at hP
                refine lv_aload_n hx hb dX7_comparesOne_285 rfl (lv_at hl 5 rfl) ?_
                refine va_get (D := D) (ci := 7) (v := .ref (bd 32)) (C := RX7) (T := TX7) (N := 48) hx hb hts hin7 hown hK hP 0 (mw_o (S := S13)) rfl 37 (by decide) hfl105 (fun _ h9 => h9) mw_f37 dX7_comparesOne_286 ?_
                refine lv_iload_n hx hb dX7_comparesOne_289 rfl (lv_at hl 6 rfl) ?_
                refine lv_iconst (v := (nI 0)) hx hb dX7_comparesOne_290 (by decide) ?_
                obtain ⟨hin, hf⟩ := zg_k hf
                refine va_iast hx hb hK hP (mw_D hAd) hS 32 0 (mw_a37 (S := S13)) rfl (inb_k hin) dX7_comparesOne_291 (fun H locs hP _ hS => ?_)
                have hP : va_P D vwCl (mw cyI cyJ cyZ bd (wi S13 37 (Int32.toNatClampNeg p1) (nI 0))) H := by rw [← mw_s37]; exact hP
                obtain ⟨S14, eS14, hf⟩ := zb_k hf
                rw [← eS14] at hP
                cases Option.some.inj hf
                exact fin_v hx hb hr hlk hS hP dX7_comparesOne_292
              · have hf := ifp hf hc
                refine lv_aload_n hx hb dX7_comparesOne_220 rfl (lv_at hl 5 rfl) ?_
                refine va_get (D := D) (ci := 7) (v := .ref (bd 26)) (C := RX7) (T := TX7) (N := 48) hx hb hts hin7 hown hK hP 0 (mw_o (S := S)) rfl 30 (by decide) hfl87 (fun _ h9 => h9) mw_f30 dX7_comparesOne_221 ?_
                refine lv_iload hx hb dX7_comparesOne_224 (lv_at hl 0 rfl) ?_
                obtain ⟨hin, hf⟩ := zg_k hf
                refine va_iald hx hb hK hP 26 0 (mw_a30 (S := S)) rfl (inb_k hin) dX7_comparesOne_226 ?_
                refine lv_i2l hx hb dX7_comparesOne_227 rfl ?_
                refine lv_aload_n hx hb dX7_comparesOne_228 rfl (lv_at hl 5 rfl) ?_
                refine va_get (D := D) (ci := 7) (v := .ref (bd 18)) (C := RX7) (T := TX7) (N := 48) hx hb hts hin7 hown hK hP 0 (mw_o (S := S)) rfl 21 (by decide) hfl63 (fun _ h9 => h9) mw_f21 dX7_comparesOne_229 ?_
                refine lv_iload_n hx hb dX7_comparesOne_232 rfl (lv_at hl 4 rfl) ?_
                obtain ⟨hin, hf⟩ := zg_k hf
                refine va_lald hx hb hK hP 18 1 (mw_a21 (S := S)) rfl (inb_k hin) dX7_comparesOne_233 ?_
                refine W.lcmp hx hb dX7_comparesOne_234 ?_
                refine lv_if_ne (tgt := 242) hx hb dX7_comparesOne_235 (by decide) (fun hc => ?_) (fun hc => ?_)
                · have hf := ifn hf hc
                  refine lv_iconst (v := (nI 0)) hx hb dX7_comparesOne_242 (by decide) ?_
                  refine lv_istore (lv' := [(7, .int (nI 0)), (8, .int x11), (6, .int t5), (5, .int t4), (2, .int x1), (0, .ref (bd 0)), (1, .int p1)]) hx hb dX7_comparesOne_243 hl (by decide) rfl (fun ls hl => ?_)
                  refine lv_iload hx hb dX7_comparesOne_245 (lv_at hl 0 rfl) ?_
                  refine lv_if_eq (tgt := 263) hx hb dX7_comparesOne_247 (by decide) (fun _ => ?_) (fun hc => absurd (by decide) hc)
                  refine lv_aload_n hx hb dX7_comparesOne_263 rfl (lv_at hl 5 rfl) ?_
                  refine va_get (D := D) (ci := 7) (v := .ref (bd 28)) (C := RX7) (T := TX7) (N := 48) hx hb hts hin7 hown hK hP 0 (mw_o (S := S)) rfl 32 (by decide) hfl93 (fun _ h9 => h9) mw_f32 dX7_comparesOne_264 ?_
                  refine lv_iload_n hx hb dX7_comparesOne_267 rfl (lv_at hl 6 rfl) ?_
                  refine lv_bipush (v := (nI 10)) hx hb dX7_comparesOne_268 (by decide) ?_
                  refine lv_aload_n hx hb dX7_comparesOne_270 rfl (lv_at hl 5 rfl) ?_
                  refine va_get (D := D) (ci := 7) (v := .ref (bd 32)) (C := RX7) (T := TX7) (N := 48) hx hb hts hin7 hown hK hP 0 (mw_o (S := S)) rfl 37 (by decide) hfl105 (fun _ h9 => h9) mw_f37 dX7_comparesOne_271 ?_
                  refine lv_iload_n hx hb dX7_comparesOne_274 rfl (lv_at hl 6 rfl) ?_
                  obtain ⟨hin, hf⟩ := zg_k hf
                  refine va_iald hx hb hK hP 32 0 (mw_a37 (S := S)) rfl (inb_k hin) dX7_comparesOne_275 ?_
                  refine lv_iadd hx hb dX7_comparesOne_276 ?_
                  obtain ⟨hin, hf⟩ := zg_k hf
                  refine va_iast hx hb hK hP (mw_D hAd) hS 28 0 (mw_a32 (S := S)) rfl (inb_k hin) dX7_comparesOne_277 (fun H locs hP _ hS => ?_)
                  have hP : va_P D vwCl (mw cyI cyJ cyZ bd (wi S 32 (Int32.toNatClampNeg p1) ((nI 10) + (ri S 37 p1)))) H := by rw [← mw_s32]; exact hP
                  obtain ⟨S15, eS15, hf⟩ := zb_k hf
                  rw [← eS15] at hP
                  refine lv_aload_n hx hb dX7_comparesOne_278 rfl (lv_at hl 5 rfl) ?_
                  refine va_get (D := D) (ci := 7) (v := .ref (bd 31)) (C := RX7) (T := TX7) (N := 48) hx hb hts hin7 hown hK hP 0 (mw_o (S := S15)) rfl 36 (by decide) hfl102 (fun _ h9 => h9) mw_f36 dX7_comparesOne_279 ?_
                  refine lv_iload_n hx hb dX7_comparesOne_282 rfl (lv_at hl 6 rfl) ?_
                  refine lv_iconst (v := (nI 0)) hx hb dX7_comparesOne_283 (by decide) ?_
                  obtain ⟨hin, hf⟩ := zg_k hf
                  refine va_zast hx hb hK hP (mw_D hAd) hS 31 2 (mw_a36 (S := S15)) rfl (inb_k hin) dX7_comparesOne_284 (fun H locs hP _ hS => ?_)
                  have hP : va_P D vwCl (mw cyI cyJ cyZ bd (wi S15 36 (Int32.toNatClampNeg p1) (nI 0))) H := by rw [← mw_s36]; exact hP
                  obtain ⟨S16, eS16, hf⟩ := zb_k hf
                  rw [← eS16] at hP
                  refine lv_aload_n hx hb dX7_comparesOne_285 rfl (lv_at hl 5 rfl) ?_
                  refine va_get (D := D) (ci := 7) (v := .ref (bd 32)) (C := RX7) (T := TX7) (N := 48) hx hb hts hin7 hown hK hP 0 (mw_o (S := S16)) rfl 37 (by decide) hfl105 (fun _ h9 => h9) mw_f37 dX7_comparesOne_286 ?_
                  refine lv_iload_n hx hb dX7_comparesOne_289 rfl (lv_at hl 6 rfl) ?_
                  refine lv_iconst (v := (nI 0)) hx hb dX7_comparesOne_290 (by decide) ?_
                  obtain ⟨hin, hf⟩ := zg_k hf
                  refine va_iast hx hb hK hP (mw_D hAd) hS 32 0 (mw_a37 (S := S16)) rfl (inb_k hin) dX7_comparesOne_291 (fun H locs hP _ hS => ?_)
                  have hP : va_P D vwCl (mw cyI cyJ cyZ bd (wi S16 37 (Int32.toNatClampNeg p1) (nI 0))) H := by rw [← mw_s37]; exact hP
                  obtain ⟨S17, eS17, hf⟩ := zb_k hf
                  rw [← eS17] at hP
                  cases Option.some.inj hf
                  exact fin_v hx hb hr hlk hS hP dX7_comparesOne_292
                · have hf := ifp hf hc
                  refine lv_iconst (v := (nI 1)) hx hb dX7_comparesOne_238 (by decide) ?_
                  refine lv_goto (tgt := 243) hx hb dX7_comparesOne_239 (by decide) ?_
                  refine lv_istore (lv' := [(7, .int (nI 1)), (8, .int x11), (6, .int t5), (5, .int t4), (2, .int x1), (0, .ref (bd 0)), (1, .int p1)]) hx hb dX7_comparesOne_243 hl (by decide) rfl (fun ls hl => ?_)
                  refine lv_iload hx hb dX7_comparesOne_245 (lv_at hl 0 rfl) ?_
                  refine lv_if_eq (tgt := 263) hx hb dX7_comparesOne_247 (by decide) (fun hc => absurd hc (by decide)) (fun _ => ?_)
                  refine lv_aload_n hx hb dX7_comparesOne_250 rfl (lv_at hl 5 rfl) ?_
                  refine va_get (D := D) (ci := 7) (v := .ref (bd 32)) (C := RX7) (T := TX7) (N := 48) hx hb hts hin7 hown hK hP 0 (mw_o (S := S)) rfl 37 (by decide) hfl105 (fun _ h9 => h9) mw_f37 dX7_comparesOne_251 ?_
                  refine lv_iload_n hx hb dX7_comparesOne_254 rfl (lv_at hl 6 rfl) ?_
                  refine lv_dup2_11 hx hb dX7_comparesOne_255 rfl rfl ?_
                  obtain ⟨hin, hf⟩ := zg_k hf
                  refine va_iald hx hb hK hP 32 0 (mw_a37 (S := S)) rfl (inb_k hin) dX7_comparesOne_256 ?_
                  refine lv_iconst (v := (nI 1)) hx hb dX7_comparesOne_257 (by decide) ?_
                  refine lv_iadd hx hb dX7_comparesOne_258 ?_
                  obtain ⟨hin, hf⟩ := zg_k hf
                  refine va_iast hx hb hK hP (mw_D hAd) hS 32 0 (mw_a37 (S := S)) rfl (inb_k hin) dX7_comparesOne_259 (fun H locs hP _ hS => ?_)
                  have hP : va_P D vwCl (mw cyI cyJ cyZ bd (wi S 37 (Int32.toNatClampNeg p1) ((ri S 37 p1) + (nI 1)))) H := by rw [← mw_s37]; exact hP
                  obtain ⟨S18, eS18, hf⟩ := zb_k hf
                  rw [← eS18] at hP
                  refine lv_goto (tgt := 292) hx hb dX7_comparesOne_260 (by decide) ?_
                  cases Option.some.inj hf
                  exact fin_v hx hb hr hlk hS hP dX7_comparesOne_292
            · have hf := ifp hf hc
              refine lv_aload_n hx hb dX7_comparesOne_202 rfl (lv_at hl 5 rfl) ?_
              refine lv_iload hx hb dX7_comparesOne_203 (lv_at hl 0 rfl) ?_
              obtain ⟨S19, hc205, hf⟩ := zo_k hf
              refine cal_v (rnV (As := [.int x11]) (rest := []) ⟨hx, hb, hml, hown, hts⟩ (c_X7_pushes hAd  hc205) (cwV 1 hts gX7_comparesOne_X7_pushes rfl rfl rfl cdV_X7_pushes ⟨Nat.le_of_ble_eq_true rfl, Nat.le_of_ble_eq_true rfl⟩) hP hK hN (mw_o (S := S)) rfl rfl hl.1 rfl (Nat.le_of_ble_eq_true rfl) dX7_comparesOne_205 ⟨Nat.zero_le _, Nat.zero_le _⟩) hS (fun H locs hP hS => ?_)
              cases Option.some.inj hf
              exact fin_v hx hb hr hlk hS hP dX7_comparesOne_208
        refine lv_if_ne (tgt := 141) hx hb dX7_comparesOne_112 (by decide) (fun hc => ?_) (fun hc => ?_)
        · have hf := ifn hf hc
          refine lv_iload hx hb dX7_comparesOne_141 (lv_at hl 1 rfl) ?_
          refine lv_iconst (v := (nI 1)) hx hb dX7_comparesOne_143 (by decide) ?_
          refine lv_icmp_ne (tgt := 171) hx hb dX7_comparesOne_144 (by decide) (fun hc => ?_) (fun hc => ?_)
          · have hf := ifn hf hc
            refine lv_iconst (v := (nI 1)) hx hb dX7_comparesOne_171 (by decide) ?_
            exact hJ172 (nI 1) hf _ _ _ hP hS (lv_sub hl [0, 1, 2, 3, 4] rfl)
          · have hf := ifp hf hc
            refine lv_aload_n hx hb dX7_comparesOne_147 rfl (lv_at hl 3 rfl) ?_
            refine lv_iload hx hb dX7_comparesOne_148 (lv_at hl 0 rfl) ?_
            obtain ⟨x20, hc150, hf⟩ := zo_k hf
            refine cal_l (rnV (As := [.int t5]) (rest := []) ⟨hx, hb, hml, hown, hts⟩ (c_X7_folder hAd  hc150) (cwV 1 hts gX7_comparesOne_X7_folder rfl rfl rfl cdV_X7_folder ⟨Nat.le_of_ble_eq_true rfl, Nat.le_of_ble_eq_true rfl⟩) hP hK hN (mw_o (S := S)) rfl rfl hl.1 rfl (Nat.le_of_ble_eq_true rfl) dX7_comparesOne_150 ⟨Nat.zero_le _, Nat.zero_le _⟩) hS (fun H locs hP hS => ?_)
            refine lv_aload_n hx hb dX7_comparesOne_153 rfl (lv_at hl 3 rfl) ?_
            refine va_get (D := D) (ci := 7) (v := .ref (bd 18)) (C := RX7) (T := TX7) (N := 48) hx hb hts hin7 hown hK hP 0 (mw_o (S := S)) rfl 21 (by decide) hfl63 (fun _ h9 => h9) mw_f21 dX7_comparesOne_154 ?_
            refine lv_iload_n hx hb dX7_comparesOne_157 rfl (lv_at hl 2 rfl) ?_
            obtain ⟨hin, hf⟩ := zg_k hf
            refine va_lald hx hb hK hP 18 1 (mw_a21 (S := S)) rfl (inb_k hin) dX7_comparesOne_158 ?_
            refine W.lcmp hx hb dX7_comparesOne_159 ?_
            refine lv_if_ne (tgt := 167) hx hb dX7_comparesOne_160 (by decide) (fun hc => ?_) (fun hc => ?_)
            · have hf := ifn hf hc
              refine lv_iconst (v := (nI 0)) hx hb dX7_comparesOne_167 (by decide) ?_
              refine lv_goto (tgt := 172) hx hb dX7_comparesOne_168 (by decide) ?_
              exact hJ172 (nI 0) hf _ _ _ hP hS (lv_sub hl [0, 1, 2, 3, 4] rfl)
            · have hf := ifp hf hc
              refine lv_iconst (v := (nI 1)) hx hb dX7_comparesOne_163 (by decide) ?_
              refine lv_goto (tgt := 172) hx hb dX7_comparesOne_164 (by decide) ?_
              exact hJ172 (nI 1) hf _ _ _ hP hS (lv_sub hl [0, 1, 2, 3, 4] rfl)
        · have hf := ifp hf hc
          refine lv_aload_n hx hb dX7_comparesOne_115 rfl (lv_at hl 3 rfl) ?_
          refine va_get (D := D) (ci := 7) (v := .ref (bd 1)) (C := RX7) (T := TX7) (N := 48) hx hb hts hin7 hown hK hP 0 (mw_o (S := S)) rfl 0 (by decide) hfl7 (fun _ h9 => h9) mw_f0 dX7_comparesOne_116 ?_
          refine lv_iload hx hb dX7_comparesOne_119 (lv_at hl 0 rfl) ?_
          obtain ⟨hin, hf⟩ := zg_k hf
          refine va_iald hx hb hK hP 1 0 (mw_a0 (S := S)) rfl (inb_k hin) dX7_comparesOne_121 ?_
          refine lv_i2l hx hb dX7_comparesOne_122 rfl ?_
          refine lv_aload_n hx hb dX7_comparesOne_123 rfl (lv_at hl 3 rfl) ?_
          refine va_get (D := D) (ci := 7) (v := .ref (bd 18)) (C := RX7) (T := TX7) (N := 48) hx hb hts hin7 hown hK hP 0 (mw_o (S := S)) rfl 21 (by decide) hfl63 (fun _ h9 => h9) mw_f21 dX7_comparesOne_124 ?_
          refine lv_iload_n hx hb dX7_comparesOne_127 rfl (lv_at hl 2 rfl) ?_
          obtain ⟨hin, hf⟩ := zg_k hf
          refine va_lald hx hb hK hP 18 1 (mw_a21 (S := S)) rfl (inb_k hin) dX7_comparesOne_128 ?_
          refine W.lcmp hx hb dX7_comparesOne_129 ?_
          refine lv_if_ne (tgt := 137) hx hb dX7_comparesOne_130 (by decide) (fun hc => ?_) (fun hc => ?_)
          · have hf := ifn hf hc
            refine lv_iconst (v := (nI 0)) hx hb dX7_comparesOne_137 (by decide) ?_
            refine lv_goto (tgt := 172) hx hb dX7_comparesOne_138 (by decide) ?_
            exact hJ172 (nI 0) hf _ _ _ hP hS (lv_sub hl [0, 1, 2, 3, 4] rfl)
          · have hf := ifp hf hc
            refine lv_iconst (v := (nI 1)) hx hb dX7_comparesOne_133 (by decide) ?_
            refine lv_goto (tgt := 172) hx hb dX7_comparesOne_134 (by decide) ?_
            exact hJ172 (nI 1) hf _ _ _ hP hS (lv_sub hl [0, 1, 2, 3, 4] rfl)
      refine lv_icmp_ne (tgt := 97) hx hb dX7_comparesOne_85 (by decide) (fun hc => ?_) (fun hc => ?_)
      · have hf := ifn hf hc
        refine lv_aload_n hx hb dX7_comparesOne_97 rfl (lv_at hl 4 rfl) ?_
        refine va_get (D := D) (ci := 7) (v := .ref (bd 8)) (C := RX7) (T := TX7) (N := 48) hx hb hts hin7 hown hK hP 0 (mw_o (S := S)) rfl 7 (by decide) hfl31 (fun _ h9 => h9) mw_f7 dX7_comparesOne_98 ?_
        refine lv_iconst (v := (nI 4)) hx hb dX7_comparesOne_101 (by decide) ?_
        refine lv_iload hx hb dX7_comparesOne_102 (lv_at hl 1 rfl) ?_
        refine lv_imul hx hb dX7_comparesOne_104 ?_
        refine lv_iload_n hx hb dX7_comparesOne_105 rfl (lv_at hl 2 rfl) ?_
        refine lv_iadd hx hb dX7_comparesOne_106 ?_
        obtain ⟨hin, hf⟩ := zg_k hf
        refine va_iald hx hb hK hP 8 0 (mw_a7 (S := S)) rfl (inb_k hin) dX7_comparesOne_107 ?_
        exact hJ108 (ri S 7 (((nI 4) * x3) + x2)) hf _ _ _ hP hS (lv_sub hl [0, 3, 4, 5] rfl)
      · have hf := ifp hf hc
        refine lv_aload_n hx hb dX7_comparesOne_88 rfl (lv_at hl 4 rfl) ?_
        refine va_get (D := D) (ci := 7) (v := .ref (bd 17)) (C := RX7) (T := TX7) (N := 48) hx hb hts hin7 hown hK hP 0 (mw_o (S := S)) rfl 20 (by decide) hfl60 (fun _ h9 => h9) mw_f20 dX7_comparesOne_89 ?_
        refine lv_iload_n hx hb dX7_comparesOne_92 rfl (lv_at hl 3 rfl) ?_
        obtain ⟨hin, hf⟩ := zg_k hf
        refine va_iald hx hb hK hP 17 0 (mw_a20 (S := S)) rfl (inb_k hin) dX7_comparesOne_93 ?_
        refine lv_goto (tgt := 108) hx hb dX7_comparesOne_94 (by decide) ?_
        exact hJ108 (ri S 20 x1) hf _ _ _ hP hS (lv_sub hl [0, 3, 4, 5] rfl)
    refine lv_icmp_ne (tgt := 70) hx hb dX7_comparesOne_63 (by decide) (fun hc => ?_) (fun hc => ?_)
    · have hf := ifn hf hc
      refine lv_aload_n hx hb dX7_comparesOne_70 rfl (lv_at hl 3 rfl) ?_
      refine va_get (D := D) (ci := 7) (v := .ref (bd 7)) (C := RX7) (T := TX7) (N := 48) hx hb hts hin7 hown hK hP 0 (mw_o (S := S)) rfl 6 (by decide) hfl28 (fun _ h9 => h9) mw_f6 dX7_comparesOne_71 ?_
      refine lv_iconst (v := (nI 4)) hx hb dX7_comparesOne_74 (by decide) ?_
      refine lv_iload hx hb dX7_comparesOne_75 (lv_at hl 0 rfl) ?_
      refine lv_imul hx hb dX7_comparesOne_77 ?_
      refine lv_iload_n hx hb dX7_comparesOne_78 rfl (lv_at hl 1 rfl) ?_
      refine lv_iadd hx hb dX7_comparesOne_79 ?_
      obtain ⟨hin, hf⟩ := zg_k hf
      refine va_iald hx hb hK hP 7 0 (mw_a6 (S := S)) rfl (inb_k hin) dX7_comparesOne_80 ?_
      exact hJ81 (ri S 6 (((nI 4) * x3) + x2)) hf _ _ _ hP hS (lv_sub hl [0, 1, 2, 3, 4] rfl)
    · have hf := ifp hf hc
      refine lv_iconst (v := (nI 0)) hx hb dX7_comparesOne_66 (by decide) ?_
      refine lv_goto (tgt := 81) hx hb dX7_comparesOne_67 (by decide) ?_
      exact hJ81 (nI 0) hf _ _ _ hP hS (lv_sub hl [0, 1, 2, 3, 4] rfl)
  · have hf := ifp hf hc
    refine lv_aload_n hx hb dX7_comparesOne_15 rfl (lv_at hl 0 rfl) ?_
    refine va_get (D := D) (ci := 7) (v := .ref (bd 29)) (C := RX7) (T := TX7) (N := 48) hx hb hts hin7 hown hK hP 0 (mw_o (S := S)) rfl 33 (by decide) hfl96 (fun _ h9 => h9) mw_f33 dX7_comparesOne_16 ?_
    refine lv_iconst (v := (nI 2)) hx hb dX7_comparesOne_19 (by decide) ?_
    refine lv_dup2_11 hx hb dX7_comparesOne_20 rfl rfl ?_
    obtain ⟨hin, hf⟩ := zg_k hf
    refine va_iald hx hb hK hP 29 0 (mw_a33 (S := S)) rfl (inb_k hin) dX7_comparesOne_21 ?_
    refine lv_iconst (v := (nI 1)) hx hb dX7_comparesOne_22 (by decide) ?_
    refine lv_iadd hx hb dX7_comparesOne_23 ?_
    obtain ⟨hin, hf⟩ := zg_k hf
    refine va_iast hx hb hK hP (mw_D hAd) hS 29 0 (mw_a33 (S := S)) rfl (inb_k hin) dX7_comparesOne_24 (fun H locs hP _ hS => ?_)
    have hP : va_P D vwCl (mw cyI cyJ cyZ bd (wi S 33 (Int32.toNatClampNeg (nI 2)) ((ri S 33 (nI 2)) + (nI 1)))) H := by rw [← mw_s33]; exact hP
    obtain ⟨S21, eS21, hf⟩ := zb_k hf
    rw [← eS21] at hP
    refine lv_aload_n hx hb dX7_comparesOne_25 rfl (lv_at hl 0 rfl) ?_
    refine lv_iload_n hx hb dX7_comparesOne_26 rfl (lv_at hl 1 rfl) ?_
    refine lv_aload_n hx hb dX7_comparesOne_27 rfl (lv_at hl 0 rfl) ?_
    refine va_get (D := D) (ci := 7) (v := .ref (bd 19)) (C := RX7) (T := TX7) (N := 48) hx hb hts hin7 hown hK hP 0 (mw_o (S := S21)) rfl 22 (by decide) hfl66 (fun _ h9 => h9) mw_f22 dX7_comparesOne_28 ?_
    refine lv_iload_n hx hb dX7_comparesOne_31 rfl (lv_at hl 1 rfl) ?_
    obtain ⟨hin, hf⟩ := zg_k hf
    refine va_iald hx hb hK hP 19 0 (mw_a22 (S := S21)) rfl (inb_k hin) dX7_comparesOne_32 ?_
    refine lv_iconst (v := (nI 1)) hx hb dX7_comparesOne_33 (by decide) ?_
    obtain ⟨S22, hc34, hf⟩ := zo_k hf
    refine cal_v (rnV (As := [.int p1, .int (ri S21 22 p1), .int (nI 1)]) (rest := []) ⟨hx, hb, hml, hown, hts⟩ (c_X7_finishes hAd  hc34) (cwV 3 hts gX7_comparesOne_X7_finishes rfl rfl rfl cdV_X7_finishes ⟨Nat.le_of_ble_eq_true rfl, Nat.le_of_ble_eq_true rfl⟩) hP hK hN (mw_o (S := S21)) rfl rfl hl.1 rfl (Nat.le_of_ble_eq_true rfl) dX7_comparesOne_34 ⟨Nat.zero_le _, Nat.zero_le _⟩) hS (fun H locs hP hS => ?_)
    cases Option.some.inj hf
    exact fin_v hx hb hr hlk hS hP dX7_comparesOne_37
set_option maxHeartbeats 4000000 in
set_option maxRecDepth 100000 in
theorem c_X7_sumOf {l : Launch} {D : va_G} {cyI cyJ cyZ : ClassId} {bd : Nat → Nat}  (hAd : AdOK 41 bd)  {S : St} {p1 : Int32} {r : Int32} (hf : m_X7_sumOf S p1 = some r) : Met l yX7_sumOf wsX7_sumOf rl_X7_sumOf (PreW D [(cyI, .int), (cyJ, .long), (cyZ, .boolean)] (mw cyI cyJ cyZ bd S) [.ref (bd 0), .int p1]) (PoI D (mw cyI cyJ cyZ bd S) (MA bd) r) 0 0 (MA bd) := by
  refine met_go (cc := cX7_sumOf) (maxL := 4) (ret := (some .int)) (by decide) rfl (Nat.le_of_ble_eq_true rfl) ?_
  intro p e s m args below meth c ls hx hb hr hml hts hown hlk hP hK hN hl
  have hown : s.vm.findClass RX7 = some m.cls := hown
  have hS : va_S (MA bd) s.heap s.heap [] := va_S.rf
  have hl : lv_has ls 4 [(0, .ref (bd 0)), (1, .int p1)] := hl
  have hin7 : ∀ w ∈ wsX70, w ∈ wsX7_sumOf := by decide +kernel
  have hfl7 := hts (.fieldLink RX7 7 "MakewheelModel" "files" "[I") (by decide +kernel)
  unfold m_X7_sumOf at hf
  refine lv_iconst (v := (nI 0)) hx hb dX7_sumOf_0 (by decide) ?_
  refine lv_istore_n (lv' := [(2, .int (nI 0)), (0, .ref (bd 0)), (1, .int p1)]) hx hb dX7_sumOf_1 rfl hl (by decide) rfl (fun ls hl => ?_)
  refine lv_iconst (v := (nI 0)) hx hb dX7_sumOf_2 (by decide) ?_
  refine lv_istore_n (lv' := [(3, .int (nI 0)), (2, .int (nI 0)), (0, .ref (bd 0)), (1, .int p1)]) hx hb dX7_sumOf_3 rfl hl (by decide) rfl (fun ls hl => ?_)
  refine zl2_ind (F := (m_X7_sumOf_B4 p1 S)) (R := r) (P := fun x1 x2 => ∀ (H : Heap) (locs : List Loc) (ls : Array Slot), va_P D vwCl (mw cyI cyJ cyZ bd S) H → va_S (MA bd) s.heap H locs → lv_has ls 4 [(0, .ref (bd 0)), (1, .int p1), (2, .int x1), (3, .int x2)] → W p l e rl_X7_sumOf s m args below meth c H locs 0 0 (MQ below (PoI D (mw cyI cyJ cyZ bd S) (MA bd) r) args s 0 0 (MA bd)) (F0 m 4 ls [])) (fun rec4 ih4 x1 x2 hf H locs ls hP hS hl => ?_) FU (nI 0) (nI 0) hf _ _ _ hP hS (lv_sub hl [2, 3, 1, 0] rfl)
  unfold m_X7_sumOf_B4 at hf
  refine lv_iload_n hx hb dX7_sumOf_4 rfl (lv_at hl 3 rfl) ?_
  refine lv_iconst (v := (nI 5)) hx hb dX7_sumOf_5 (by decide) ?_
  refine lv_icmp_ge (tgt := 46) hx hb dX7_sumOf_6 (by decide) (fun hc => ?_) (fun hc => ?_)
  · have hf := ifp hf hc
    refine lv_iload_n hx hb dX7_sumOf_46 rfl (lv_at hl 2 rfl) ?_
    refine lv_sipush (v := (nI 1000)) hx hb dX7_sumOf_47 (by decide) ?_
    refine lv_irem hx hb dX7_sumOf_50 (by decide) ?_
    exact fin_i hx hb hr hlk hS hP (Option.some.inj hf) dX7_sumOf_51
  · have hf := ifn hf hc
    refine lv_iload_n hx hb dX7_sumOf_9 rfl (lv_at hl 2 rfl) ?_
    refine lv_aload_n hx hb dX7_sumOf_10 rfl (lv_at hl 0 rfl) ?_
    refine va_get (D := D) (ci := 7) (v := .ref (bd 1)) (C := RX7) (T := TX7) (N := 48) hx hb hts hin7 hown hK hP 0 (mw_o (S := S)) rfl 0 (by decide) hfl7 (fun _ h9 => h9) mw_f0 dX7_sumOf_11 ?_
    refine lv_iconst (v := (nI 5)) hx hb dX7_sumOf_14 (by decide) ?_
    refine lv_iload_n hx hb dX7_sumOf_15 rfl (lv_at hl 1 rfl) ?_
    refine lv_imul hx hb dX7_sumOf_16 ?_
    refine lv_iload_n hx hb dX7_sumOf_17 rfl (lv_at hl 3 rfl) ?_
    refine lv_iadd hx hb dX7_sumOf_18 ?_
    obtain ⟨hin, hf⟩ := zg_k hf
    refine va_iald hx hb hK hP 1 0 (mw_a0 (S := S)) rfl (inb_k hin) dX7_sumOf_19 ?_
    refine lv_iconst (v := (-1)) hx hb dX7_sumOf_20 (by decide) ?_
    refine lv_icmp_ne (tgt := 28) hx hb dX7_sumOf_21 (by decide) (fun hc => ?_) (fun hc => ?_)
    · have hf := ifn hf hc
      refine lv_aload_n hx hb dX7_sumOf_28 rfl (lv_at hl 0 rfl) ?_
      refine va_get (D := D) (ci := 7) (v := .ref (bd 1)) (C := RX7) (T := TX7) (N := 48) hx hb hts hin7 hown hK hP 0 (mw_o (S := S)) rfl 0 (by decide) hfl7 (fun _ h9 => h9) mw_f0 dX7_sumOf_29 ?_
      refine lv_iconst (v := (nI 5)) hx hb dX7_sumOf_32 (by decide) ?_
      refine lv_iload_n hx hb dX7_sumOf_33 rfl (lv_at hl 1 rfl) ?_
      refine lv_imul hx hb dX7_sumOf_34 ?_
      refine lv_iload_n hx hb dX7_sumOf_35 rfl (lv_at hl 3 rfl) ?_
      refine lv_iadd hx hb dX7_sumOf_36 ?_
      obtain ⟨hin, hf⟩ := zg_k hf
      refine va_iald hx hb hK hP 1 0 (mw_a0 (S := S)) rfl (inb_k hin) dX7_sumOf_37 ?_
      refine lv_iadd hx hb dX7_sumOf_38 ?_
      refine lv_topi (fun x3 ex3 => ?_)
      have hf := zb_x hf ex3
      refine lv_istore_n (lv' := [(2, .int x3), (0, .ref (bd 0)), (1, .int p1), (3, .int x2)]) hx hb dX7_sumOf_39 rfl hl (by decide) rfl (fun ls hl => ?_)
      obtain ⟨x4, ex4, hf⟩ := zb_k hf
      refine lv_iinc (v := x4) (lv' := [(3, .int x4), (2, .int x3), (0, .ref (bd 0)), (1, .int p1)]) hx hb dX7_sumOf_40 hl (k := 3) rfl (by rw [ex4]; rfl) (by decide) rfl (fun ls hl => ?_)
      refine lv_goto (tgt := 4) hx hb dX7_sumOf_43 (by decide) ?_
      exact ih4 x3 x4 hf _ _ _ hP hS (lv_sub hl [2, 3, 1, 0] rfl)
    · have hf := ifp hf hc
      refine lv_iconst (v := (nI 0)) hx hb dX7_sumOf_24 (by decide) ?_
      refine lv_goto (tgt := 38) hx hb dX7_sumOf_25 (by decide) ?_
      refine lv_iadd hx hb dX7_sumOf_38 ?_
      refine lv_topi (fun x5 ex5 => ?_)
      have hf := zb_x hf ex5
      refine lv_istore_n (lv' := [(2, .int x5), (0, .ref (bd 0)), (1, .int p1), (3, .int x2)]) hx hb dX7_sumOf_39 rfl hl (by decide) rfl (fun ls hl => ?_)
      obtain ⟨x6, ex6, hf⟩ := zb_k hf
      refine lv_iinc (v := x6) (lv' := [(3, .int x6), (2, .int x5), (0, .ref (bd 0)), (1, .int p1)]) hx hb dX7_sumOf_40 hl (k := 3) rfl (by rw [ex6]; rfl) (by decide) rfl (fun ls hl => ?_)
      refine lv_goto (tgt := 4) hx hb dX7_sumOf_43 (by decide) ?_
      exact ih4 x5 x6 hf _ _ _ hP hS (lv_sub hl [2, 3, 1, 0] rfl)
set_option maxHeartbeats 4000000 in
set_option maxRecDepth 100000 in
theorem c_X7_valueRead {l : Launch} {D : va_G} {cyI cyJ cyZ : ClassId} {bd : Nat → Nat}  (hAd : AdOK 41 bd)  {S : St} {p1 : Int32} {p2 : Int32} {r : Int32} (hf : m_X7_valueRead S p1 p2 = some r) : Met l yX7_valueRead wsX7_valueRead rl_X7_valueRead (PreW D [(cyI, .int), (cyJ, .long), (cyZ, .boolean)] (mw cyI cyJ cyZ bd S) [.ref (bd 0), .int p1, .int p2]) (PoI D (mw cyI cyJ cyZ bd S) (MA bd) r) 0 0 (MA bd) := by
  refine met_go (cc := cX7_valueRead) (maxL := 4) (ret := (some .int)) (by decide) rfl (Nat.le_of_ble_eq_true rfl) ?_
  intro p e s m args below meth c ls hx hb hr hml hts hown hlk hP hK hN hl
  have hown : s.vm.findClass RX7 = some m.cls := hown
  have hS : va_S (MA bd) s.heap s.heap [] := va_S.rf
  have hl : lv_has ls 4 [(0, .ref (bd 0)), (1, .int p1), (2, .int p2)] := hl
  have hin7 : ∀ w ∈ wsX70, w ∈ wsX7_valueRead := by decide +kernel
  have hfl111 := hts (.fieldLink RX7 111 "MakewheelModel" "slots" "[I") (by decide +kernel)
  have hfl28 := hts (.fieldLink RX7 28 "MakewheelModel" "whats" "[I") (by decide +kernel)
  have hfl117 := hts (.fieldLink RX7 117 "MakewheelModel" "readValues" "[J") (by decide +kernel)
  have hfl31 := hts (.fieldLink RX7 31 "MakewheelModel" "whiches" "[I") (by decide +kernel)
  unfold m_X7_valueRead at hf
  refine lv_iconst (v := (nI 4)) hx hb dX7_valueRead_0 (by decide) ?_
  refine lv_iload_n hx hb dX7_valueRead_1 rfl (lv_at hl 1 rfl) ?_
  refine lv_iconst (v := (nI 2)) hx hb dX7_valueRead_2 (by decide) ?_
  refine lv_idiv hx hb dX7_valueRead_3 (by decide) ?_
  refine lv_imul hx hb dX7_valueRead_4 ?_
  refine lv_aload_n hx hb dX7_valueRead_5 rfl (lv_at hl 0 rfl) ?_
  refine va_get (D := D) (ci := 7) (v := .ref (bd 34)) (C := RX7) (T := TX7) (N := 48) hx hb hts hin7 hown hK hP 0 (mw_o (S := S)) rfl 39 (by decide) hfl111 (fun _ h9 => h9) mw_f39 dX7_valueRead_6 ?_
  refine lv_iconst (v := (nI 5)) hx hb dX7_valueRead_9 (by decide) ?_
  refine lv_iload_n hx hb dX7_valueRead_10 rfl (lv_at hl 1 rfl) ?_
  refine lv_imul hx hb dX7_valueRead_11 ?_
  refine lv_iload_n hx hb dX7_valueRead_12 rfl (lv_at hl 2 rfl) ?_
  refine lv_iadd hx hb dX7_valueRead_13 ?_
  obtain ⟨hin, hf⟩ := zg_k hf
  refine va_iald hx hb hK hP 34 0 (mw_a39 (S := S)) rfl (inb_k hin) dX7_valueRead_14 ?_
  refine lv_iadd hx hb dX7_valueRead_15 ?_
  refine lv_topi (fun x1 ex1 => ?_)
  have hf := zb_x hf ex1
  refine lv_istore_n (lv' := [(3, .int x1), (0, .ref (bd 0)), (1, .int p1), (2, .int p2)]) hx hb dX7_valueRead_16 rfl hl (by decide) rfl (fun ls hl => ?_)
  refine lv_aload_n hx hb dX7_valueRead_17 rfl (lv_at hl 1 rfl) ?_
  refine va_get (D := D) (ci := 7) (v := .ref (bd 7)) (C := RX7) (T := TX7) (N := 48) hx hb hts hin7 hown hK hP 0 (mw_o (S := S)) rfl 6 (by decide) hfl28 (fun _ h9 => h9) mw_f6 dX7_valueRead_18 ?_
  refine lv_iload_n hx hb dX7_valueRead_21 rfl (lv_at hl 0 rfl) ?_
  obtain ⟨hin, hf⟩ := zg_k hf
  refine va_iald hx hb hK hP 7 0 (mw_a6 (S := S)) rfl (inb_k hin) dX7_valueRead_22 ?_
  refine lv_iconst (v := (nI 1)) hx hb dX7_valueRead_23 (by decide) ?_
  refine lv_icmp_ne (tgt := 40) hx hb dX7_valueRead_24 (by decide) (fun hc => ?_) (fun hc => ?_)
  · have hf := ifn hf hc
    refine lv_aload_n hx hb dX7_valueRead_40 rfl (lv_at hl 1 rfl) ?_
    refine va_get (D := D) (ci := 7) (v := .ref (bd 36)) (C := RX7) (T := TX7) (N := 48) hx hb hts hin7 hown hK hP 0 (mw_o (S := S)) rfl 41 (by decide) hfl117 (fun _ h9 => h9) mw_f41 dX7_valueRead_41 ?_
    refine lv_iconst (v := (nI 5)) hx hb dX7_valueRead_44 (by decide) ?_
    refine lv_iload_n hx hb dX7_valueRead_45 rfl (lv_at hl 2 rfl) ?_
    refine lv_imul hx hb dX7_valueRead_46 ?_
    refine lv_iload_n hx hb dX7_valueRead_47 rfl (lv_at hl 3 rfl) ?_
    refine lv_iadd hx hb dX7_valueRead_48 ?_
    obtain ⟨hin, hf⟩ := zg_k hf
    refine va_lald hx hb hK hP 36 1 (mw_a41 (S := S)) rfl (inb_k hin) dX7_valueRead_49 ?_
    refine lv_l2i hx hb dX7_valueRead_50 rfl ?_
    exact fin_i hx hb hr hlk hS hP (Option.some.inj hf) dX7_valueRead_51
  · have hf := ifp hf hc
    refine lv_aload_n hx hb dX7_valueRead_27 rfl (lv_at hl 1 rfl) ?_
    refine lv_aload_n hx hb dX7_valueRead_28 rfl (lv_at hl 1 rfl) ?_
    refine va_get (D := D) (ci := 7) (v := .ref (bd 8)) (C := RX7) (T := TX7) (N := 48) hx hb hts hin7 hown hK hP 0 (mw_o (S := S)) rfl 7 (by decide) hfl31 (fun _ h9 => h9) mw_f7 dX7_valueRead_29 ?_
    refine lv_iload_n hx hb dX7_valueRead_32 rfl (lv_at hl 0 rfl) ?_
    obtain ⟨hin, hf⟩ := zg_k hf
    refine va_iald hx hb hK hP 8 0 (mw_a7 (S := S)) rfl (inb_k hin) dX7_valueRead_33 ?_
    obtain ⟨x2, hc34, hf⟩ := zo_k hf
    refine cal_i (rnV (As := [.int (ri S 7 x1)]) (rest := []) ⟨hx, hb, hml, hown, hts⟩ (c_X7_sumOf hAd  hc34) (cwV 1 hts gX7_valueRead_X7_sumOf rfl rfl rfl cdV_X7_sumOf ⟨Nat.le_of_ble_eq_true rfl, Nat.le_of_ble_eq_true rfl⟩) hP hK hN (mw_o (S := S)) rfl rfl hl.1 rfl (Nat.le_of_ble_eq_true rfl) dX7_valueRead_34 ⟨Nat.zero_le _, Nat.zero_le _⟩) hS (fun H locs hP hS => ?_)
    refine lv_goto (tgt := 51) hx hb dX7_valueRead_37 (by decide) ?_
    exact fin_i hx hb hr hlk hS hP (Option.some.inj hf) dX7_valueRead_51
set_option maxHeartbeats 4000000 in
set_option maxRecDepth 100000 in
theorem c_X7_notes {l : Launch} {D : va_G} {cyI cyJ cyZ : ClassId} {bd : Nat → Nat}  (hAd : AdOK 41 bd)  {S : St} {p1 : Int32} {p2 : Int32} {p3 : Int32} {p4 : Int64} {SZ : St} (hf : m_X7_notes S p1 p2 p3 p4 = some SZ) : Met l yX7_notes wsX7_notes rl_X7_notes (PreW D [(cyI, .int), (cyJ, .long), (cyZ, .boolean)] (mw cyI cyJ cyZ bd S) [.ref (bd 0), .int p1, .int p2, .int p3, .long p4]) (PoV D (mw cyI cyJ cyZ bd SZ) (MA bd)) 0 0 (MA bd) := by
  refine met_go (cc := cX7_notes) (maxL := 6) (ret := none) (by decide) rfl (Nat.le_of_ble_eq_true rfl) ?_
  intro p e s m args below meth c ls hx hb hr hml hts hown hlk hP hK hN hl
  have hown : s.vm.findClass RX7 = some m.cls := hown
  have hS : va_S (MA bd) s.heap s.heap [] := va_S.rf
  have hl : lv_has ls 6 [(0, .ref (bd 0)), (1, .int p1), (2, .int p2), (3, .int p3), (4, .long p4)] := hl
  have hin7 : ∀ w ∈ wsX70, w ∈ wsX7_notes := by decide +kernel
  have hfl111 := hts (.fieldLink RX7 111 "MakewheelModel" "slots" "[I") (by decide +kernel)
  have hfl108 := hts (.fieldLink RX7 108 "MakewheelModel" "reads" "[I") (by decide +kernel)
  have hfl114 := hts (.fieldLink RX7 114 "MakewheelModel" "founds" "[I") (by decide +kernel)
  have hfl117 := hts (.fieldLink RX7 117 "MakewheelModel" "readValues" "[J") (by decide +kernel)
  unfold m_X7_notes at hf
  refine lv_aload_n hx hb dX7_notes_0 rfl (lv_at hl 0 rfl) ?_
  refine va_get (D := D) (ci := 7) (v := .ref (bd 34)) (C := RX7) (T := TX7) (N := 48) hx hb hts hin7 hown hK hP 0 (mw_o (S := S)) rfl 39 (by decide) hfl111 (fun _ h9 => h9) mw_f39 dX7_notes_1 ?_
  refine lv_iconst (v := (nI 5)) hx hb dX7_notes_4 (by decide) ?_
  refine lv_iload_n hx hb dX7_notes_5 rfl (lv_at hl 1 rfl) ?_
  refine lv_imul hx hb dX7_notes_6 ?_
  refine lv_aload_n hx hb dX7_notes_7 rfl (lv_at hl 0 rfl) ?_
  refine va_get (D := D) (ci := 7) (v := .ref (bd 33)) (C := RX7) (T := TX7) (N := 48) hx hb hts hin7 hown hK hP 0 (mw_o (S := S)) rfl 38 (by decide) hfl108 (fun _ h9 => h9) mw_f38 dX7_notes_8 ?_
  refine lv_iload_n hx hb dX7_notes_11 rfl (lv_at hl 1 rfl) ?_
  obtain ⟨hin, hf⟩ := zg_k hf
  refine va_iald hx hb hK hP 33 0 (mw_a38 (S := S)) rfl (inb_k hin) dX7_notes_12 ?_
  refine lv_iadd hx hb dX7_notes_13 ?_
  refine lv_iload_n hx hb dX7_notes_14 rfl (lv_at hl 2 rfl) ?_
  obtain ⟨hin, hf⟩ := zg_k hf
  refine va_iast hx hb hK hP (mw_D hAd) hS 34 0 (mw_a39 (S := S)) rfl (inb_k hin) dX7_notes_15 (fun H locs hP _ hS => ?_)
  have hP : va_P D vwCl (mw cyI cyJ cyZ bd (wi S 39 (Int32.toNatClampNeg (((nI 5) * p1) + (ri S 38 p1))) p2)) H := by rw [← mw_s39]; exact hP
  obtain ⟨S1, eS1, hf⟩ := zb_k hf
  rw [← eS1] at hP
  refine lv_aload_n hx hb dX7_notes_16 rfl (lv_at hl 0 rfl) ?_
  refine va_get (D := D) (ci := 7) (v := .ref (bd 35)) (C := RX7) (T := TX7) (N := 48) hx hb hts hin7 hown hK hP 0 (mw_o (S := S1)) rfl 40 (by decide) hfl114 (fun _ h9 => h9) mw_f40 dX7_notes_17 ?_
  refine lv_iconst (v := (nI 5)) hx hb dX7_notes_20 (by decide) ?_
  refine lv_iload_n hx hb dX7_notes_21 rfl (lv_at hl 1 rfl) ?_
  refine lv_imul hx hb dX7_notes_22 ?_
  refine lv_aload_n hx hb dX7_notes_23 rfl (lv_at hl 0 rfl) ?_
  refine va_get (D := D) (ci := 7) (v := .ref (bd 33)) (C := RX7) (T := TX7) (N := 48) hx hb hts hin7 hown hK hP 0 (mw_o (S := S1)) rfl 38 (by decide) hfl108 (fun _ h9 => h9) mw_f38 dX7_notes_24 ?_
  refine lv_iload_n hx hb dX7_notes_27 rfl (lv_at hl 1 rfl) ?_
  obtain ⟨hin, hf⟩ := zg_k hf
  refine va_iald hx hb hK hP 33 0 (mw_a38 (S := S1)) rfl (inb_k hin) dX7_notes_28 ?_
  refine lv_iadd hx hb dX7_notes_29 ?_
  refine lv_iload_n hx hb dX7_notes_30 rfl (lv_at hl 3 rfl) ?_
  obtain ⟨hin, hf⟩ := zg_k hf
  refine va_iast hx hb hK hP (mw_D hAd) hS 35 0 (mw_a40 (S := S1)) rfl (inb_k hin) dX7_notes_31 (fun H locs hP _ hS => ?_)
  have hP : va_P D vwCl (mw cyI cyJ cyZ bd (wi S1 40 (Int32.toNatClampNeg (((nI 5) * p1) + (ri S1 38 p1))) p3)) H := by rw [← mw_s40]; exact hP
  obtain ⟨S2, eS2, hf⟩ := zb_k hf
  rw [← eS2] at hP
  refine lv_aload_n hx hb dX7_notes_32 rfl (lv_at hl 0 rfl) ?_
  refine va_get (D := D) (ci := 7) (v := .ref (bd 36)) (C := RX7) (T := TX7) (N := 48) hx hb hts hin7 hown hK hP 0 (mw_o (S := S2)) rfl 41 (by decide) hfl117 (fun _ h9 => h9) mw_f41 dX7_notes_33 ?_
  refine lv_iconst (v := (nI 5)) hx hb dX7_notes_36 (by decide) ?_
  refine lv_iload_n hx hb dX7_notes_37 rfl (lv_at hl 1 rfl) ?_
  refine lv_imul hx hb dX7_notes_38 ?_
  refine lv_aload_n hx hb dX7_notes_39 rfl (lv_at hl 0 rfl) ?_
  refine va_get (D := D) (ci := 7) (v := .ref (bd 33)) (C := RX7) (T := TX7) (N := 48) hx hb hts hin7 hown hK hP 0 (mw_o (S := S2)) rfl 38 (by decide) hfl108 (fun _ h9 => h9) mw_f38 dX7_notes_40 ?_
  refine lv_iload_n hx hb dX7_notes_43 rfl (lv_at hl 1 rfl) ?_
  obtain ⟨hin, hf⟩ := zg_k hf
  refine va_iald hx hb hK hP 33 0 (mw_a38 (S := S2)) rfl (inb_k hin) dX7_notes_44 ?_
  refine lv_iadd hx hb dX7_notes_45 ?_
  refine lv_lload hx hb dX7_notes_46 (lv_at hl 4 rfl) ?_
  obtain ⟨hin, hf⟩ := zg_k hf
  refine va_last hx hb hK hP (mw_D hAd) hS 36 1 (mw_a41 (S := S2)) rfl (inb_k hin) dX7_notes_48 (fun H locs hP _ hS => ?_)
  have hP : va_P D vwCl (mw cyI cyJ cyZ bd (wj S2 41 (Int32.toNatClampNeg (((nI 5) * p1) + (ri S2 38 p1))) p4)) H := by rw [← mw_s41]; exact hP
  obtain ⟨S3, eS3, hf⟩ := zb_k hf
  rw [← eS3] at hP
  refine lv_aload_n hx hb dX7_notes_49 rfl (lv_at hl 0 rfl) ?_
  refine va_get (D := D) (ci := 7) (v := .ref (bd 33)) (C := RX7) (T := TX7) (N := 48) hx hb hts hin7 hown hK hP 0 (mw_o (S := S3)) rfl 38 (by decide) hfl108 (fun _ h9 => h9) mw_f38 dX7_notes_50 ?_
  refine lv_iload_n hx hb dX7_notes_53 rfl (lv_at hl 1 rfl) ?_
  refine lv_dup2_11 hx hb dX7_notes_54 rfl rfl ?_
  obtain ⟨hin, hf⟩ := zg_k hf
  refine va_iald hx hb hK hP 33 0 (mw_a38 (S := S3)) rfl (inb_k hin) dX7_notes_55 ?_
  refine lv_iconst (v := (nI 1)) hx hb dX7_notes_56 (by decide) ?_
  refine lv_iadd hx hb dX7_notes_57 ?_
  obtain ⟨hin, hf⟩ := zg_k hf
  refine va_iast hx hb hK hP (mw_D hAd) hS 33 0 (mw_a38 (S := S3)) rfl (inb_k hin) dX7_notes_58 (fun H locs hP _ hS => ?_)
  have hP : va_P D vwCl (mw cyI cyJ cyZ bd (wi S3 38 (Int32.toNatClampNeg p1) ((ri S3 38 p1) + (nI 1)))) H := by rw [← mw_s38]; exact hP
  obtain ⟨S4, eS4, hf⟩ := zb_k hf
  rw [← eS4] at hP
  cases Option.some.inj hf
  exact fin_v hx hb hr hlk hS hP dX7_notes_59
set_option maxHeartbeats 4000000 in
set_option maxRecDepth 100000 in
theorem c_X7_isSeen {l : Launch} {D : va_G} {cyI cyJ cyZ : ClassId} {bd : Nat → Nat}  (hAd : AdOK 41 bd)  {S : St} {p1 : Int32} {p2 : Int32} {r : Int32} (hf : m_X7_isSeen S p1 p2 = some r) : Met l yX7_isSeen wsX7_isSeen rl_X7_isSeen (PreW D [(cyI, .int), (cyJ, .long), (cyZ, .boolean)] (mw cyI cyJ cyZ bd S) [.ref (bd 0), .int p1, .int p2]) (PoI D (mw cyI cyJ cyZ bd S) (MA bd) r) 0 0 (MA bd) := by
  refine met_go (cc := cX7_isSeen) (maxL := 7) (ret := (some .boolean)) (by decide) rfl (Nat.le_of_ble_eq_true rfl) ?_
  intro p e s m args below meth c ls hx hb hr hml hts hown hlk hP hK hN hl
  have hown : s.vm.findClass RX7 = some m.cls := hown
  have hS : va_S (MA bd) s.heap s.heap [] := va_S.rf
  have hl : lv_has ls 7 [(0, .ref (bd 0)), (1, .int p1), (2, .int p2)] := hl
  have hin7 : ∀ w ∈ wsX70, w ∈ wsX7_isSeen := by decide +kernel
  have hfl25 := hts (.fieldLink RX7 25 "MakewheelModel" "many" "[I") (by decide +kernel)
  have hfl28 := hts (.fieldLink RX7 28 "MakewheelModel" "whats" "[I") (by decide +kernel)
  have hfl31 := hts (.fieldLink RX7 31 "MakewheelModel" "whiches" "[I") (by decide +kernel)
  unfold m_X7_isSeen at hf
  refine lv_iconst (v := (nI 0)) hx hb dX7_isSeen_0 (by decide) ?_
  refine lv_istore_n (lv' := [(3, .int (nI 0)), (0, .ref (bd 0)), (1, .int p1), (2, .int p2)]) hx hb dX7_isSeen_1 rfl hl (by decide) rfl (fun ls hl => ?_)
  refine lv_iconst (v := (nI 0)) hx hb dX7_isSeen_2 (by decide) ?_
  refine lv_istore (lv' := [(4, .int (nI 0)), (3, .int (nI 0)), (0, .ref (bd 0)), (1, .int p1), (2, .int p2)]) hx hb dX7_isSeen_3 hl (by decide) rfl (fun ls hl => ?_)
  refine zl2_ind (F := (m_X7_isSeen_B5 p1 S p2)) (R := r) (P := fun x1 x2 => ∀ (H : Heap) (locs : List Loc) (ls : Array Slot), va_P D vwCl (mw cyI cyJ cyZ bd S) H → va_S (MA bd) s.heap H locs → lv_has ls 7 [(0, .ref (bd 0)), (1, .int p1), (2, .int p2), (3, .int x1), (4, .int x2)] → W p l e rl_X7_isSeen s m args below meth c H locs 0 0 (MQ below (PoI D (mw cyI cyJ cyZ bd S) (MA bd) r) args s 0 0 (MA bd)) (F0 m 5 ls [])) (fun rec5 ih5 x1 x2 hf H locs ls hP hS hl => ?_) FU (nI 0) (nI 0) hf _ _ _ hP hS (lv_sub hl [2, 3, 4, 1, 0] rfl)
  unfold m_X7_isSeen_B5 at hf
  refine lv_iload hx hb dX7_isSeen_5 (lv_at hl 4 rfl) ?_
  refine lv_aload_n hx hb dX7_isSeen_7 rfl (lv_at hl 0 rfl) ?_
  refine va_get (D := D) (ci := 7) (v := .ref (bd 6)) (C := RX7) (T := TX7) (N := 48) hx hb hts hin7 hown hK hP 0 (mw_o (S := S)) rfl 5 (by decide) hfl25 (fun _ h9 => h9) mw_f5 dX7_isSeen_8 ?_
  refine lv_iload_n hx hb dX7_isSeen_11 rfl (lv_at hl 1 rfl) ?_
  obtain ⟨hin, hf⟩ := zg_k hf
  refine va_iald hx hb hK hP 6 0 (mw_a5 (S := S)) rfl (inb_k hin) dX7_isSeen_12 ?_
  refine lv_icmp_ge (tgt := 83) hx hb dX7_isSeen_13 (by decide) (fun hc => ?_) (fun hc => ?_)
  · have hf := ifp hf hc
    refine lv_iload_n hx hb dX7_isSeen_83 rfl (lv_at hl 3 rfl) ?_
    obtain ⟨hbz, hf⟩ := zg_k hf
    exact fin_z hx hb hr hlk hS hP (bz_n hbz) (Option.some.inj hf) dX7_isSeen_84
  · have hf := ifn hf hc
    refine lv_aload_n hx hb dX7_isSeen_16 rfl (lv_at hl 0 rfl) ?_
    refine va_get (D := D) (ci := 7) (v := .ref (bd 7)) (C := RX7) (T := TX7) (N := 48) hx hb hts hin7 hown hK hP 0 (mw_o (S := S)) rfl 6 (by decide) hfl28 (fun _ h9 => h9) mw_f6 dX7_isSeen_17 ?_
    refine lv_iconst (v := (nI 4)) hx hb dX7_isSeen_20 (by decide) ?_
    refine lv_iload_n hx hb dX7_isSeen_21 rfl (lv_at hl 1 rfl) ?_
    refine lv_imul hx hb dX7_isSeen_22 ?_
    refine lv_iload hx hb dX7_isSeen_23 (lv_at hl 4 rfl) ?_
    refine lv_iadd hx hb dX7_isSeen_25 ?_
    obtain ⟨hin, hf⟩ := zg_k hf
    refine va_iald hx hb hK hP 7 0 (mw_a6 (S := S)) rfl (inb_k hin) dX7_isSeen_26 ?_
    refine lv_topi (fun x3 ex3 => ?_)
    have hf := zb_x hf ex3
    refine lv_istore (lv' := [(5, .int x3), (0, .ref (bd 0)), (1, .int p1), (2, .int p2), (3, .int x1), (4, .int x2)]) hx hb dX7_isSeen_27 hl (by decide) rfl (fun ls hl => ?_)
    refine lv_aload_n hx hb dX7_isSeen_29 rfl (lv_at hl 1 rfl) ?_
    refine va_get (D := D) (ci := 7) (v := .ref (bd 8)) (C := RX7) (T := TX7) (N := 48) hx hb hts hin7 hown hK hP 0 (mw_o (S := S)) rfl 7 (by decide) hfl31 (fun _ h9 => h9) mw_f7 dX7_isSeen_30 ?_
    refine lv_iconst (v := (nI 4)) hx hb dX7_isSeen_33 (by decide) ?_
    refine lv_iload_n hx hb dX7_isSeen_34 rfl (lv_at hl 2 rfl) ?_
    refine lv_imul hx hb dX7_isSeen_35 ?_
    refine lv_iload hx hb dX7_isSeen_36 (lv_at hl 5 rfl) ?_
    refine lv_iadd hx hb dX7_isSeen_38 ?_
    obtain ⟨hin, hf⟩ := zg_k hf
    refine va_iald hx hb hK hP 8 0 (mw_a7 (S := S)) rfl (inb_k hin) dX7_isSeen_39 ?_
    refine lv_topi (fun x4 ex4 => ?_)
    have hf := zb_x hf ex4
    refine lv_istore (lv' := [(6, .int x4), (5, .int x3), (0, .ref (bd 0)), (1, .int p1), (2, .int p2), (3, .int x1), (4, .int x2)]) hx hb dX7_isSeen_40 hl (by decide) rfl (fun ls hl => ?_)
    refine lv_iload_n hx hb dX7_isSeen_42 rfl (lv_at hl 5 rfl) ?_
    have hJ76 : ∀ (t5 : Int32), m_X7_isSeen_J76 x2 rec5 t5 = some r → ∀ (H : Heap) (locs : List Loc) (ls : Array Slot), va_P D vwCl (mw cyI cyJ cyZ bd S) H → va_S (MA bd) s.heap H locs → lv_has ls 7 [(0, .ref (bd 0)), (1, .int p1), (2, .int p2), (4, .int x2)] → W p l e rl_X7_isSeen s m args below meth c H locs 0 0 (MQ below (PoI D (mw cyI cyJ cyZ bd S) (MA bd) r) args s 0 0 (MA bd)) (F0 m 76 ls [.int t5]) := by
      intro t5 hf H locs ls hP hS hl
      unfold m_X7_isSeen_J76 at hf
      refine lv_istore_n (lv' := [(3, .int t5), (0, .ref (bd 0)), (1, .int p1), (2, .int p2), (4, .int x2)]) hx hb dX7_isSeen_76 rfl hl (by decide) rfl (fun ls hl => ?_)
      obtain ⟨x6, ex6, hf⟩ := zb_k hf
      refine lv_iinc (v := x6) (lv' := [(4, .int x6), (3, .int t5), (0, .ref (bd 0)), (1, .int p1), (2, .int p2)]) hx hb dX7_isSeen_77 hl (k := 4) rfl (by rw [ex6]; rfl) (by decide) rfl (fun ls hl => ?_)
      refine lv_goto (tgt := 5) hx hb dX7_isSeen_80 (by decide) ?_
      exact ih5 t5 x6 hf _ _ _ hP hS (lv_sub hl [2, 3, 4, 1, 0] rfl)
    have hJ71 : m_X7_isSeen_J71 x2 rec5 = some r → ∀ (H : Heap) (locs : List Loc) (ls : Array Slot), va_P D vwCl (mw cyI cyJ cyZ bd S) H → va_S (MA bd) s.heap H locs → lv_has ls 7 [(0, .ref (bd 0)), (1, .int p1), (2, .int p2), (4, .int x2)] → W p l e rl_X7_isSeen s m args below meth c H locs 0 0 (MQ below (PoI D (mw cyI cyJ cyZ bd S) (MA bd) r) args s 0 0 (MA bd)) (F0 m 71 ls []) := by
      intro  hf H locs ls hP hS hl
      unfold m_X7_isSeen_J71 at hf
      refine lv_iconst (v := (nI 1)) hx hb dX7_isSeen_71 (by decide) ?_
      refine lv_goto (tgt := 76) hx hb dX7_isSeen_72 (by decide) ?_
      exact hJ76 (nI 1) hf _ _ _ hP hS (lv_sub hl [0, 1, 2, 3] rfl)
    refine lv_if_ne (tgt := 71) hx hb dX7_isSeen_43 (by decide) (fun hc => ?_) (fun hc => ?_)
    · have hf := ifn hf hc
      exact hJ71  hf _ _ _ hP hS (lv_sub hl [2, 3, 4, 6] rfl)
    · have hf := ifp hf hc
      refine lv_iload hx hb dX7_isSeen_46 (lv_at hl 1 rfl) ?_
      have hJ57 : m_X7_isSeen_J57 x3 x4 p2 x2 rec5 = some r → ∀ (H : Heap) (locs : List Loc) (ls : Array Slot), va_P D vwCl (mw cyI cyJ cyZ bd S) H → va_S (MA bd) s.heap H locs → lv_has ls 7 [(6, .int x4), (5, .int x3), (0, .ref (bd 0)), (1, .int p1), (2, .int p2), (4, .int x2)] → W p l e rl_X7_isSeen s m args below meth c H locs 0 0 (MQ below (PoI D (mw cyI cyJ cyZ bd S) (MA bd) r) args s 0 0 (MA bd)) (F0 m 57 ls []) := by
        intro  hf H locs ls hP hS hl
        unfold m_X7_isSeen_J57 at hf
        refine lv_iload hx hb dX7_isSeen_57 (lv_at hl 1 rfl) ?_
        refine lv_iconst (v := (nI 1)) hx hb dX7_isSeen_59 (by decide) ?_
        have hJ75 : m_X7_isSeen_J75 x2 rec5 = some r → ∀ (H : Heap) (locs : List Loc) (ls : Array Slot), va_P D vwCl (mw cyI cyJ cyZ bd S) H → va_S (MA bd) s.heap H locs → lv_has ls 7 [(0, .ref (bd 0)), (1, .int p1), (2, .int p2), (4, .int x2)] → W p l e rl_X7_isSeen s m args below meth c H locs 0 0 (MQ below (PoI D (mw cyI cyJ cyZ bd S) (MA bd) r) args s 0 0 (MA bd)) (F0 m 75 ls []) := by
          intro  hf H locs ls hP hS hl
          unfold m_X7_isSeen_J75 at hf
          refine lv_iconst (v := (nI 0)) hx hb dX7_isSeen_75 (by decide) ?_
          exact hJ76 (nI 0) hf _ _ _ hP hS (lv_sub hl [0, 1, 2, 3] rfl)
        refine lv_icmp_ne (tgt := 75) hx hb dX7_isSeen_60 (by decide) (fun hc => ?_) (fun hc => ?_)
        · have hf := ifn hf hc
          exact hJ75  hf _ _ _ hP hS (lv_sub hl [2, 3, 4, 5] rfl)
        · have hf := ifp hf hc
          refine lv_iload hx hb dX7_isSeen_63 (lv_at hl 0 rfl) ?_
          refine lv_iload_n hx hb dX7_isSeen_65 rfl (lv_at hl 4 rfl) ?_
          refine lv_iconst (v := (nI 5)) hx hb dX7_isSeen_66 (by decide) ?_
          refine lv_idiv hx hb dX7_isSeen_67 (by decide) ?_
          refine lv_icmp_ne (tgt := 75) hx hb dX7_isSeen_68 (by decide) (fun hc => ?_) (fun hc => ?_)
          · have hf := ifn hf hc
            exact hJ75  hf _ _ _ hP hS (lv_sub hl [2, 3, 4, 5] rfl)
          · have hf := ifp hf hc
            exact hJ71  hf _ _ _ hP hS (lv_sub hl [2, 3, 4, 5] rfl)
      refine lv_if_ne (tgt := 57) hx hb dX7_isSeen_48 (by decide) (fun hc => ?_) (fun hc => ?_)
      · have hf := ifn hf hc
        exact hJ57  hf _ _ _ hP hS (lv_sub hl [0, 1, 2, 3, 4, 6] rfl)
      · have hf := ifp hf hc
        refine lv_iload hx hb dX7_isSeen_51 (lv_at hl 0 rfl) ?_
        refine lv_iload_n hx hb dX7_isSeen_53 rfl (lv_at hl 4 rfl) ?_
        refine lv_icmp_eq (tgt := 71) hx hb dX7_isSeen_54 (by decide) (fun hc => ?_) (fun hc => ?_)
        · have hf := ifp hf hc
          exact hJ71  hf _ _ _ hP hS (lv_sub hl [2, 3, 4, 6] rfl)
        · have hf := ifn hf hc
          exact hJ57  hf _ _ _ hP hS (lv_sub hl [0, 1, 2, 3, 4, 6] rfl)
