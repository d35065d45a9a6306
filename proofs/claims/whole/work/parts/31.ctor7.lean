/-! the reference's constructor; the first states -/
def S0c : St := (fun k _ => if k < 12 then blk k else 0, fun _ _ => 0)
def S0m : St := (fun k _ => if k < 2 then -1 else 0, fun _ _ => 0)
def Szz : St := (fun _ _ => 0, fun _ _ => 0)
theorem ad_of_D {n : Nat} {ad : Nat → Nat} {w : va_W} {A : Nat → Prop} (h : va_D A w) (hm : w.map (fun q => q.1) = (List.range n).map ad) : AdOK n ad := by
  intro i j hi hj e
  have key : ∀ k, k < n → ∃ x, w[k]? = some x ∧ x.1 = ad k := by
    intro k hk
    have h1 : (w.map (fun q => q.1))[k]? = some (ad k) := by rw [hm, List.getElem?_map, List.getElem?_range hk]; rfl
    rw [List.getElem?_map] at h1
    cases hw : w[k]? with
    | none => rw [hw] at h1; cases h1
    | some x => rw [hw] at h1; exact ⟨x, rfl, Option.some.inj h1⟩
  obtain ⟨x, x1, x2⟩ := key i hi
  obtain ⟨y, y1, y2⟩ := key j hj
  exact h.1 i j x y x1 y1 (by rw [x2, y2]; exact e)
theorem setv_P {D : va_G} {cl : List vw_C} {ws : va_W} {H : Heap} (h : va_P D cl ws H) {k : Nat} {x : Nat × va_E} (hx : va_at D cl x H) : va_P D cl (ws.set k x) H := by
  intro j q hq
  rw [List.getElem?_set] at hq
  split at hq
  · split at hq
    · cases hq; exact hx
    · cases hq
  · exact h j q hq
def fs0 : List Value := [.null, .null, .null, .null, .null, .null, .null, .null, .null, .null, .null, .int 0, .int 0, .int 0, .int 0, .null, .null, .null, .null, .null, .null, .null, .null, .null, .null, .int 0, .null, .null, .null, .null, .null, .null, .null, .null, .int 0, .null, .null, .null, .null, .null, .null, .null, .null, .int 0, .null, .null, .null, .int 0]
def FN7 (cyI cyJ cyZ : ClassId) (h0 : Nat) (w : va_W) : Prop := ∃ bd : Nat → Nat, bd 0 = h0 ∧ w = mw cyI cyJ cyZ bd S0m ∧ AdOK 41 bd
def rl_X7_init : Room := { frames := 1, cells := 40, slots := 2612, locals := 12 }
set_option maxHeartbeats 40000000 in
set_option maxRecDepth 100000 in
theorem c_X7_init {l : Launch} {D : va_G} {cyI cyJ cyZ : ClassId} {h0 sz : Nat} : Met l yX7_init wsX7_init rl_X7_init (PreN D [(cyI, .int), (cyJ, .long), (cyZ, .boolean)] h0 (.inr (7, fs0)) [] sz) (PoN D (FN7 cyI cyJ cyZ h0) (va_A [(h0, .inr (7, fs0))] sz)) 40 2612 (va_A [(h0, .inr (7, fs0))] sz) := by
  refine Met.ofW (cc := cX7_init) (maxL := 2) (ret := none) (by decide) rfl ?_
  intro p e s m args below meth c s₁ B hml hv
  obtain ⟨hargs, hsz, hP, hK, hN⟩ := hv
  have hx := B.exec
  have hb := B.bytes
  have hr := B.returns
  have hts := atoms_spec (ws := wsX7_init) B.pre
  have hown : s.vm.findClass RX7 = some m.cls := findClass_of_methodNamed B.named
  have hlk := B.notSynchronized
  have hin : meth.name = "<init>" := (name_of_methodNamed B.named B.method).1
  subst hsz
  have hD0 : va_D (va_A [(h0, .inr (7, fs0))] s.heap.size) [(h0, .inr (7, fs0))] := va_D.self ⟨fun i j p q hp hq _ => by
      have h1 := (List.getElem?_eq_some_iff.mp hp).1
      have h2 := (List.getElem?_eq_some_iff.mp hq).1
      simp only [List.length_cons, List.length_nil] at h1 h2
      omega, fun _ _ _ => trivial⟩ (A := fun _ => True)
  have hD := hD0
  clear hD0
  generalize hAe : va_A [(h0, .inr (7, fs0))] s.heap.size = A at hD ⊢
  have hA : ∀ q : Nat, s.heap.size ≤ q → A q := fun q h => by rw [← hAe]; exact Or.inr h
  have hS : va_S A s.heap s.heap [] := va_S.rf
  have hl := lv_entry ([.ref h0]) (n := 2) (Nat.le_of_ble_eq_true rfl)
  refine W.eq (by rw [hargs, lg_entry_eq]) ?_
  generalize (lg_sl ([.ref h0]) ++ List.replicate (2 - (lg_sl ([.ref h0])).length) Slot.unset).toArray = ls at hl ⊢
  have hl : lv_has ls 2 [(0, .ref h0)] := hl
  have hin7 : ∀ w ∈ wsX70, w ∈ wsX7_init := by decide +kernel
  have f7 := hts (.fieldLink RX7 7 "MakewheelModel" "files" "[I") (by decide +kernel)
  have f13 := hts (.fieldLink RX7 13 "MakewheelModel" "kinds" "[I") (by decide +kernel)
  have f16 := hts (.fieldLink RX7 16 "MakewheelModel" "numbers" "[I") (by decide +kernel)
  have f19 := hts (.fieldLink RX7 19 "MakewheelModel" "salts" "[I") (by decide +kernel)
  have f22 := hts (.fieldLink RX7 22 "MakewheelModel" "times" "[I") (by decide +kernel)
  have f25 := hts (.fieldLink RX7 25 "MakewheelModel" "many" "[I") (by decide +kernel)
  have f28 := hts (.fieldLink RX7 28 "MakewheelModel" "whats" "[I") (by decide +kernel)
  have f31 := hts (.fieldLink RX7 31 "MakewheelModel" "whiches" "[I") (by decide +kernel)
  have f34 := hts (.fieldLink RX7 34 "MakewheelModel" "toFail" "[I") (by decide +kernel)
  have f37 := hts (.fieldLink RX7 37 "MakewheelModel" "isPoisoned" "[Z") (by decide +kernel)
  have f41 := hts (.fieldLink RX7 41 "MakewheelModel" "isAway" "[Z") (by decide +kernel)
  have f44 := hts (.fieldLink RX7 44 "MakewheelModel" "isKept" "[Z") (by decide +kernel)
  have f47 := hts (.fieldLink RX7 47 "MakewheelModel" "keptRule" "[J") (by decide +kernel)
  have f51 := hts (.fieldLink RX7 51 "MakewheelModel" "keptTime" "[I") (by decide +kernel)
  have f54 := hts (.fieldLink RX7 54 "MakewheelModel" "keptReads" "[I") (by decide +kernel)
  have f57 := hts (.fieldLink RX7 57 "MakewheelModel" "keptSlot" "[I") (by decide +kernel)
  have f60 := hts (.fieldLink RX7 60 "MakewheelModel" "keptFile" "[I") (by decide +kernel)
  have f63 := hts (.fieldLink RX7 63 "MakewheelModel" "keptRead" "[J") (by decide +kernel)
  have f66 := hts (.fieldLink RX7 66 "MakewheelModel" "keptValue" "[I") (by decide +kernel)
  have f69 := hts (.fieldLink RX7 69 "MakewheelModel" "keptFrom" "[I") (by decide +kernel)
  have f72 := hts (.fieldLink RX7 72 "MakewheelModel" "isDropped" "[Z") (by decide +kernel)
  have f75 := hts (.fieldLink RX7 75 "MakewheelModel" "cache" "[J") (by decide +kernel)
  have f78 := hts (.fieldLink RX7 78 "MakewheelModel" "cacheValue" "[I") (by decide +kernel)
  have f81 := hts (.fieldLink RX7 81 "MakewheelModel" "cacheFrom" "[I") (by decide +kernel)
  have f84 := hts (.fieldLink RX7 84 "MakewheelModel" "looked" "[I") (by decide +kernel)
  have f87 := hts (.fieldLink RX7 87 "MakewheelModel" "gave" "[I") (by decide +kernel)
  have f90 := hts (.fieldLink RX7 90 "MakewheelModel" "dones" "[I") (by decide +kernel)
  have f93 := hts (.fieldLink RX7 93 "MakewheelModel" "whys" "[I") (by decide +kernel)
  have f96 := hts (.fieldLink RX7 96 "MakewheelModel" "counted" "[I") (by decide +kernel)
  have f99 := hts (.fieldLink RX7 99 "MakewheelModel" "pile" "[I") (by decide +kernel)
  have f102 := hts (.fieldLink RX7 102 "MakewheelModel" "compares" "[Z") (by decide +kernel)
  have f105 := hts (.fieldLink RX7 105 "MakewheelModel" "ats" "[I") (by decide +kernel)
  have f108 := hts (.fieldLink RX7 108 "MakewheelModel" "reads" "[I") (by decide +kernel)
  have f111 := hts (.fieldLink RX7 111 "MakewheelModel" "slots" "[I") (by decide +kernel)
  have f114 := hts (.fieldLink RX7 114 "MakewheelModel" "founds" "[I") (by decide +kernel)
  have f117 := hts (.fieldLink RX7 117 "MakewheelModel" "readValues" "[J") (by decide +kernel)
  have f120 := hts (.fieldLink RX7 120 "MakewheelModel" "key" "[J") (by decide +kernel)
  have f123 := hts (.fieldLink RX7 123 "MakewheelModel" "needed" "[I") (by decide +kernel)
  have f126 := hts (.fieldLink RX7 126 "MakewheelModel" "longest" "[I") (by decide +kernel)
  have f129 := hts (.fieldLink RX7 129 "MakewheelModel" "ends" "[I") (by decide +kernel)
  refine lv_aload_n hx hb dX7_init_0 rfl (lv_at hl 0 rfl) ?_
  refine W.objInit hx hb hown (hts (.methodLink RX7 1 objectInit) (by decide +kernel)) (hts (.instanceMethod objectInit) (by decide +kernel)) (hts (.code objectInit ⟨#[0xb1]⟩ 1 none) (by decide +kernel)) rfl (by rw [hml]; exact hl.1) rfl dX7_init_1 (Nat.le_of_ble_eq_true rfl) (Nat.le_of_ble_eq_true rfl) ?_
  refine W.eq (g2 := F0 m 4 ls []) rfl ?_
  obtain ⟨fs, hfs0⟩ : ∃ z, z = fs0 := ⟨_, rfl⟩
  obtain ⟨ar, har0⟩ : ∃ z : va_W, z = [] := ⟨_, rfl⟩
  have hlen : fs.length = 48 := by rw [hfs0]; rfl
  have hP : va_P D vwCl ((h0, .inr (7, fs)) :: ar) s.heap := by rw [hfs0, har0]; exact hP
  have hD : va_D A ((h0, .inr (7, fs)) :: ar) := by rw [hfs0, har0]; exact hD
  have hE : fs = [.null, .null, .null, .null, .null, .null, .null, .null, .null, .null, .null, .int 0, .int 0, .int 0, .int 0, .null, .null, .null, .null, .null, .null, .null, .null, .null, .null, .int 0, .null, .null, .null, .null, .null, .null, .null, .null, .int 0, .null, .null, .null, .null, .null, .null, .null, .null, .int 0, .null, .null, .null, .int 0] := hfs0
  have hR : ar = [] := har0
  refine lv_aload_n hx hb dX7_init_4 rfl (lv_at hl 0 rfl) ?_
  refine lv_bipush (v := nI 20) hx hb dX7_init_5 (by decide) ?_
  refine va_newa (atype := .int) (N' := 20) hx hb (hts (.arrayClass .int) (by decide +kernel)) rfl hK hP hD hS hA (a0 := (20, .inl (fun _ => 0))) (fun _ => rfl) (nI_pos (by omega)) (nI_clamp (by omega)) (Nat.le_of_ble_eq_true rfl) (Nat.le_of_ble_eq_true rfl) (Nat.le_of_ble_eq_true rfl) dX7_init_7 (fun q1 cA H hK2 hP hD hS => ?_)
  have hcA : cA = cyI := ra_eq hK2 (i := 3) (j := 0) (fun _ h => by cases h) rfl rfl
  rw [hcA] at hP hD
  refine W.widen (k := 1) (n := 20) (Nat.le_of_ble_eq_true rfl) (Nat.le_of_ble_eq_true rfl) ?_
  obtain ⟨ar_1, har1⟩ : ∃ z, z = ar ++ [(q1, .inl (cyI, 20, .inl (fun _ => 0)))] := ⟨_, rfl⟩
  have hP : va_P D vwCl ((h0, .inr (7, fs)) :: ar_1) H := by rw [har1]; exact hP
  have hD : va_D A ((h0, .inr (7, fs)) :: ar_1) := by rw [har1]; exact hD
  refine va_putF (D := D) (ci := 7) (v := .ref q1) (ty := .array .int) (C := RX7) (T := TX7) (N := 48) hx hb hts hin7 tyX7 tyX7_ok nmX7 hown hK hP hD hS 0 rfl rfl 0 (by decide) f7 (fun _ h9 => h9) rfl hin rfl (by decide +kernel) rfl rfl (by rw [hlen]; decide) dX7_init_9 (fun H locs hP hD hS => ?_)
  obtain ⟨fs_1, hfs1⟩ : ∃ z, z = fs.set 0 (.ref q1) := ⟨_, rfl⟩
  have hlen : fs_1.length = 48 := by rw [hfs1, List.length_set]; exact hlen
  have hP : va_P D vwCl ((h0, .inr (7, fs_1)) :: ar_1) H := by rw [hfs1]; exact hP
  have hD : va_D A ((h0, .inr (7, fs_1)) :: ar_1) := by rw [hfs1]; exact hD
  have hE : fs_1 = [.ref q1, .null, .null, .null, .null, .null, .null, .null, .null, .null, .null, .int 0, .int 0, .int 0, .int 0, .null, .null, .null, .null, .null, .null, .null, .null, .null, .null, .int 0, .null, .null, .null, .null, .null, .null, .null, .null, .int 0, .null, .null, .null, .null, .null, .null, .null, .null, .int 0, .null, .null, .null, .int 0] := by rw [hfs1, hE]; rfl
  have hR : ar_1 = [(q1, .inl (cyI, 20, .inl (fun _ => 0)))] := by rw [har1, hR]; rfl
  clear hfs1 har1
  refine lv_aload_n hx hb dX7_init_12 rfl (lv_at hl 0 rfl) ?_
  refine lv_bipush (v := nI 16) hx hb dX7_init_13 (by decide) ?_
  refine va_newa (atype := .int) (N' := 16) hx hb (hts (.arrayClass .int) (by decide +kernel)) rfl hK hP hD hS hA (a0 := (16, .inl (fun _ => 0))) (fun _ => rfl) (nI_pos (by omega)) (nI_clamp (by omega)) (Nat.le_of_ble_eq_true rfl) (Nat.le_of_ble_eq_true rfl) (Nat.le_of_ble_eq_true rfl) dX7_init_15 (fun q2 cA H hK2 hP hD hS => ?_)
  have hcA : cA = cyI := ra_eq hK2 (i := 3) (j := 0) (fun _ h => by cases h) rfl rfl
  rw [hcA] at hP hD
  refine W.widen (k := 2) (n := 36) (Nat.le_of_ble_eq_true rfl) (Nat.le_of_ble_eq_true rfl) ?_
  obtain ⟨ar_2, har2⟩ : ∃ z, z = ar_1 ++ [(q2, .inl (cyI, 16, .inl (fun _ => 0)))] := ⟨_, rfl⟩
  have hP : va_P D vwCl ((h0, .inr (7, fs_1)) :: ar_2) H := by rw [har2]; exact hP
  have hD : va_D A ((h0, .inr (7, fs_1)) :: ar_2) := by rw [har2]; exact hD
  refine va_putF (D := D) (ci := 7) (v := .ref q2) (ty := .array .int) (C := RX7) (T := TX7) (N := 48) hx hb hts hin7 tyX7 tyX7_ok nmX7 hown hK hP hD hS 0 rfl rfl 1 (by decide) f13 (fun _ h9 => h9) rfl hin rfl (by decide +kernel) rfl rfl (by rw [hlen]; decide) dX7_init_17 (fun H locs hP hD hS => ?_)
  obtain ⟨fs_2, hfs2⟩ : ∃ z, z = fs_1.set 1 (.ref q2) := ⟨_, rfl⟩
  have hlen : fs_2.length = 48 := by rw [hfs2, List.length_set]; exact hlen
  have hP : va_P D vwCl ((h0, .inr (7, fs_2)) :: ar_2) H := by rw [hfs2]; exact hP
  have hD : va_D A ((h0, .inr (7, fs_2)) :: ar_2) := by rw [hfs2]; exact hD
  have hE : fs_2 = [.ref q1, .ref q2, .null, .null, .null, .null, .null, .null, .null, .null, .null, .int 0, .int 0, .int 0, .int 0, .null, .null, .null, .null, .null, .null, .null, .null, .null, .null, .int 0, .null, .null, .null, .null, .null, .null, .null, .null, .int 0, .null, .null, .null, .null, .null, .null, .null, .null, .int 0, .null, .null, .null, .int 0] := by rw [hfs2, hE]; rfl
  have hR : ar_2 = [(q1, .inl (cyI, 20, .inl (fun _ => 0))), (q2, .inl (cyI, 16, .inl (fun _ => 0)))] := by rw [har2, hR]; rfl
  clear hfs2 har2
  refine lv_aload_n hx hb dX7_init_20 rfl (lv_at hl 0 rfl) ?_
  refine lv_bipush (v := nI 16) hx hb dX7_init_21 (by decide) ?_
  refine va_newa (atype := .int) (N' := 16) hx hb (hts (.arrayClass .int) (by decide +kernel)) rfl hK hP hD hS hA (a0 := (16, .inl (fun _ => 0))) (fun _ => rfl) (nI_pos (by omega)) (nI_clamp (by omega)) (Nat.le_of_ble_eq_true rfl) (Nat.le_of_ble_eq_true rfl) (Nat.le_of_ble_eq_true rfl) dX7_init_23 (fun q3 cA H hK2 hP hD hS => ?_)
  have hcA : cA = cyI := ra_eq hK2 (i := 3) (j := 0) (fun _ h => by cases h) rfl rfl
  rw [hcA] at hP hD
  refine W.widen (k := 3) (n := 52) (Nat.le_of_ble_eq_true rfl) (Nat.le_of_ble_eq_true rfl) ?_
  obtain ⟨ar_3, har3⟩ : ∃ z, z = ar_2 ++ [(q3, .inl (cyI, 16, .inl (fun _ => 0)))] := ⟨_, rfl⟩
  have hP : va_P D vwCl ((h0, .inr (7, fs_2)) :: ar_3) H := by rw [har3]; exact hP
  have hD : va_D A ((h0, .inr (7, fs_2)) :: ar_3) := by rw [har3]; exact hD
  refine va_putF (D := D) (ci := 7) (v := .ref q3) (ty := .array .int) (C := RX7) (T := TX7) (N := 48) hx hb hts hin7 tyX7 tyX7_ok nmX7 hown hK hP hD hS 0 rfl rfl 2 (by decide) f16 (fun _ h9 => h9) rfl hin rfl (by decide +kernel) rfl rfl (by rw [hlen]; decide) dX7_init_25 (fun H locs hP hD hS => ?_)
  obtain ⟨fs_3, hfs3⟩ : ∃ z, z = fs_2.set 2 (.ref q3) := ⟨_, rfl⟩
  have hlen : fs_3.length = 48 := by rw [hfs3, List.length_set]; exact hlen
  have hP : va_P D vwCl ((h0, .inr (7, fs_3)) :: ar_3) H := by rw [hfs3]; exact hP
  have hD : va_D A ((h0, .inr (7, fs_3)) :: ar_3) := by rw [hfs3]; exact hD
  have hE : fs_3 = [.ref q1, .ref q2, .ref q3, .null, .null, .null, .null, .null, .null, .null, .null, .int 0, .int 0, .int 0, .int 0, .null, .null, .null, .null, .null, .null, .null, .null, .null, .null, .int 0, .null, .null, .null, .null, .null, .null, .null, .null, .int 0, .null, .null, .null, .null, .null, .null, .null, .null, .int 0, .null, .null, .null, .int 0] := by rw [hfs3, hE]; rfl
  have hR : ar_3 = [(q1, .inl (cyI, 20, .inl (fun _ => 0))), (q2, .inl (cyI, 16, .inl (fun _ => 0))), (q3, .inl (cyI, 16, .inl (fun _ => 0)))] := by rw [har3, hR]; rfl
  clear hfs3 har3
  refine lv_aload_n hx hb dX7_init_28 rfl (lv_at hl 0 rfl) ?_
  refine lv_bipush (v := nI 16) hx hb dX7_init_29 (by decide) ?_
  refine va_newa (atype := .int) (N' := 16) hx hb (hts (.arrayClass .int) (by decide +kernel)) rfl hK hP hD hS hA (a0 := (16, .inl (fun _ => 0))) (fun _ => rfl) (nI_pos (by omega)) (nI_clamp (by omega)) (Nat.le_of_ble_eq_true rfl) (Nat.le_of_ble_eq_true rfl) (Nat.le_of_ble_eq_true rfl) dX7_init_31 (fun q4 cA H hK2 hP hD hS => ?_)
  have hcA : cA = cyI := ra_eq hK2 (i := 3) (j := 0) (fun _ h => by cases h) rfl rfl
  rw [hcA] at hP hD
  refine W.widen (k := 4) (n := 68) (Nat.le_of_ble_eq_true rfl) (Nat.le_of_ble_eq_true rfl) ?_
  obtain ⟨ar_4, har4⟩ : ∃ z, z = ar_3 ++ [(q4, .inl (cyI, 16, .inl (fun _ => 0)))] := ⟨_, rfl⟩
  have hP : va_P D vwCl ((h0, .inr (7, fs_3)) :: ar_4) H := by rw [har4]; exact hP
  have hD : va_D A ((h0, .inr (7, fs_3)) :: ar_4) := by rw [har4]; exact hD
  refine va_putF (D := D) (ci := 7) (v := .ref q4) (ty := .array .int) (C := RX7) (T := TX7) (N := 48) hx hb hts hin7 tyX7 tyX7_ok nmX7 hown hK hP hD hS 0 rfl rfl 3 (by decide) f19 (fun _ h9 => h9) rfl hin rfl (by decide +kernel) rfl rfl (by rw [hlen]; decide) dX7_init_33 (fun H locs hP hD hS => ?_)
  obtain ⟨fs_4, hfs4⟩ : ∃ z, z = fs_3.set 3 (.ref q4) := ⟨_, rfl⟩
  have hlen : fs_4.length = 48 := by rw [hfs4, List.length_set]; exact hlen
  have hP : va_P D vwCl ((h0, .inr (7, fs_4)) :: ar_4) H := by rw [hfs4]; exact hP
  have hD : va_D A ((h0, .inr (7, fs_4)) :: ar_4) := by rw [hfs4]; exact hD
  have hE : fs_4 = [.ref q1, .ref q2, .ref q3, .ref q4, .null, .null, .null, .null, .null, .null, .null, .int 0, .int 0, .int 0, .int 0, .null, .null, .null, .null, .null, .null, .null, .null, .null, .null, .int 0, .null, .null, .null, .null, .null, .null, .null, .null, .int 0, .null, .null, .null, .null, .null, .null, .null, .null, .int 0, .null, .null, .null, .int 0] := by rw [hfs4, hE]; rfl
  have hR : ar_4 = [(q1, .inl (cyI, 20, .inl (fun _ => 0))), (q2, .inl (cyI, 16, .inl (fun _ => 0))), (q3, .inl (cyI, 16, .inl (fun _ => 0))), (q4, .inl (cyI, 16, .inl (fun _ => 0)))] := by rw [har4, hR]; rfl
  clear hfs4 har4
  refine lv_aload_n hx hb dX7_init_36 rfl (lv_at hl 0 rfl) ?_
  refine lv_bipush (v := nI 16) hx hb dX7_init_37 (by decide) ?_
  refine va_newa (atype := .int) (N' := 16) hx hb (hts (.arrayClass .int) (by decide +kernel)) rfl hK hP hD hS hA (a0 := (16, .inl (fun _ => 0))) (fun _ => rfl) (nI_pos (by omega)) (nI_clamp (by omega)) (Nat.le_of_ble_eq_true rfl) (Nat.le_of_ble_eq_true rfl) (Nat.le_of_ble_eq_true rfl) dX7_init_39 (fun q5 cA H hK2 hP hD hS => ?_)
  have hcA : cA = cyI := ra_eq hK2 (i := 3) (j := 0) (fun _ h => by cases h) rfl rfl
  rw [hcA] at hP hD
  refine W.widen (k := 5) (n := 84) (Nat.le_of_ble_eq_true rfl) (Nat.le_of_ble_eq_true rfl) ?_
  obtain ⟨ar_5, har5⟩ : ∃ z, z = ar_4 ++ [(q5, .inl (cyI, 16, .inl (fun _ => 0)))] := ⟨_, rfl⟩
  have hP : va_P D vwCl ((h0, .inr (7, fs_4)) :: ar_5) H := by rw [har5]; exact hP
  have hD : va_D A ((h0, .inr (7, fs_4)) :: ar_5) := by rw [har5]; exact hD
  refine va_putF (D := D) (ci := 7) (v := .ref q5) (ty := .array .int) (C := RX7) (T := TX7) (N := 48) hx hb hts hin7 tyX7 tyX7_ok nmX7 hown hK hP hD hS 0 rfl rfl 4 (by decide) f22 (fun _ h9 => h9) rfl hin rfl (by decide +kernel) rfl rfl (by rw [hlen]; decide) dX7_init_41 (fun H locs hP hD hS => ?_)
  obtain ⟨fs_5, hfs5⟩ : ∃ z, z = fs_4.set 4 (.ref q5) := ⟨_, rfl⟩
  have hlen : fs_5.length = 48 := by rw [hfs5, List.length_set]; exact hlen
  have hP : va_P D vwCl ((h0, .inr (7, fs_5)) :: ar_5) H := by rw [hfs5]; exact hP
  have hD : va_D A ((h0, .inr (7, fs_5)) :: ar_5) := by rw [hfs5]; exact hD
  have hE : fs_5 = [.ref q1, .ref q2, .ref q3, .ref q4, .ref q5, .null, .null, .null, .null, .null, .null, .int 0, .int 0, .int 0, .int 0, .null, .null, .null, .null, .null, .null, .null, .null, .null, .null, .int 0, .null, .null, .null, .null, .null, .null, .null, .null, .int 0, .null, .null, .null, .null, .null, .null, .null, .null, .int 0, .null, .null, .null, .int 0] := by rw [hfs5, hE]; rfl
  have hR : ar_5 = [(q1, .inl (cyI, 20, .inl (fun _ => 0))), (q2, .inl (cyI, 16, .inl (fun _ => 0))), (q3, .inl (cyI, 16, .inl (fun _ => 0))), (q4, .inl (cyI, 16, .inl (fun _ => 0))), (q5, .inl (cyI, 16, .inl (fun _ => 0)))] := by rw [har5, hR]; rfl
  clear hfs5 har5
  refine lv_aload_n hx hb dX7_init_44 rfl (lv_at hl 0 rfl) ?_
  refine lv_bipush (v := nI 16) hx hb dX7_init_45 (by decide) ?_
  refine va_newa (atype := .int) (N' := 16) hx hb (hts (.arrayClass .int) (by decide +kernel)) rfl hK hP hD hS hA (a0 := (16, .inl (fun _ => 0))) (fun _ => rfl) (nI_pos (by omega)) (nI_clamp (by omega)) (Nat.le_of_ble_eq_true rfl) (Nat.le_of_ble_eq_true rfl) (Nat.le_of_ble_eq_true rfl) dX7_init_47 (fun q6 cA H hK2 hP hD hS => ?_)
  have hcA : cA = cyI := ra_eq hK2 (i := 3) (j := 0) (fun _ h => by cases h) rfl rfl
  rw [hcA] at hP hD
  refine W.widen (k := 6) (n := 100) (Nat.le_of_ble_eq_true rfl) (Nat.le_of_ble_eq_true rfl) ?_
  obtain ⟨ar_6, har6⟩ : ∃ z, z = ar_5 ++ [(q6, .inl (cyI, 16, .inl (fun _ => 0)))] := ⟨_, rfl⟩
  have hP : va_P D vwCl ((h0, .inr (7, fs_5)) :: ar_6) H := by rw [har6]; exact hP
  have hD : va_D A ((h0, .inr (7, fs_5)) :: ar_6) := by rw [har6]; exact hD
  refine va_putF (D := D) (ci := 7) (v := .ref q6) (ty := .array .int) (C := RX7) (T := TX7) (N := 48) hx hb hts hin7 tyX7 tyX7_ok nmX7 hown hK hP hD hS 0 rfl rfl 5 (by decide) f25 (fun _ h9 => h9) rfl hin rfl (by decide +kernel) rfl rfl (by rw [hlen]; decide) dX7_init_49 (fun H locs hP hD hS => ?_)
  obtain ⟨fs_6, hfs6⟩ : ∃ z, z = fs_5.set 5 (.ref q6) := ⟨_, rfl⟩
  have hlen : fs_6.length = 48 := by rw [hfs6, List.length_set]; exact hlen
  have hP : va_P D vwCl ((h0, .inr (7, fs_6)) :: ar_6) H := by rw [hfs6]; exact hP
  have hD : va_D A ((h0, .inr (7, fs_6)) :: ar_6) := by rw [hfs6]; exact hD
  have hE : fs_6 = [.ref q1, .ref q2, .ref q3, .ref q4, .ref q5, .ref q6, .null, .null, .null, .null, .null, .int 0, .int 0, .int 0, .int 0, .null, .null, .null, .null, .null, .null, .null, .null, .null, .null, .int 0, .null, .null, .null, .null, .null, .null, .null, .null, .int 0, .null, .null, .null, .null, .null, .null, .null, .null, .int 0, .null, .null, .null, .int 0] := by rw [hfs6, hE]; rfl
  have hR : ar_6 = [(q1, .inl (cyI, 20, .inl (fun _ => 0))), (q2, .inl (cyI, 16, .inl (fun _ => 0))), (q3, .inl (cyI, 16, .inl (fun _ => 0))), (q4, .inl (cyI, 16, .inl (fun _ => 0))), (q5, .inl (cyI, 16, .inl (fun _ => 0))), (q6, .inl (cyI, 16, .inl (fun _ => 0)))] := by rw [har6, hR]; rfl
  clear hfs6 har6
  refine lv_aload_n hx hb dX7_init_52 rfl (lv_at hl 0 rfl) ?_
  refine lv_bipush (v := nI 64) hx hb dX7_init_53 (by decide) ?_
  refine va_newa (atype := .int) (N' := 64) hx hb (hts (.arrayClass .int) (by decide +kernel)) rfl hK hP hD hS hA (a0 := (64, .inl (fun _ => 0))) (fun _ => rfl) (nI_pos (by omega)) (nI_clamp (by omega)) (Nat.le_of_ble_eq_true rfl) (Nat.le_of_ble_eq_true rfl) (Nat.le_of_ble_eq_true rfl) dX7_init_55 (fun q7 cA H hK2 hP hD hS => ?_)
  have hcA : cA = cyI := ra_eq hK2 (i := 3) (j := 0) (fun _ h => by cases h) rfl rfl
  rw [hcA] at hP hD
  refine W.widen (k := 7) (n := 164) (Nat.le_of_ble_eq_true rfl) (Nat.le_of_ble_eq_true rfl) ?_
  obtain ⟨ar_7, har7⟩ : ∃ z, z = ar_6 ++ [(q7, .inl (cyI, 64, .inl (fun _ => 0)))] := ⟨_, rfl⟩
  have hP : va_P D vwCl ((h0, .inr (7, fs_6)) :: ar_7) H := by rw [har7]; exact hP
  have hD : va_D A ((h0, .inr (7, fs_6)) :: ar_7) := by rw [har7]; exact hD
  refine va_putF (D := D) (ci := 7) (v := .ref q7) (ty := .array .int) (C := RX7) (T := TX7) (N := 48) hx hb hts hin7 tyX7 tyX7_ok nmX7 hown hK hP hD hS 0 rfl rfl 6 (by decide) f28 (fun _ h9 => h9) rfl hin rfl (by decide +kernel) rfl rfl (by rw [hlen]; decide) dX7_init_57 (fun H locs hP hD hS => ?_)
  obtain ⟨fs_7, hfs7⟩ : ∃ z, z = fs_6.set 6 (.ref q7) := ⟨_, rfl⟩
  have hlen : fs_7.length = 48 := by rw [hfs7, List.length_set]; exact hlen
  have hP : va_P D vwCl ((h0, .inr (7, fs_7)) :: ar_7) H := by rw [hfs7]; exact hP
  have hD : va_D A ((h0, .inr (7, fs_7)) :: ar_7) := by rw [hfs7]; exact hD
  have hE : fs_7 = [.ref q1, .ref q2, .ref q3, .ref q4, .ref q5, .ref q6, .ref q7, .null, .null, .null, .null, .int 0, .int 0, .int 0, .int 0, .null, .null, .null, .null, .null, .null, .null, .null, .null, .null, .int 0, .null, .null, .null, .null, .null, .null, .null, .null, .int 0, .null, .null, .null, .null, .null, .null, .null, .null, .int 0, .null, .null, .null, .int 0] := by rw [hfs7, hE]; rfl
  have hR : ar_7 = [(q1, .inl (cyI, 20, .inl (fun _ => 0))), (q2, .inl (cyI, 16, .inl (fun _ => 0))), (q3, .inl (cyI, 16, .inl (fun _ => 0))), (q4, .inl (cyI, 16, .inl (fun _ => 0))), (q5, .inl (cyI, 16, .inl (fun _ => 0))), (q6, .inl (cyI, 16, .inl (fun _ => 0))), (q7, .inl (cyI, 64, .inl (fun _ => 0)))] := by rw [har7, hR]; rfl
  clear hfs7 har7
  refine lv_aload_n hx hb dX7_init_60 rfl (lv_at hl 0 rfl) ?_
  refine lv_bipush (v := nI 64) hx hb dX7_init_61 (by decide) ?_
  refine va_newa (atype := .int) (N' := 64) hx hb (hts (.arrayClass .int) (by decide +kernel)) rfl hK hP hD hS hA (a0 := (64, .inl (fun _ => 0))) (fun _ => rfl) (nI_pos (by omega)) (nI_clamp (by omega)) (Nat.le_of_ble_eq_true rfl) (Nat.le_of_ble_eq_true rfl) (Nat.le_of_ble_eq_true rfl) dX7_init_63 (fun q8 cA H hK2 hP hD hS => ?_)
  have hcA : cA = cyI := ra_eq hK2 (i := 3) (j := 0) (fun _ h => by cases h) rfl rfl
  rw [hcA] at hP hD
  refine W.widen (k := 8) (n := 228) (Nat.le_of_ble_eq_true rfl) (Nat.le_of_ble_eq_true rfl) ?_
  obtain ⟨ar_8, har8⟩ : ∃ z, z = ar_7 ++ [(q8, .inl (cyI, 64, .inl (fun _ => 0)))] := ⟨_, rfl⟩
  have hP : va_P D vwCl ((h0, .inr (7, fs_7)) :: ar_8) H := by rw [har8]; exact hP
  have hD : va_D A ((h0, .inr (7, fs_7)) :: ar_8) := by rw [har8]; exact hD
  refine va_putF (D := D) (ci := 7) (v := .ref q8) (ty := .array .int) (C := RX7) (T := TX7) (N := 48) hx hb hts hin7 tyX7 tyX7_ok nmX7 hown hK hP hD hS 0 rfl rfl 7 (by decide) f31 (fun _ h9 => h9) rfl hin rfl (by decide +kernel) rfl rfl (by rw [hlen]; decide) dX7_init_65 (fun H locs hP hD hS => ?_)
  obtain ⟨fs_8, hfs8⟩ : ∃ z, z = fs_7.set 7 (.ref q8) := ⟨_, rfl⟩
  have hlen : fs_8.length = 48 := by rw [hfs8, List.length_set]; exact hlen
  have hP : va_P D vwCl ((h0, .inr (7, fs_8)) :: ar_8) H := by rw [hfs8]; exact hP
  have hD : va_D A ((h0, .inr (7, fs_8)) :: ar_8) := by rw [hfs8]; exact hD
  have hE : fs_8 = [.ref q1, .ref q2, .ref q3, .ref q4, .ref q5, .ref q6, .ref q7, .ref q8, .null, .null, .null, .int 0, .int 0, .int 0, .int 0, .null, .null, .null, .null, .null, .null, .null, .null, .null, .null, .int 0, .null, .null, .null, .null, .null, .null, .null, .null, .int 0, .null, .null, .null, .null, .null, .null, .null, .null, .int 0, .null, .null, .null, .int 0] := by rw [hfs8, hE]; rfl
  have hR : ar_8 = [(q1, .inl (cyI, 20, .inl (fun _ => 0))), (q2, .inl (cyI, 16, .inl (fun _ => 0))), (q3, .inl (cyI, 16, .inl (fun _ => 0))), (q4, .inl (cyI, 16, .inl (fun _ => 0))), (q5, .inl (cyI, 16, .inl (fun _ => 0))), (q6, .inl (cyI, 16, .inl (fun _ => 0))), (q7, .inl (cyI, 64, .inl (fun _ => 0))), (q8, .inl (cyI, 64, .inl (fun _ => 0)))] := by rw [har8, hR]; rfl
  clear hfs8 har8
  refine lv_aload_n hx hb dX7_init_68 rfl (lv_at hl 0 rfl) ?_
  refine lv_bipush (v := nI 16) hx hb dX7_init_69 (by decide) ?_
  refine va_newa (atype := .int) (N' := 16) hx hb (hts (.arrayClass .int) (by decide +kernel)) rfl hK hP hD hS hA (a0 := (16, .inl (fun _ => 0))) (fun _ => rfl) (nI_pos (by omega)) (nI_clamp (by omega)) (Nat.le_of_ble_eq_true rfl) (Nat.le_of_ble_eq_true rfl) (Nat.le_of_ble_eq_true rfl) dX7_init_71 (fun q9 cA H hK2 hP hD hS => ?_)
  have hcA : cA = cyI := ra_eq hK2 (i := 3) (j := 0) (fun _ h => by cases h) rfl rfl
  rw [hcA] at hP hD
  refine W.widen (k := 9) (n := 244) (Nat.le_of_ble_eq_true rfl) (Nat.le_of_ble_eq_true rfl) ?_
  obtain ⟨ar_9, har9⟩ : ∃ z, z = ar_8 ++ [(q9, .inl (cyI, 16, .inl (fun _ => 0)))] := ⟨_, rfl⟩
  have hP : va_P D vwCl ((h0, .inr (7, fs_8)) :: ar_9) H := by rw [har9]; exact hP
  have hD : va_D A ((h0, .inr (7, fs_8)) :: ar_9) := by rw [har9]; exact hD
  refine va_putF (D := D) (ci := 7) (v := .ref q9) (ty := .array .int) (C := RX7) (T := TX7) (N := 48) hx hb hts hin7 tyX7 tyX7_ok nmX7 hown hK hP hD hS 0 rfl rfl 8 (by decide) f34 (fun _ h9 => h9) rfl hin rfl (by decide +kernel) rfl rfl (by rw [hlen]; decide) dX7_init_73 (fun H locs hP hD hS => ?_)
  obtain ⟨fs_9, hfs9⟩ : ∃ z, z = fs_8.set 8 (.ref q9) := ⟨_, rfl⟩
  have hlen : fs_9.length = 48 := by rw [hfs9, List.length_set]; exact hlen
  have hP : va_P D vwCl ((h0, .inr (7, fs_9)) :: ar_9) H := by rw [hfs9]; exact hP
  have hD : va_D A ((h0, .inr (7, fs_9)) :: ar_9) := by rw [hfs9]; exact hD
  have hE : fs_9 = [.ref q1, .ref q2, .ref q3, .ref q4, .ref q5, .ref q6, .ref q7, .ref q8, .ref q9, .null, .null, .int 0, .int 0, .int 0, .int 0, .null, .null, .null, .null, .null, .null, .null, .null, .null, .null, .int 0, .null, .null, .null, .null, .null, .null, .null, .null, .int 0, .null, .null, .null, .null, .null, .null, .null, .null, .int 0, .null, .null, .null, .int 0] := by rw [hfs9, hE]; rfl
  have hR : ar_9 = [(q1, .inl (cyI, 20, .inl (fun _ => 0))), (q2, .inl (cyI, 16, .inl (fun _ => 0))), (q3, .inl (cyI, 16, .inl (fun _ => 0))), (q4, .inl (cyI, 16, .inl (fun _ => 0))), (q5, .inl (cyI, 16, .inl (fun _ => 0))), (q6, .inl (cyI, 16, .inl (fun _ => 0))), (q7, .inl (cyI, 64, .inl (fun _ => 0))), (q8, .inl (cyI, 64, .inl (fun _ => 0))), (q9, .inl (cyI, 16, .inl (fun _ => 0)))] := by rw [har9, hR]; rfl
  clear hfs9 har9
  refine lv_aload_n hx hb dX7_init_76 rfl (lv_at hl 0 rfl) ?_
  refine lv_iconst (v := nI 3) hx hb dX7_init_77 (by decide) ?_
  refine va_newa (atype := .boolean) (N' := 3) hx hb (hts (.arrayClass .boolean) (by decide +kernel)) rfl hK hP hD hS hA (a0 := (3, .inl (fun _ => 0))) (fun _ => rfl) (nI_pos (by omega)) (nI_clamp (by omega)) (Nat.le_of_ble_eq_true rfl) (Nat.le_of_ble_eq_true rfl) (Nat.le_of_ble_eq_true rfl) dX7_init_78 (fun q10 cA H hK2 hP hD hS => ?_)
  have hcA : cA = cyZ := ra_eq hK2 (i := 3) (j := 2) (fun _ h => by cases h) rfl rfl
  rw [hcA] at hP hD
  refine W.widen (k := 10) (n := 247) (Nat.le_of_ble_eq_true rfl) (Nat.le_of_ble_eq_true rfl) ?_
  obtain ⟨ar_10, har10⟩ : ∃ z, z = ar_9 ++ [(q10, .inl (cyZ, 3, .inl (fun _ => 0)))] := ⟨_, rfl⟩
  have hP : va_P D vwCl ((h0, .inr (7, fs_9)) :: ar_10) H := by rw [har10]; exact hP
  have hD : va_D A ((h0, .inr (7, fs_9)) :: ar_10) := by rw [har10]; exact hD
  refine va_putF (D := D) (ci := 7) (v := .ref q10) (ty := .array .boolean) (C := RX7) (T := TX7) (N := 48) hx hb hts hin7 tyX7 tyX7_ok nmX7 hown hK hP hD hS 0 rfl rfl 9 (by decide) f37 (fun _ h9 => h9) rfl hin rfl (by decide +kernel) rfl rfl (by rw [hlen]; decide) dX7_init_80 (fun H locs hP hD hS => ?_)
  obtain ⟨fs_10, hfs10⟩ : ∃ z, z = fs_9.set 9 (.ref q10) := ⟨_, rfl⟩
  have hlen : fs_10.length = 48 := by rw [hfs10, List.length_set]; exact hlen
  have hP : va_P D vwCl ((h0, .inr (7, fs_10)) :: ar_10) H := by rw [hfs10]; exact hP
  have hD : va_D A ((h0, .inr (7, fs_10)) :: ar_10) := by rw [hfs10]; exact hD
  have hE : fs_10 = [.ref q1, .ref q2, .ref q3, .ref q4, .ref q5, .ref q6, .ref q7, .ref q8, .ref q9, .ref q10, .null, .int 0, .int 0, .int 0, .int 0, .null, .null, .null, .null, .null, .null, .null, .null, .null, .null, .int 0, .null, .null, .null, .null, .null, .null, .null, .null, .int 0, .null, .null, .null, .null, .null, .null, .null, .null, .int 0, .null, .null, .null, .int 0] := by rw [hfs10, hE]; rfl
  have hR : ar_10 = [(q1, .inl (cyI, 20, .inl (fun _ => 0))), (q2, .inl (cyI, 16, .inl (fun _ => 0))), (q3, .inl (cyI, 16, .inl (fun _ => 0))), (q4, .inl (cyI, 16, .inl (fun _ => 0))), (q5, .inl (cyI, 16, .inl (fun _ => 0))), (q6, .inl (cyI, 16, .inl (fun _ => 0))), (q7, .inl (cyI, 64, .inl (fun _ => 0))), (q8, .inl (cyI, 64, .inl (fun _ => 0))), (q9, .inl (cyI, 16, .inl (fun _ => 0))), (q10, .inl (cyZ, 3, .inl (fun _ => 0)))] := by rw [har10, hR]; rfl
  clear hfs10 har10
  refine lv_aload_n hx hb dX7_init_83 rfl (lv_at hl 0 rfl) ?_
  refine lv_iconst (v := nI 3) hx hb dX7_init_84 (by decide) ?_
  refine va_newa (atype := .boolean) (N' := 3) hx hb (hts (.arrayClass .boolean) (by decide +kernel)) rfl hK hP hD hS hA (a0 := (3, .inl (fun _ => 0))) (fun _ => rfl) (nI_pos (by omega)) (nI_clamp (by omega)) (Nat.le_of_ble_eq_true rfl) (Nat.le_of_ble_eq_true rfl) (Nat.le_of_ble_eq_true rfl) dX7_init_85 (fun q11 cA H hK2 hP hD hS => ?_)
  have hcA : cA = cyZ := ra_eq hK2 (i := 3) (j := 2) (fun _ h => by cases h) rfl rfl
  rw [hcA] at hP hD
  refine W.widen (k := 11) (n := 250) (Nat.le_of_ble_eq_true rfl) (Nat.le_of_ble_eq_true rfl) ?_
  obtain ⟨ar_11, har11⟩ : ∃ z, z = ar_10 ++ [(q11, .inl (cyZ, 3, .inl (fun _ => 0)))] := ⟨_, rfl⟩
  have hP : va_P D vwCl ((h0, .inr (7, fs_10)) :: ar_11) H := by rw [har11]; exact hP
  have hD : va_D A ((h0, .inr (7, fs_10)) :: ar_11) := by rw [har11]; exact hD
  refine va_putF (D := D) (ci := 7) (v := .ref q11) (ty := .array .boolean) (C := RX7) (T := TX7) (N := 48) hx hb hts hin7 tyX7 tyX7_ok nmX7 hown hK hP hD hS 0 rfl rfl 10 (by decide) f41 (fun _ h9 => h9) rfl hin rfl (by decide +kernel) rfl rfl (by rw [hlen]; decide) dX7_init_87 (fun H locs hP hD hS => ?_)
  obtain ⟨fs_11, hfs11⟩ : ∃ z, z = fs_10.set 10 (.ref q11) := ⟨_, rfl⟩
  have hlen : fs_11.length = 48 := by rw [hfs11, List.length_set]; exact hlen
  have hP : va_P D vwCl ((h0, .inr (7, fs_11)) :: ar_11) H := by rw [hfs11]; exact hP
  have hD : va_D A ((h0, .inr (7, fs_11)) :: ar_11) := by rw [hfs11]; exact hD
  have hE : fs_11 = [.ref q1, .ref q2, .ref q3, .ref q4, .ref q5, .ref q6, .ref q7, .ref q8, .ref q9, .ref q10, .ref q11, .int 0, .int 0, .int 0, .int 0, .null, .null, .null, .null, .null, .null, .null, .null, .null, .null, .int 0, .null, .null, .null, .null, .null, .null, .null, .null, .int 0, .null, .null, .null, .null, .null, .null, .null, .null, .int 0, .null, .null, .null, .int 0] := by rw [hfs11, hE]; rfl
  have hR : ar_11 = [(q1, .inl (cyI, 20, .inl (fun _ => 0))), (q2, .inl (cyI, 16, .inl (fun _ => 0))), (q3, .inl (cyI, 16, .inl (fun _ => 0))), (q4, .inl (cyI, 16, .inl (fun _ => 0))), (q5, .inl (cyI, 16, .inl (fun _ => 0))), (q6, .inl (cyI, 16, .inl (fun _ => 0))), (q7, .inl (cyI, 64, .inl (fun _ => 0))), (q8, .inl (cyI, 64, .inl (fun _ => 0))), (q9, .inl (cyI, 16, .inl (fun _ => 0))), (q10, .inl (cyZ, 3, .inl (fun _ => 0))), (q11, .inl (cyZ, 3, .inl (fun _ => 0)))] := by rw [har11, hR]; rfl
  clear hfs11 har11
  refine lv_aload_n hx hb dX7_init_90 rfl (lv_at hl 0 rfl) ?_
  refine lv_bipush (v := nI 32) hx hb dX7_init_91 (by decide) ?_
  refine va_newa (atype := .boolean) (N' := 32) hx hb (hts (.arrayClass .boolean) (by decide +kernel)) rfl hK hP hD hS hA (a0 := (32, .inl (fun _ => 0))) (fun _ => rfl) (nI_pos (by omega)) (nI_clamp (by omega)) (Nat.le_of_ble_eq_true rfl) (Nat.le_of_ble_eq_true rfl) (Nat.le_of_ble_eq_true rfl) dX7_init_93 (fun q12 cA H hK2 hP hD hS => ?_)
  have hcA : cA = cyZ := ra_eq hK2 (i := 3) (j := 2) (fun _ h => by cases h) rfl rfl
  rw [hcA] at hP hD
  refine W.widen (k := 12) (n := 282) (Nat.le_of_ble_eq_true rfl) (Nat.le_of_ble_eq_true rfl) ?_
  obtain ⟨ar_12, har12⟩ : ∃ z, z = ar_11 ++ [(q12, .inl (cyZ, 32, .inl (fun _ => 0)))] := ⟨_, rfl⟩
  have hP : va_P D vwCl ((h0, .inr (7, fs_11)) :: ar_12) H := by rw [har12]; exact hP
  have hD : va_D A ((h0, .inr (7, fs_11)) :: ar_12) := by rw [har12]; exact hD
  refine va_putF (D := D) (ci := 7) (v := .ref q12) (ty := .array .boolean) (C := RX7) (T := TX7) (N := 48) hx hb hts hin7 tyX7 tyX7_ok nmX7 hown hK hP hD hS 0 rfl rfl 15 (by decide) f44 (fun _ h9 => h9) rfl hin rfl (by decide +kernel) rfl rfl (by rw [hlen]; decide) dX7_init_95 (fun H locs hP hD hS => ?_)
  obtain ⟨fs_12, hfs12⟩ : ∃ z, z = fs_11.set 15 (.ref q12) := ⟨_, rfl⟩
  have hlen : fs_12.length = 48 := by rw [hfs12, List.length_set]; exact hlen
  have hP : va_P D vwCl ((h0, .inr (7, fs_12)) :: ar_12) H := by rw [hfs12]; exact hP
  have hD : va_D A ((h0, .inr (7, fs_12)) :: ar_12) := by rw [hfs12]; exact hD
  have hE : fs_12 = [.ref q1, .ref q2, .ref q3, .ref q4, .ref q5, .ref q6, .ref q7, .ref q8, .ref q9, .ref q10, .ref q11, .int 0, .int 0, .int 0, .int 0, .ref q12, .null, .null, .null, .null, .null, .null, .null, .null, .null, .int 0, .null, .null, .null, .null, .null, .null, .null, .null, .int 0, .null, .null, .null, .null, .null, .null, .null, .null, .int 0, .null, .null, .null, .int 0] := by rw [hfs12, hE]; rfl
  have hR : ar_12 = [(q1, .inl (cyI, 20, .inl (fun _ => 0))), (q2, .inl (cyI, 16, .inl (fun _ => 0))), (q3, .inl (cyI, 16, .inl (fun _ => 0))), (q4, .inl (cyI, 16, .inl (fun _ => 0))), (q5, .inl (cyI, 16, .inl (fun _ => 0))), (q6, .inl (cyI, 16, .inl (fun _ => 0))), (q7, .inl (cyI, 64, .inl (fun _ => 0))), (q8, .inl (cyI, 64, .inl (fun _ => 0))), (q9, .inl (cyI, 16, .inl (fun _ => 0))), (q10, .inl (cyZ, 3, .inl (fun _ => 0))), (q11, .inl (cyZ, 3, .inl (fun _ => 0))), (q12, .inl (cyZ, 32, .inl (fun _ => 0)))] := by rw [har12, hR]; rfl
  clear hfs12 har12
  refine lv_aload_n hx hb dX7_init_98 rfl (lv_at hl 0 rfl) ?_
  refine lv_bipush (v := nI 32) hx hb dX7_init_99 (by decide) ?_
  refine va_newa (atype := .long) (N' := 32) hx hb (hts (.arrayClass .long) (by decide +kernel)) rfl hK hP hD hS hA (a0 := (32, .inr (.inl (fun _ => 0)))) (fun _ => rfl) (nI_pos (by omega)) (nI_clamp (by omega)) (Nat.le_of_ble_eq_true rfl) (Nat.le_of_ble_eq_true rfl) (Nat.le_of_ble_eq_true rfl) dX7_init_101 (fun q13 cA H hK2 hP hD hS => ?_)
  have hcA : cA = cyJ := ra_eq hK2 (i := 3) (j := 1) (fun _ h => by cases h) rfl rfl
  rw [hcA] at hP hD
  refine W.widen (k := 13) (n := 314) (Nat.le_of_ble_eq_true rfl) (Nat.le_of_ble_eq_true rfl) ?_
  obtain ⟨ar_13, har13⟩ : ∃ z, z = ar_12 ++ [(q13, .inl (cyJ, 32, .inr (.inl (fun _ => 0))))] := ⟨_, rfl⟩
  have hP : va_P D vwCl ((h0, .inr (7, fs_12)) :: ar_13) H := by rw [har13]; exact hP
  have hD : va_D A ((h0, .inr (7, fs_12)) :: ar_13) := by rw [har13]; exact hD
  refine va_putF (D := D) (ci := 7) (v := .ref q13) (ty := .array .long) (C := RX7) (T := TX7) (N := 48) hx hb hts hin7 tyX7 tyX7_ok nmX7 hown hK hP hD hS 0 rfl rfl 16 (by decide) f47 (fun _ h9 => h9) rfl hin rfl (by decide +kernel) rfl rfl (by rw [hlen]; decide) dX7_init_103 (fun H locs hP hD hS => ?_)
  obtain ⟨fs_13, hfs13⟩ : ∃ z, z = fs_12.set 16 (.ref q13) := ⟨_, rfl⟩
  have hlen : fs_13.length = 48 := by rw [hfs13, List.length_set]; exact hlen
  have hP : va_P D vwCl ((h0, .inr (7, fs_13)) :: ar_13) H := by rw [hfs13]; exact hP
  have hD : va_D A ((h0, .inr (7, fs_13)) :: ar_13) := by rw [hfs13]; exact hD
  have hE : fs_13 = [.ref q1, .ref q2, .ref q3, .ref q4, .ref q5, .ref q6, .ref q7, .ref q8, .ref q9, .ref q10, .ref q11, .int 0, .int 0, .int 0, .int 0, .ref q12, .ref q13, .null, .null, .null, .null, .null, .null, .null, .null, .int 0, .null, .null, .null, .null, .null, .null, .null, .null, .int 0, .null, .null, .null, .null, .null, .null, .null, .null, .int 0, .null, .null, .null, .int 0] := by rw [hfs13, hE]; rfl
  have hR : ar_13 = [(q1, .inl (cyI, 20, .inl (fun _ => 0))), (q2, .inl (cyI, 16, .inl (fun _ => 0))), (q3, .inl (cyI, 16, .inl (fun _ => 0))), (q4, .inl (cyI, 16, .inl (fun _ => 0))), (q5, .inl (cyI, 16, .inl (fun _ => 0))), (q6, .inl (cyI, 16, .inl (fun _ => 0))), (q7, .inl (cyI, 64, .inl (fun _ => 0))), (q8, .inl (cyI, 64, .inl (fun _ => 0))), (q9, .inl (cyI, 16, .inl (fun _ => 0))), (q10, .inl (cyZ, 3, .inl (fun _ => 0))), (q11, .inl (cyZ, 3, .inl (fun _ => 0))), (q12, .inl (cyZ, 32, .inl (fun _ => 0))), (q13, .inl (cyJ, 32, .inr (.inl (fun _ => 0))))] := by rw [har13, hR]; rfl
  clear hfs13 har13
  refine lv_aload_n hx hb dX7_init_106 rfl (lv_at hl 0 rfl) ?_
  refine lv_bipush (v := nI 32) hx hb dX7_init_107 (by decide) ?_
  refine va_newa (atype := .int) (N' := 32) hx hb (hts (.arrayClass .int) (by decide +kernel)) rfl hK hP hD hS hA (a0 := (32, .inl (fun _ => 0))) (fun _ => rfl) (nI_pos (by omega)) (nI_clamp (by omega)) (Nat.le_of_ble_eq_true rfl) (Nat.le_of_ble_eq_true rfl) (Nat.le_of_ble_eq_true rfl) dX7_init_109 (fun q14 cA H hK2 hP hD hS => ?_)
  have hcA : cA = cyI := ra_eq hK2 (i := 3) (j := 0) (fun _ h => by cases h) rfl rfl
  rw [hcA] at hP hD
  refine W.widen (k := 14) (n := 346) (Nat.le_of_ble_eq_true rfl) (Nat.le_of_ble_eq_true rfl) ?_
  obtain ⟨ar_14, har14⟩ : ∃ z, z = ar_13 ++ [(q14, .inl (cyI, 32, .inl (fun _ => 0)))] := ⟨_, rfl⟩
  have hP : va_P D vwCl ((h0, .inr (7, fs_13)) :: ar_14) H := by rw [har14]; exact hP
  have hD : va_D A ((h0, .inr (7, fs_13)) :: ar_14) := by rw [har14]; exact hD
  refine va_putF (D := D) (ci := 7) (v := .ref q14) (ty := .array .int) (C := RX7) (T := TX7) (N := 48) hx hb hts hin7 tyX7 tyX7_ok nmX7 hown hK hP hD hS 0 rfl rfl 17 (by decide) f51 (fun _ h9 => h9) rfl hin rfl (by decide +kernel) rfl rfl (by rw [hlen]; decide) dX7_init_111 (fun H locs hP hD hS => ?_)
  obtain ⟨fs_14, hfs14⟩ : ∃ z, z = fs_13.set 17 (.ref q14) := ⟨_, rfl⟩
  have hlen : fs_14.length = 48 := by rw [hfs14, List.length_set]; exact hlen
  have hP : va_P D vwCl ((h0, .inr (7, fs_14)) :: ar_14) H := by rw [hfs14]; exact hP
  have hD : va_D A ((h0, .inr (7, fs_14)) :: ar_14) := by rw [hfs14]; exact hD
  have hE : fs_14 = [.ref q1, .ref q2, .ref q3, .ref q4, .ref q5, .ref q6, .ref q7, .ref q8, .ref q9, .ref q10, .ref q11, .int 0, .int 0, .int 0, .int 0, .ref q12, .ref q13, .ref q14, .null, .null, .null, .null, .null, .null, .null, .int 0, .null, .null, .null, .null, .null, .null, .null, .null, .int 0, .null, .null, .null, .null, .null, .null, .null, .null, .int 0, .null, .null, .null, .int 0] := by rw [hfs14, hE]; rfl
  have hR : ar_14 = [(q1, .inl (cyI, 20, .inl (fun _ => 0))), (q2, .inl (cyI, 16, .inl (fun _ => 0))), (q3, .inl (cyI, 16, .inl (fun _ => 0))), (q4, .inl (cyI, 16, .inl (fun _ => 0))), (q5, .inl (cyI, 16, .inl (fun _ => 0))), (q6, .inl (cyI, 16, .inl (fun _ => 0))), (q7, .inl (cyI, 64, .inl (fun _ => 0))), (q8, .inl (cyI, 64, .inl (fun _ => 0))), (q9, .inl (cyI, 16, .inl (fun _ => 0))), (q10, .inl (cyZ, 3, .inl (fun _ => 0))), (q11, .inl (cyZ, 3, .inl (fun _ => 0))), (q12, .inl (cyZ, 32, .inl (fun _ => 0))), (q13, .inl (cyJ, 32, .inr (.inl (fun _ => 0)))), (q14, .inl (cyI, 32, .inl (fun _ => 0)))] := by rw [har14, hR]; rfl
  clear hfs14 har14
  refine lv_aload_n hx hb dX7_init_114 rfl (lv_at hl 0 rfl) ?_
  refine lv_bipush (v := nI 32) hx hb dX7_init_115 (by decide) ?_
  refine va_newa (atype := .int) (N' := 32) hx hb (hts (.arrayClass .int) (by decide +kernel)) rfl hK hP hD hS hA (a0 := (32, .inl (fun _ => 0))) (fun _ => rfl) (nI_pos (by omega)) (nI_clamp (by omega)) (Nat.le_of_ble_eq_true rfl) (Nat.le_of_ble_eq_true rfl) (Nat.le_of_ble_eq_true rfl) dX7_init_117 (fun q15 cA H hK2 hP hD hS => ?_)
  have hcA : cA = cyI := ra_eq hK2 (i := 3) (j := 0) (fun _ h => by cases h) rfl rfl
  rw [hcA] at hP hD
  refine W.widen (k := 15) (n := 378) (Nat.le_of_ble_eq_true rfl) (Nat.le_of_ble_eq_true rfl) ?_
  obtain ⟨ar_15, har15⟩ : ∃ z, z = ar_14 ++ [(q15, .inl (cyI, 32, .inl (fun _ => 0)))] := ⟨_, rfl⟩
  have hP : va_P D vwCl ((h0, .inr (7, fs_14)) :: ar_15) H := by rw [har15]; exact hP
  have hD : va_D A ((h0, .inr (7, fs_14)) :: ar_15) := by rw [har15]; exact hD
  refine va_putF (D := D) (ci := 7) (v := .ref q15) (ty := .array .int) (C := RX7) (T := TX7) (N := 48) hx hb hts hin7 tyX7 tyX7_ok nmX7 hown hK hP hD hS 0 rfl rfl 18 (by decide) f54 (fun _ h9 => h9) rfl hin rfl (by decide +kernel) rfl rfl (by rw [hlen]; decide) dX7_init_119 (fun H locs hP hD hS => ?_)
  obtain ⟨fs_15, hfs15⟩ : ∃ z, z = fs_14.set 18 (.ref q15) := ⟨_, rfl⟩
  have hlen : fs_15.length = 48 := by rw [hfs15, List.length_set]; exact hlen
  have hP : va_P D vwCl ((h0, .inr (7, fs_15)) :: ar_15) H := by rw [hfs15]; exact hP
  have hD : va_D A ((h0, .inr (7, fs_15)) :: ar_15) := by rw [hfs15]; exact hD
  have hE : fs_15 = [.ref q1, .ref q2, .ref q3, .ref q4, .ref q5, .ref q6, .ref q7, .ref q8, .ref q9, .ref q10, .ref q11, .int 0, .int 0, .int 0, .int 0, .ref q12, .ref q13, .ref q14, .ref q15, .null, .null, .null, .null, .null, .null, .int 0, .null, .null, .null, .null, .null, .null, .null, .null, .int 0, .null, .null, .null, .null, .null, .null, .null, .null, .int 0, .null, .null, .null, .int 0] := by rw [hfs15, hE]; rfl
  have hR : ar_15 = [(q1, .inl (cyI, 20, .inl (fun _ => 0))), (q2, .inl (cyI, 16, .inl (fun _ => 0))), (q3, .inl (cyI, 16, .inl (fun _ => 0))), (q4, .inl (cyI, 16, .inl (fun _ => 0))), (q5, .inl (cyI, 16, .inl (fun _ => 0))), (q6, .inl (cyI, 16, .inl (fun _ => 0))), (q7, .inl (cyI, 64, .inl (fun _ => 0))), (q8, .inl (cyI, 64, .inl (fun _ => 0))), (q9, .inl (cyI, 16, .inl (fun _ => 0))), (q10, .inl (cyZ, 3, .inl (fun _ => 0))), (q11, .inl (cyZ, 3, .inl (fun _ => 0))), (q12, .inl (cyZ, 32, .inl (fun _ => 0))), (q13, .inl (cyJ, 32, .inr (.inl (fun _ => 0)))), (q14, .inl (cyI, 32, .inl (fun _ => 0))), (q15, .inl (cyI, 32, .inl (fun _ => 0)))] := by rw [har15, hR]; rfl
  clear hfs15 har15
  refine lv_aload_n hx hb dX7_init_122 rfl (lv_at hl 0 rfl) ?_
  refine lv_sipush (v := nI 160) hx hb dX7_init_123 (by decide) ?_
  refine va_newa (atype := .int) (N' := 160) hx hb (hts (.arrayClass .int) (by decide +kernel)) rfl hK hP hD hS hA (a0 := (160, .inl (fun _ => 0))) (fun _ => rfl) (nI_pos (by omega)) (nI_clamp (by omega)) (Nat.le_of_ble_eq_true rfl) (Nat.le_of_ble_eq_true rfl) (Nat.le_of_ble_eq_true rfl) dX7_init_126 (fun q16 cA H hK2 hP hD hS => ?_)
  have hcA : cA = cyI := ra_eq hK2 (i := 3) (j := 0) (fun _ h => by cases h) rfl rfl
  rw [hcA] at hP hD
  refine W.widen (k := 16) (n := 538) (Nat.le_of_ble_eq_true rfl) (Nat.le_of_ble_eq_true rfl) ?_
  obtain ⟨ar_16, har16⟩ : ∃ z, z = ar_15 ++ [(q16, .inl (cyI, 160, .inl (fun _ => 0)))] := ⟨_, rfl⟩
  have hP : va_P D vwCl ((h0, .inr (7, fs_15)) :: ar_16) H := by rw [har16]; exact hP
  have hD : va_D A ((h0, .inr (7, fs_15)) :: ar_16) := by rw [har16]; exact hD
  refine va_putF (D := D) (ci := 7) (v := .ref q16) (ty := .array .int) (C := RX7) (T := TX7) (N := 48) hx hb hts hin7 tyX7 tyX7_ok nmX7 hown hK hP hD hS 0 rfl rfl 19 (by decide) f57 (fun _ h9 => h9) rfl hin rfl (by decide +kernel) rfl rfl (by rw [hlen]; decide) dX7_init_128 (fun H locs hP hD hS => ?_)
  obtain ⟨fs_16, hfs16⟩ : ∃ z, z = fs_15.set 19 (.ref q16) := ⟨_, rfl⟩
  have hlen : fs_16.length = 48 := by rw [hfs16, List.length_set]; exact hlen
  have hP : va_P D vwCl ((h0, .inr (7, fs_16)) :: ar_16) H := by rw [hfs16]; exact hP
  have hD : va_D A ((h0, .inr (7, fs_16)) :: ar_16) := by rw [hfs16]; exact hD
  have hE : fs_16 = [.ref q1, .ref q2, .ref q3, .ref q4, .ref q5, .ref q6, .ref q7, .ref q8, .ref q9, .ref q10, .ref q11, .int 0, .int 0, .int 0, .int 0, .ref q12, .ref q13, .ref q14, .ref q15, .ref q16, .null, .null, .null, .null, .null, .int 0, .null, .null, .null, .null, .null, .null, .null, .null, .int 0, .null, .null, .null, .null, .null, .null, .null, .null, .int 0, .null, .null, .null, .int 0] := by rw [hfs16, hE]; rfl
  have hR : ar_16 = [(q1, .inl (cyI, 20, .inl (fun _ => 0))), (q2, .inl (cyI, 16, .inl (fun _ => 0))), (q3, .inl (cyI, 16, .inl (fun _ => 0))), (q4, .inl (cyI, 16, .inl (fun _ => 0))), (q5, .inl (cyI, 16, .inl (fun _ => 0))), (q6, .inl (cyI, 16, .inl (fun _ => 0))), (q7, .inl (cyI, 64, .inl (fun _ => 0))), (q8, .inl (cyI, 64, .inl (fun _ => 0))), (q9, .inl (cyI, 16, .inl (fun _ => 0))), (q10, .inl (cyZ, 3, .inl (fun _ => 0))), (q11, .inl (cyZ, 3, .inl (fun _ => 0))), (q12, .inl (cyZ, 32, .inl (fun _ => 0))), (q13, .inl (cyJ, 32, .inr (.inl (fun _ => 0)))), (q14, .inl (cyI, 32, .inl (fun _ => 0))), (q15, .inl (cyI, 32, .inl (fun _ => 0))), (q16, .inl (cyI, 160, .inl (fun _ => 0)))] := by rw [har16, hR]; rfl
  clear hfs16 har16
  refine lv_aload_n hx hb dX7_init_131 rfl (lv_at hl 0 rfl) ?_
  refine lv_sipush (v := nI 160) hx hb dX7_init_132 (by decide) ?_
  refine va_newa (atype := .int) (N' := 160) hx hb (hts (.arrayClass .int) (by decide +kernel)) rfl hK hP hD hS hA (a0 := (160, .inl (fun _ => 0))) (fun _ => rfl) (nI_pos (by omega)) (nI_clamp (by omega)) (Nat.le_of_ble_eq_true rfl) (Nat.le_of_ble_eq_true rfl) (Nat.le_of_ble_eq_true rfl) dX7_init_135 (fun q17 cA H hK2 hP hD hS => ?_)
  have hcA : cA = cyI := ra_eq hK2 (i := 3) (j := 0) (fun _ h => by cases h) rfl rfl
  rw [hcA] at hP hD
  refine W.widen (k := 17) (n := 698) (Nat.le_of_ble_eq_true rfl) (Nat.le_of_ble_eq_true rfl) ?_
  obtain ⟨ar_17, har17⟩ : ∃ z, z = ar_16 ++ [(q17, .inl (cyI, 160, .inl (fun _ => 0)))] := ⟨_, rfl⟩
  have hP : va_P D vwCl ((h0, .inr (7, fs_16)) :: ar_17) H := by rw [har17]; exact hP
  have hD : va_D A ((h0, .inr (7, fs_16)) :: ar_17) := by rw [har17]; exact hD
  refine va_putF (D := D) (ci := 7) (v := .ref q17) (ty := .array .int) (C := RX7) (T := TX7) (N := 48) hx hb hts hin7 tyX7 tyX7_ok nmX7 hown hK hP hD hS 0 rfl rfl 20 (by decide) f60 (fun _ h9 => h9) rfl hin rfl (by decide +kernel) rfl rfl (by rw [hlen]; decide) dX7_init_137 (fun H locs hP hD hS => ?_)
  obtain ⟨fs_17, hfs17⟩ : ∃ z, z = fs_16.set 20 (.ref q17) := ⟨_, rfl⟩
  have hlen : fs_17.length = 48 := by rw [hfs17, List.length_set]; exact hlen
  have hP : va_P D vwCl ((h0, .inr (7, fs_17)) :: ar_17) H := by rw [hfs17]; exact hP
  have hD : va_D A ((h0, .inr (7, fs_17)) :: ar_17) := by rw [hfs17]; exact hD
  have hE : fs_17 = [.ref q1, .ref q2, .ref q3, .ref q4, .ref q5, .ref q6, .ref q7, .ref q8, .ref q9, .ref q10, .ref q11, .int 0, .int 0, .int 0, .int 0, .ref q12, .ref q13, .ref q14, .ref q15, .ref q16, .ref q17, .null, .null, .null, .null, .int 0, .null, .null, .null, .null, .null, .null, .null, .null, .int 0, .null, .null, .null, .null, .null, .null, .null, .null, .int 0, .null, .null, .null, .int 0] := by rw [hfs17, hE]; rfl
  have hR : ar_17 = [(q1, .inl (cyI, 20, .inl (fun _ => 0))), (q2, .inl (cyI, 16, .inl (fun _ => 0))), (q3, .inl (cyI, 16, .inl (fun _ => 0))), (q4, .inl (cyI, 16, .inl (fun _ => 0))), (q5, .inl (cyI, 16, .inl (fun _ => 0))), (q6, .inl (cyI, 16, .inl (fun _ => 0))), (q7, .inl (cyI, 64, .inl (fun _ => 0))), (q8, .inl (cyI, 64, .inl (fun _ => 0))), (q9, .inl (cyI, 16, .inl (fun _ => 0))), (q10, .inl (cyZ, 3, .inl (fun _ => 0))), (q11, .inl (cyZ, 3, .inl (fun _ => 0))), (q12, .inl (cyZ, 32, .inl (fun _ => 0))), (q13, .inl (cyJ, 32, .inr (.inl (fun _ => 0)))), (q14, .inl (cyI, 32, .inl (fun _ => 0))), (q15, .inl (cyI, 32, .inl (fun _ => 0))), (q16, .inl (cyI, 160, .inl (fun _ => 0))), (q17, .inl (cyI, 160, .inl (fun _ => 0)))] := by rw [har17, hR]; rfl
  clear hfs17 har17
  refine lv_aload_n hx hb dX7_init_140 rfl (lv_at hl 0 rfl) ?_
  refine lv_sipush (v := nI 160) hx hb dX7_init_141 (by decide) ?_
  refine va_newa (atype := .long) (N' := 160) hx hb (hts (.arrayClass .long) (by decide +kernel)) rfl hK hP hD hS hA (a0 := (160, .inr (.inl (fun _ => 0)))) (fun _ => rfl) (nI_pos (by omega)) (nI_clamp (by omega)) (Nat.le_of_ble_eq_true rfl) (Nat.le_of_ble_eq_true rfl) (Nat.le_of_ble_eq_true rfl) dX7_init_144 (fun q18 cA H hK2 hP hD hS => ?_)
  have hcA : cA = cyJ := ra_eq hK2 (i := 3) (j := 1) (fun _ h => by cases h) rfl rfl
  rw [hcA] at hP hD
  refine W.widen (k := 18) (n := 858) (Nat.le_of_ble_eq_true rfl) (Nat.le_of_ble_eq_true rfl) ?_
  obtain ⟨ar_18, har18⟩ : ∃ z, z = ar_17 ++ [(q18, .inl (cyJ, 160, .inr (.inl (fun _ => 0))))] := ⟨_, rfl⟩
  have hP : va_P D vwCl ((h0, .inr (7, fs_17)) :: ar_18) H := by rw [har18]; exact hP
  have hD : va_D A ((h0, .inr (7, fs_17)) :: ar_18) := by rw [har18]; exact hD
  refine va_putF (D := D) (ci := 7) (v := .ref q18) (ty := .array .long) (C := RX7) (T := TX7) (N := 48) hx hb hts hin7 tyX7 tyX7_ok nmX7 hown hK hP hD hS 0 rfl rfl 21 (by decide) f63 (fun _ h9 => h9) rfl hin rfl (by decide +kernel) rfl rfl (by rw [hlen]; decide) dX7_init_146 (fun H locs hP hD hS => ?_)
  obtain ⟨fs_18, hfs18⟩ : ∃ z, z = fs_17.set 21 (.ref q18) := ⟨_, rfl⟩
  have hlen : fs_18.length = 48 := by rw [hfs18, List.length_set]; exact hlen
  have hP : va_P D vwCl ((h0, .inr (7, fs_18)) :: ar_18) H := by rw [hfs18]; exact hP
  have hD : va_D A ((h0, .inr (7, fs_18)) :: ar_18) := by rw [hfs18]; exact hD
  have hE : fs_18 = [.ref q1, .ref q2, .ref q3, .ref q4, .ref q5, .ref q6, .ref q7, .ref q8, .ref q9, .ref q10, .ref q11, .int 0, .int 0, .int 0, .int 0, .ref q12, .ref q13, .ref q14, .ref q15, .ref q16, .ref q17, .ref q18, .null, .null, .null, .int 0, .null, .null, .null, .null, .null, .null, .null, .null, .int 0, .null, .null, .null, .null, .null, .null, .null, .null, .int 0, .null, .null, .null, .int 0] := by rw [hfs18, hE]; rfl
  have hR : ar_18 = [(q1, .inl (cyI, 20, .inl (fun _ => 0))), (q2, .inl (cyI, 16, .inl (fun _ => 0))), (q3, .inl (cyI, 16, .inl (fun _ => 0))), (q4, .inl (cyI, 16, .inl (fun _ => 0))), (q5, .inl (cyI, 16, .inl (fun _ => 0))), (q6, .inl (cyI, 16, .inl (fun _ => 0))), (q7, .inl (cyI, 64, .inl (fun _ => 0))), (q8, .inl (cyI, 64, .inl (fun _ => 0))), (q9, .inl (cyI, 16, .inl (fun _ => 0))), (q10, .inl (cyZ, 3, .inl (fun _ => 0))), (q11, .inl (cyZ, 3, .inl (fun _ => 0))), (q12, .inl (cyZ, 32, .inl (fun _ => 0))), (q13, .inl (cyJ, 32, .inr (.inl (fun _ => 0)))), (q14, .inl (cyI, 32, .inl (fun _ => 0))), (q15, .inl (cyI, 32, .inl (fun _ => 0))), (q16, .inl (cyI, 160, .inl (fun _ => 0))), (q17, .inl (cyI, 160, .inl (fun _ => 0))), (q18, .inl (cyJ, 160, .inr (.inl (fun _ => 0))))] := by rw [har18, hR]; rfl
  clear hfs18 har18
  refine lv_aload_n hx hb dX7_init_149 rfl (lv_at hl 0 rfl) ?_
  refine lv_bipush (v := nI 32) hx hb dX7_init_150 (by decide) ?_
  refine va_newa (atype := .int) (N' := 32) hx hb (hts (.arrayClass .int) (by decide +kernel)) rfl hK hP hD hS hA (a0 := (32, .inl (fun _ => 0))) (fun _ => rfl) (nI_pos (by omega)) (nI_clamp (by omega)) (Nat.le_of_ble_eq_true rfl) (Nat.le_of_ble_eq_true rfl) (Nat.le_of_ble_eq_true rfl) dX7_init_152 (fun q19 cA H hK2 hP hD hS => ?_)
  have hcA : cA = cyI := ra_eq hK2 (i := 3) (j := 0) (fun _ h => by cases h) rfl rfl
  rw [hcA] at hP hD
  refine W.widen (k := 19) (n := 890) (Nat.le_of_ble_eq_true rfl) (Nat.le_of_ble_eq_true rfl) ?_
  obtain ⟨ar_19, har19⟩ : ∃ z, z = ar_18 ++ [(q19, .inl (cyI, 32, .inl (fun _ => 0)))] := ⟨_, rfl⟩
  have hP : va_P D vwCl ((h0, .inr (7, fs_18)) :: ar_19) H := by rw [har19]; exact hP
  have hD : va_D A ((h0, .inr (7, fs_18)) :: ar_19) := by rw [har19]; exact hD
  refine va_putF (D := D) (ci := 7) (v := .ref q19) (ty := .array .int) (C := RX7) (T := TX7) (N := 48) hx hb hts hin7 tyX7 tyX7_ok nmX7 hown hK hP hD hS 0 rfl rfl 22 (by decide) f66 (fun _ h9 => h9) rfl hin rfl (by decide +kernel) rfl rfl (by rw [hlen]; decide) dX7_init_154 (fun H locs hP hD hS => ?_)
  obtain ⟨fs_19, hfs19⟩ : ∃ z, z = fs_18.set 22 (.ref q19) := ⟨_, rfl⟩
  have hlen : fs_19.length = 48 := by rw [hfs19, List.length_set]; exact hlen
  have hP : va_P D vwCl ((h0, .inr (7, fs_19)) :: ar_19) H := by rw [hfs19]; exact hP
  have hD : va_D A ((h0, .inr (7, fs_19)) :: ar_19) := by rw [hfs19]; exact hD
  have hE : fs_19 = [.ref q1, .ref q2, .ref q3, .ref q4, .ref q5, .ref q6, .ref q7, .ref q8, .ref q9, .ref q10, .ref q11, .int 0, .int 0, .int 0, .int 0, .ref q12, .ref q13, .ref q14, .ref q15, .ref q16, .ref q17, .ref q18, .ref q19, .null, .null, .int 0, .null, .null, .null, .null, .null, .null, .null, .null, .int 0, .null, .null, .null, .null, .null, .null, .null, .null, .int 0, .null, .null, .null, .int 0] := by rw [hfs19, hE]; rfl
  have hR : ar_19 = [(q1, .inl (cyI, 20, .inl (fun _ => 0))), (q2, .inl (cyI, 16, .inl (fun _ => 0))), (q3, .inl (cyI, 16, .inl (fun _ => 0))), (q4, .inl (cyI, 16, .inl (fun _ => 0))), (q5, .inl (cyI, 16, .inl (fun _ => 0))), (q6, .inl (cyI, 16, .inl (fun _ => 0))), (q7, .inl (cyI, 64, .inl (fun _ => 0))), (q8, .inl (cyI, 64, .inl (fun _ => 0))), (q9, .inl (cyI, 16, .inl (fun _ => 0))), (q10, .inl (cyZ, 3, .inl (fun _ => 0))), (q11, .inl (cyZ, 3, .inl (fun _ => 0))), (q12, .inl (cyZ, 32, .inl (fun _ => 0))), (q13, .inl (cyJ, 32, .inr (.inl (fun _ => 0)))), (q14, .inl (cyI, 32, .inl (fun _ => 0))), (q15, .inl (cyI, 32, .inl (fun _ => 0))), (q16, .inl (cyI, 160, .inl (fun _ => 0))), (q17, .inl (cyI, 160, .inl (fun _ => 0))), (q18, .inl (cyJ, 160, .inr (.inl (fun _ => 0)))), (q19, .inl (cyI, 32, .inl (fun _ => 0)))] := by rw [har19, hR]; rfl
  clear hfs19 har19
  refine lv_aload_n hx hb dX7_init_157 rfl (lv_at hl 0 rfl) ?_
  refine lv_bipush (v := nI 32) hx hb dX7_init_158 (by decide) ?_
  refine va_newa (atype := .int) (N' := 32) hx hb (hts (.arrayClass .int) (by decide +kernel)) rfl hK hP hD hS hA (a0 := (32, .inl (fun _ => 0))) (fun _ => rfl) (nI_pos (by omega)) (nI_clamp (by omega)) (Nat.le_of_ble_eq_true rfl) (Nat.le_of_ble_eq_true rfl) (Nat.le_of_ble_eq_true rfl) dX7_init_160 (fun q20 cA H hK2 hP hD hS => ?_)
  have hcA : cA = cyI := ra_eq hK2 (i := 3) (j := 0) (fun _ h => by cases h) rfl rfl
  rw [hcA] at hP hD
  refine W.widen (k := 20) (n := 922) (Nat.le_of_ble_eq_true rfl) (Nat.le_of_ble_eq_true rfl) ?_
  obtain ⟨ar_20, har20⟩ : ∃ z, z = ar_19 ++ [(q20, .inl (cyI, 32, .inl (fun _ => 0)))] := ⟨_, rfl⟩
  have hP : va_P D vwCl ((h0, .inr (7, fs_19)) :: ar_20) H := by rw [har20]; exact hP
  have hD : va_D A ((h0, .inr (7, fs_19)) :: ar_20) := by rw [har20]; exact hD
  refine va_putF (D := D) (ci := 7) (v := .ref q20) (ty := .array .int) (C := RX7) (T := TX7) (N := 48) hx hb hts hin7 tyX7 tyX7_ok nmX7 hown hK hP hD hS 0 rfl rfl 23 (by decide) f69 (fun _ h9 => h9) rfl hin rfl (by decide +kernel) rfl rfl (by rw [hlen]; decide) dX7_init_162 (fun H locs hP hD hS => ?_)
  obtain ⟨fs_20, hfs20⟩ : ∃ z, z = fs_19.set 23 (.ref q20) := ⟨_, rfl⟩
  have hlen : fs_20.length = 48 := by rw [hfs20, List.length_set]; exact hlen
  have hP : va_P D vwCl ((h0, .inr (7, fs_20)) :: ar_20) H := by rw [hfs20]; exact hP
  have hD : va_D A ((h0, .inr (7, fs_20)) :: ar_20) := by rw [hfs20]; exact hD
  have hE : fs_20 = [.ref q1, .ref q2, .ref q3, .ref q4, .ref q5, .ref q6, .ref q7, .ref q8, .ref q9, .ref q10, .ref q11, .int 0, .int 0, .int 0, .int 0, .ref q12, .ref q13, .ref q14, .ref q15, .ref q16, .ref q17, .ref q18, .ref q19, .ref q20, .null, .int 0, .null, .null, .null, .null, .null, .null, .null, .null, .int 0, .null, .null, .null, .null, .null, .null, .null, .null, .int 0, .null, .null, .null, .int 0] := by rw [hfs20, hE]; rfl
  have hR : ar_20 = [(q1, .inl (cyI, 20, .inl (fun _ => 0))), (q2, .inl (cyI, 16, .inl (fun _ => 0))), (q3, .inl (cyI, 16, .inl (fun _ => 0))), (q4, .inl (cyI, 16, .inl (fun _ => 0))), (q5, .inl (cyI, 16, .inl (fun _ => 0))), (q6, .inl (cyI, 16, .inl (fun _ => 0))), (q7, .inl (cyI, 64, .inl (fun _ => 0))), (q8, .inl (cyI, 64, .inl (fun _ => 0))), (q9, .inl (cyI, 16, .inl (fun _ => 0))), (q10, .inl (cyZ, 3, .inl (fun _ => 0))), (q11, .inl (cyZ, 3, .inl (fun _ => 0))), (q12, .inl (cyZ, 32, .inl (fun _ => 0))), (q13, .inl (cyJ, 32, .inr (.inl (fun _ => 0)))), (q14, .inl (cyI, 32, .inl (fun _ => 0))), (q15, .inl (cyI, 32, .inl (fun _ => 0))), (q16, .inl (cyI, 160, .inl (fun _ => 0))), (q17, .inl (cyI, 160, .inl (fun _ => 0))), (q18, .inl (cyJ, 160, .inr (.inl (fun _ => 0)))), (q19, .inl (cyI, 32, .inl (fun _ => 0))), (q20, .inl (cyI, 32, .inl (fun _ => 0)))] := by rw [har20, hR]; rfl
  clear hfs20 har20
  refine lv_aload_n hx hb dX7_init_165 rfl (lv_at hl 0 rfl) ?_
  refine lv_bipush (v := nI 32) hx hb dX7_init_166 (by decide) ?_
  refine va_newa (atype := .boolean) (N' := 32) hx hb (hts (.arrayClass .boolean) (by decide +kernel)) rfl hK hP hD hS hA (a0 := (32, .inl (fun _ => 0))) (fun _ => rfl) (nI_pos (by omega)) (nI_clamp (by omega)) (Nat.le_of_ble_eq_true rfl) (Nat.le_of_ble_eq_true rfl) (Nat.le_of_ble_eq_true rfl) dX7_init_168 (fun q21 cA H hK2 hP hD hS => ?_)
  have hcA : cA = cyZ := ra_eq hK2 (i := 3) (j := 2) (fun _ h => by cases h) rfl rfl
  rw [hcA] at hP hD
  refine W.widen (k := 21) (n := 954) (Nat.le_of_ble_eq_true rfl) (Nat.le_of_ble_eq_true rfl) ?_
  obtain ⟨ar_21, har21⟩ : ∃ z, z = ar_20 ++ [(q21, .inl (cyZ, 32, .inl (fun _ => 0)))] := ⟨_, rfl⟩
  have hP : va_P D vwCl ((h0, .inr (7, fs_20)) :: ar_21) H := by rw [har21]; exact hP
  have hD : va_D A ((h0, .inr (7, fs_20)) :: ar_21) := by rw [har21]; exact hD
  refine va_putF (D := D) (ci := 7) (v := .ref q21) (ty := .array .boolean) (C := RX7) (T := TX7) (N := 48) hx hb hts hin7 tyX7 tyX7_ok nmX7 hown hK hP hD hS 0 rfl rfl 24 (by decide) f72 (fun _ h9 => h9) rfl hin rfl (by decide +kernel) rfl rfl (by rw [hlen]; decide) dX7_init_170 (fun H locs hP hD hS => ?_)
  obtain ⟨fs_21, hfs21⟩ : ∃ z, z = fs_20.set 24 (.ref q21) := ⟨_, rfl⟩
  have hlen : fs_21.length = 48 := by rw [hfs21, List.length_set]; exact hlen
  have hP : va_P D vwCl ((h0, .inr (7, fs_21)) :: ar_21) H := by rw [hfs21]; exact hP
  have hD : va_D A ((h0, .inr (7, fs_21)) :: ar_21) := by rw [hfs21]; exact hD
  have hE : fs_21 = [.ref q1, .ref q2, .ref q3, .ref q4, .ref q5, .ref q6, .ref q7, .ref q8, .ref q9, .ref q10, .ref q11, .int 0, .int 0, .int 0, .int 0, .ref q12, .ref q13, .ref q14, .ref q15, .ref q16, .ref q17, .ref q18, .ref q19, .ref q20, .ref q21, .int 0, .null, .null, .null, .null, .null, .null, .null, .null, .int 0, .null, .null, .null, .null, .null, .null, .null, .null, .int 0, .null, .null, .null, .int 0] := by rw [hfs21, hE]; rfl
  have hR : ar_21 = [(q1, .inl (cyI, 20, .inl (fun _ => 0))), (q2, .inl (cyI, 16, .inl (fun _ => 0))), (q3, .inl (cyI, 16, .inl (fun _ => 0))), (q4, .inl (cyI, 16, .inl (fun _ => 0))), (q5, .inl (cyI, 16, .inl (fun _ => 0))), (q6, .inl (cyI, 16, .inl (fun _ => 0))), (q7, .inl (cyI, 64, .inl (fun _ => 0))), (q8, .inl (cyI, 64, .inl (fun _ => 0))), (q9, .inl (cyI, 16, .inl (fun _ => 0))), (q10, .inl (cyZ, 3, .inl (fun _ => 0))), (q11, .inl (cyZ, 3, .inl (fun _ => 0))), (q12, .inl (cyZ, 32, .inl (fun _ => 0))), (q13, .inl (cyJ, 32, .inr (.inl (fun _ => 0)))), (q14, .inl (cyI, 32, .inl (fun _ => 0))), (q15, .inl (cyI, 32, .inl (fun _ => 0))), (q16, .inl (cyI, 160, .inl (fun _ => 0))), (q17, .inl (cyI, 160, .inl (fun _ => 0))), (q18, .inl (cyJ, 160, .inr (.inl (fun _ => 0)))), (q19, .inl (cyI, 32, .inl (fun _ => 0))), (q20, .inl (cyI, 32, .inl (fun _ => 0))), (q21, .inl (cyZ, 32, .inl (fun _ => 0)))] := by rw [har21, hR]; rfl
  clear hfs21 har21
  refine lv_aload_n hx hb dX7_init_173 rfl (lv_at hl 0 rfl) ?_
  refine lv_sipush (v := nI 606) hx hb dX7_init_174 (by decide) ?_
  refine va_newa (atype := .long) (N' := 606) hx hb (hts (.arrayClass .long) (by decide +kernel)) rfl hK hP hD hS hA (a0 := (606, .inr (.inl (fun _ => 0)))) (fun _ => rfl) (nI_pos (by omega)) (nI_clamp (by omega)) (Nat.le_of_ble_eq_true rfl) (Nat.le_of_ble_eq_true rfl) (Nat.le_of_ble_eq_true rfl) dX7_init_177 (fun q22 cA H hK2 hP hD hS => ?_)
  have hcA : cA = cyJ := ra_eq hK2 (i := 3) (j := 1) (fun _ h => by cases h) rfl rfl
  rw [hcA] at hP hD
  refine W.widen (k := 22) (n := 1560) (Nat.le_of_ble_eq_true rfl) (Nat.le_of_ble_eq_true rfl) ?_
  obtain ⟨ar_22, har22⟩ : ∃ z, z = ar_21 ++ [(q22, .inl (cyJ, 606, .inr (.inl (fun _ => 0))))] := ⟨_, rfl⟩
  have hP : va_P D vwCl ((h0, .inr (7, fs_21)) :: ar_22) H := by rw [har22]; exact hP
  have hD : va_D A ((h0, .inr (7, fs_21)) :: ar_22) := by rw [har22]; exact hD
  refine va_putF (D := D) (ci := 7) (v := .ref q22) (ty := .array .long) (C := RX7) (T := TX7) (N := 48) hx hb hts hin7 tyX7 tyX7_ok nmX7 hown hK hP hD hS 0 rfl rfl 26 (by decide) f75 (fun _ h9 => h9) rfl hin rfl (by decide +kernel) rfl rfl (by rw [hlen]; decide) dX7_init_179 (fun H locs hP hD hS => ?_)
  obtain ⟨fs_22, hfs22⟩ : ∃ z, z = fs_21.set 26 (.ref q22) := ⟨_, rfl⟩
  have hlen : fs_22.length = 48 := by rw [hfs22, List.length_set]; exact hlen
  have hP : va_P D vwCl ((h0, .inr (7, fs_22)) :: ar_22) H := by rw [hfs22]; exact hP
  have hD : va_D A ((h0, .inr (7, fs_22)) :: ar_22) := by rw [hfs22]; exact hD
  have hE : fs_22 = [.ref q1, .ref q2, .ref q3, .ref q4, .ref q5, .ref q6, .ref q7, .ref q8, .ref q9, .ref q10, .ref q11, .int 0, .int 0, .int 0, .int 0, .ref q12, .ref q13, .ref q14, .ref q15, .ref q16, .ref q17, .ref q18, .ref q19, .ref q20, .ref q21, .int 0, .ref q22, .null, .null, .null, .null, .null, .null, .null, .int 0, .null, .null, .null, .null, .null, .null, .null, .null, .int 0, .null, .null, .null, .int 0] := by rw [hfs22, hE]; rfl
  have hR : ar_22 = [(q1, .inl (cyI, 20, .inl (fun _ => 0))), (q2, .inl (cyI, 16, .inl (fun _ => 0))), (q3, .inl (cyI, 16, .inl (fun _ => 0))), (q4, .inl (cyI, 16, .inl (fun _ => 0))), (q5, .inl (cyI, 16, .inl (fun _ => 0))), (q6, .inl (cyI, 16, .inl (fun _ => 0))), (q7, .inl (cyI, 64, .inl (fun _ => 0))), (q8, .inl (cyI, 64, .inl (fun _ => 0))), (q9, .inl (cyI, 16, .inl (fun _ => 0))), (q10, .inl (cyZ, 3, .inl (fun _ => 0))), (q11, .inl (cyZ, 3, .inl (fun _ => 0))), (q12, .inl (cyZ, 32, .inl (fun _ => 0))), (q13, .inl (cyJ, 32, .inr (.inl (fun _ => 0)))), (q14, .inl (cyI, 32, .inl (fun _ => 0))), (q15, .inl (cyI, 32, .inl (fun _ => 0))), (q16, .inl (cyI, 160, .inl (fun _ => 0))), (q17, .inl (cyI, 160, .inl (fun _ => 0))), (q18, .inl (cyJ, 160, .inr (.inl (fun _ => 0)))), (q19, .inl (cyI, 32, .inl (fun _ => 0))), (q20, .inl (cyI, 32, .inl (fun _ => 0))), (q21, .inl (cyZ, 32, .inl (fun _ => 0))), (q22, .inl (cyJ, 606, .inr (.inl (fun _ => 0))))] := by rw [har22, hR]; rfl
  clear hfs22 har22
  refine lv_aload_n hx hb dX7_init_182 rfl (lv_at hl 0 rfl) ?_
  refine lv_bipush (v := nI 101) hx hb dX7_init_183 (by decide) ?_
  refine va_newa (atype := .int) (N' := 101) hx hb (hts (.arrayClass .int) (by decide +kernel)) rfl hK hP hD hS hA (a0 := (101, .inl (fun _ => 0))) (fun _ => rfl) (nI_pos (by omega)) (nI_clamp (by omega)) (Nat.le_of_ble_eq_true rfl) (Nat.le_of_ble_eq_true rfl) (Nat.le_of_ble_eq_true rfl) dX7_init_185 (fun q23 cA H hK2 hP hD hS => ?_)
  have hcA : cA = cyI := ra_eq hK2 (i := 3) (j := 0) (fun _ h => by cases h) rfl rfl
  rw [hcA] at hP hD
  refine W.widen (k := 23) (n := 1661) (Nat.le_of_ble_eq_true rfl) (Nat.le_of_ble_eq_true rfl) ?_
  obtain ⟨ar_23, har23⟩ : ∃ z, z = ar_22 ++ [(q23, .inl (cyI, 101, .inl (fun _ => 0)))] := ⟨_, rfl⟩
  have hP : va_P D vwCl ((h0, .inr (7, fs_22)) :: ar_23) H := by rw [har23]; exact hP
  have hD : va_D A ((h0, .inr (7, fs_22)) :: ar_23) := by rw [har23]; exact hD
  refine va_putF (D := D) (ci := 7) (v := .ref q23) (ty := .array .int) (C := RX7) (T := TX7) (N := 48) hx hb hts hin7 tyX7 tyX7_ok nmX7 hown hK hP hD hS 0 rfl rfl 27 (by decide) f78 (fun _ h9 => h9) rfl hin rfl (by decide +kernel) rfl rfl (by rw [hlen]; decide) dX7_init_187 (fun H locs hP hD hS => ?_)
  obtain ⟨fs_23, hfs23⟩ : ∃ z, z = fs_22.set 27 (.ref q23) := ⟨_, rfl⟩
  have hlen : fs_23.length = 48 := by rw [hfs23, List.length_set]; exact hlen
  have hP : va_P D vwCl ((h0, .inr (7, fs_23)) :: ar_23) H := by rw [hfs23]; exact hP
  have hD : va_D A ((h0, .inr (7, fs_23)) :: ar_23) := by rw [hfs23]; exact hD
  have hE : fs_23 = [.ref q1, .ref q2, .ref q3, .ref q4, .ref q5, .ref q6, .ref q7, .ref q8, .ref q9, .ref q10, .ref q11, .int 0, .int 0, .int 0, .int 0, .ref q12, .ref q13, .ref q14, .ref q15, .ref q16, .ref q17, .ref q18, .ref q19, .ref q20, .ref q21, .int 0, .ref q22, .ref q23, .null, .null, .null, .null, .null, .null, .int 0, .null, .null, .null, .null, .null, .null, .null, .null, .int 0, .null, .null, .null, .int 0] := by rw [hfs23, hE]; rfl
  have hR : ar_23 = [(q1, .inl (cyI, 20, .inl (fun _ => 0))), (q2, .inl (cyI, 16, .inl (fun _ => 0))), (q3, .inl (cyI, 16, .inl (fun _ => 0))), (q4, .inl (cyI, 16, .inl (fun _ => 0))), (q5, .inl (cyI, 16, .inl (fun _ => 0))), (q6, .inl (cyI, 16, .inl (fun _ => 0))), (q7, .inl (cyI, 64, .inl (fun _ => 0))), (q8, .inl (cyI, 64, .inl (fun _ => 0))), (q9, .inl (cyI, 16, .inl (fun _ => 0))), (q10, .inl (cyZ, 3, .inl (fun _ => 0))), (q11, .inl (cyZ, 3, .inl (fun _ => 0))), (q12, .inl (cyZ, 32, .inl (fun _ => 0))), (q13, .inl (cyJ, 32, .inr (.inl (fun _ => 0)))), (q14, .inl (cyI, 32, .inl (fun _ => 0))), (q15, .inl (cyI, 32, .inl (fun _ => 0))), (q16, .inl (cyI, 160, .inl (fun _ => 0))), (q17, .inl (cyI, 160, .inl (fun _ => 0))), (q18, .inl (cyJ, 160, .inr (.inl (fun _ => 0)))), (q19, .inl (cyI, 32, .inl (fun _ => 0))), (q20, .inl (cyI, 32, .inl (fun _ => 0))), (q21, .inl (cyZ, 32, .inl (fun _ => 0))), (q22, .inl (cyJ, 606, .inr (.inl (fun _ => 0)))), (q23, .inl (cyI, 101, .inl (fun _ => 0)))] := by rw [har23, hR]; rfl
  clear hfs23 har23
  refine lv_aload_n hx hb dX7_init_190 rfl (lv_at hl 0 rfl) ?_
  refine lv_bipush (v := nI 101) hx hb dX7_init_191 (by decide) ?_
  refine va_newa (atype := .int) (N' := 101) hx hb (hts (.arrayClass .int) (by decide +kernel)) rfl hK hP hD hS hA (a0 := (101, .inl (fun _ => 0))) (fun _ => rfl) (nI_pos (by omega)) (nI_clamp (by omega)) (Nat.le_of_ble_eq_true rfl) (Nat.le_of_ble_eq_true rfl) (Nat.le_of_ble_eq_true rfl) dX7_init_193 (fun q24 cA H hK2 hP hD hS => ?_)
  have hcA : cA = cyI := ra_eq hK2 (i := 3) (j := 0) (fun _ h => by cases h) rfl rfl
  rw [hcA] at hP hD
  refine W.widen (k := 24) (n := 1762) (Nat.le_of_ble_eq_true rfl) (Nat.le_of_ble_eq_true rfl) ?_
  obtain ⟨ar_24, har24⟩ : ∃ z, z = ar_23 ++ [(q24, .inl (cyI, 101, .inl (fun _ => 0)))] := ⟨_, rfl⟩
  have hP : va_P D vwCl ((h0, .inr (7, fs_23)) :: ar_24) H := by rw [har24]; exact hP
  have hD : va_D A ((h0, .inr (7, fs_23)) :: ar_24) := by rw [har24]; exact hD
  refine va_putF (D := D) (ci := 7) (v := .ref q24) (ty := .array .int) (C := RX7) (T := TX7) (N := 48) hx hb hts hin7 tyX7 tyX7_ok nmX7 hown hK hP hD hS 0 rfl rfl 28 (by decide) f81 (fun _ h9 => h9) rfl hin rfl (by decide +kernel) rfl rfl (by rw [hlen]; decide) dX7_init_195 (fun H locs hP hD hS => ?_)
  obtain ⟨fs_24, hfs24⟩ : ∃ z, z = fs_23.set 28 (.ref q24) := ⟨_, rfl⟩
  have hlen : fs_24.length = 48 := by rw [hfs24, List.length_set]; exact hlen
  have hP : va_P D vwCl ((h0, .inr (7, fs_24)) :: ar_24) H := by rw [hfs24]; exact hP
  have hD : va_D A ((h0, .inr (7, fs_24)) :: ar_24) := by rw [hfs24]; exact hD
  have hE : fs_24 = [.ref q1, .ref q2, .ref q3, .ref q4, .ref q5, .ref q6, .ref q7, .ref q8, .ref q9, .ref q10, .ref q11, .int 0, .int 0, .int 0, .int 0, .ref q12, .ref q13, .ref q14, .ref q15, .ref q16, .ref q17, .ref q18, .ref q19, .ref q20, .ref q21, .int 0, .ref q22, .ref q23, .ref q24, .null, .null, .null, .null, .null, .int 0, .null, .null, .null, .null, .null, .null, .null, .null, .int 0, .null, .null, .null, .int 0] := by rw [hfs24, hE]; rfl
  have hR : ar_24 = [(q1, .inl (cyI, 20, .inl (fun _ => 0))), (q2, .inl (cyI, 16, .inl (fun _ => 0))), (q3, .inl (cyI, 16, .inl (fun _ => 0))), (q4, .inl (cyI, 16, .inl (fun _ => 0))), (q5, .inl (cyI, 16, .inl (fun _ => 0))), (q6, .inl (cyI, 16, .inl (fun _ => 0))), (q7, .inl (cyI, 64, .inl (fun _ => 0))), (q8, .inl (cyI, 64, .inl (fun _ => 0))), (q9, .inl (cyI, 16, .inl (fun _ => 0))), (q10, .inl (cyZ, 3, .inl (fun _ => 0))), (q11, .inl (cyZ, 3, .inl (fun _ => 0))), (q12, .inl (cyZ, 32, .inl (fun _ => 0))), (q13, .inl (cyJ, 32, .inr (.inl (fun _ => 0)))), (q14, .inl (cyI, 32, .inl (fun _ => 0))), (q15, .inl (cyI, 32, .inl (fun _ => 0))), (q16, .inl (cyI, 160, .inl (fun _ => 0))), (q17, .inl (cyI, 160, .inl (fun _ => 0))), (q18, .inl (cyJ, 160, .inr (.inl (fun _ => 0)))), (q19, .inl (cyI, 32, .inl (fun _ => 0))), (q20, .inl (cyI, 32, .inl (fun _ => 0))), (q21, .inl (cyZ, 32, .inl (fun _ => 0))), (q22, .inl (cyJ, 606, .inr (.inl (fun _ => 0)))), (q23, .inl (cyI, 101, .inl (fun _ => 0))), (q24, .inl (cyI, 101, .inl (fun _ => 0)))] := by rw [har24, hR]; rfl
  clear hfs24 har24
  refine lv_aload_n hx hb dX7_init_198 rfl (lv_at hl 0 rfl) ?_
  refine lv_bipush (v := nI 32) hx hb dX7_init_199 (by decide) ?_
  refine va_newa (atype := .int) (N' := 32) hx hb (hts (.arrayClass .int) (by decide +kernel)) rfl hK hP hD hS hA (a0 := (32, .inl (fun _ => 0))) (fun _ => rfl) (nI_pos (by omega)) (nI_clamp (by omega)) (Nat.le_of_ble_eq_true rfl) (Nat.le_of_ble_eq_true rfl) (Nat.le_of_ble_eq_true rfl) dX7_init_201 (fun q25 cA H hK2 hP hD hS => ?_)
  have hcA : cA = cyI := ra_eq hK2 (i := 3) (j := 0) (fun _ h => by cases h) rfl rfl
  rw [hcA] at hP hD
  refine W.widen (k := 25) (n := 1794) (Nat.le_of_ble_eq_true rfl) (Nat.le_of_ble_eq_true rfl) ?_
  obtain ⟨ar_25, har25⟩ : ∃ z, z = ar_24 ++ [(q25, .inl (cyI, 32, .inl (fun _ => 0)))] := ⟨_, rfl⟩
  have hP : va_P D vwCl ((h0, .inr (7, fs_24)) :: ar_25) H := by rw [har25]; exact hP
  have hD : va_D A ((h0, .inr (7, fs_24)) :: ar_25) := by rw [har25]; exact hD
  refine va_putF (D := D) (ci := 7) (v := .ref q25) (ty := .array .int) (C := RX7) (T := TX7) (N := 48) hx hb hts hin7 tyX7 tyX7_ok nmX7 hown hK hP hD hS 0 rfl rfl 29 (by decide) f84 (fun _ h9 => h9) rfl hin rfl (by decide +kernel) rfl rfl (by rw [hlen]; decide) dX7_init_203 (fun H locs hP hD hS => ?_)
  obtain ⟨fs_25, hfs25⟩ : ∃ z, z = fs_24.set 29 (.ref q25) := ⟨_, rfl⟩
  have hlen : fs_25.length = 48 := by rw [hfs25, List.length_set]; exact hlen
  have hP : va_P D vwCl ((h0, .inr (7, fs_25)) :: ar_25) H := by rw [hfs25]; exact hP
  have hD : va_D A ((h0, .inr (7, fs_25)) :: ar_25) := by rw [hfs25]; exact hD
  have hE : fs_25 = [.ref q1, .ref q2, .ref q3, .ref q4, .ref q5, .ref q6, .ref q7, .ref q8, .ref q9, .ref q10, .ref q11, .int 0, .int 0, .int 0, .int 0, .ref q12, .ref q13, .ref q14, .ref q15, .ref q16, .ref q17, .ref q18, .ref q19, .ref q20, .ref q21, .int 0, .ref q22, .ref q23, .ref q24, .ref q25, .null, .null, .null, .null, .int 0, .null, .null, .null, .null, .null, .null, .null, .null, .int 0, .null, .null, .null, .int 0] := by rw [hfs25, hE]; rfl
  have hR : ar_25 = [(q1, .inl (cyI, 20, .inl (fun _ => 0))), (q2, .inl (cyI, 16, .inl (fun _ => 0))), (q3, .inl (cyI, 16, .inl (fun _ => 0))), (q4, .inl (cyI, 16, .inl (fun _ => 0))), (q5, .inl (cyI, 16, .inl (fun _ => 0))), (q6, .inl (cyI, 16, .inl (fun _ => 0))), (q7, .inl (cyI, 64, .inl (fun _ => 0))), (q8, .inl (cyI, 64, .inl (fun _ => 0))), (q9, .inl (cyI, 16, .inl (fun _ => 0))), (q10, .inl (cyZ, 3, .inl (fun _ => 0))), (q11, .inl (cyZ, 3, .inl (fun _ => 0))), (q12, .inl (cyZ, 32, .inl (fun _ => 0))), (q13, .inl (cyJ, 32, .inr (.inl (fun _ => 0)))), (q14, .inl (cyI, 32, .inl (fun _ => 0))), (q15, .inl (cyI, 32, .inl (fun _ => 0))), (q16, .inl (cyI, 160, .inl (fun _ => 0))), (q17, .inl (cyI, 160, .inl (fun _ => 0))), (q18, .inl (cyJ, 160, .inr (.inl (fun _ => 0)))), (q19, .inl (cyI, 32, .inl (fun _ => 0))), (q20, .inl (cyI, 32, .inl (fun _ => 0))), (q21, .inl (cyZ, 32, .inl (fun _ => 0))), (q22, .inl (cyJ, 606, .inr (.inl (fun _ => 0)))), (q23, .inl (cyI, 101, .inl (fun _ => 0))), (q24, .inl (cyI, 101, .inl (fun _ => 0))), (q25, .inl (cyI, 32, .inl (fun _ => 0)))] := by rw [har25, hR]; rfl
  clear hfs25 har25
  refine lv_aload_n hx hb dX7_init_206 rfl (lv_at hl 0 rfl) ?_
  refine lv_bipush (v := nI 32) hx hb dX7_init_207 (by decide) ?_
  refine va_newa (atype := .int) (N' := 32) hx hb (hts (.arrayClass .int) (by decide +kernel)) rfl hK hP hD hS hA (a0 := (32, .inl (fun _ => 0))) (fun _ => rfl) (nI_pos (by omega)) (nI_clamp (by omega)) (Nat.le_of_ble_eq_true rfl) (Nat.le_of_ble_eq_true rfl) (Nat.le_of_ble_eq_true rfl) dX7_init_209 (fun q26 cA H hK2 hP hD hS => ?_)
  have hcA : cA = cyI := ra_eq hK2 (i := 3) (j := 0) (fun _ h => by cases h) rfl rfl
  rw [hcA] at hP hD
  refine W.widen (k := 26) (n := 1826) (Nat.le_of_ble_eq_true rfl) (Nat.le_of_ble_eq_true rfl) ?_
  obtain ⟨ar_26, har26⟩ : ∃ z, z = ar_25 ++ [(q26, .inl (cyI, 32, .inl (fun _ => 0)))] := ⟨_, rfl⟩
  have hP : va_P D vwCl ((h0, .inr (7, fs_25)) :: ar_26) H := by rw [har26]; exact hP
  have hD : va_D A ((h0, .inr (7, fs_25)) :: ar_26) := by rw [har26]; exact hD
  refine va_putF (D := D) (ci := 7) (v := .ref q26) (ty := .array .int) (C := RX7) (T := TX7) (N := 48) hx hb hts hin7 tyX7 tyX7_ok nmX7 hown hK hP hD hS 0 rfl rfl 30 (by decide) f87 (fun _ h9 => h9) rfl hin rfl (by decide +kernel) rfl rfl (by rw [hlen]; decide) dX7_init_211 (fun H locs hP hD hS => ?_)
  obtain ⟨fs_26, hfs26⟩ : ∃ z, z = fs_25.set 30 (.ref q26) := ⟨_, rfl⟩
  have hlen : fs_26.length = 48 := by rw [hfs26, List.length_set]; exact hlen
  have hP : va_P D vwCl ((h0, .inr (7, fs_26)) :: ar_26) H := by rw [hfs26]; exact hP
  have hD : va_D A ((h0, .inr (7, fs_26)) :: ar_26) := by rw [hfs26]; exact hD
  have hE : fs_26 = [.ref q1, .ref q2, .ref q3, .ref q4, .ref q5, .ref q6, .ref q7, .ref q8, .ref q9, .ref q10, .ref q11, .int 0, .int 0, .int 0, .int 0, .ref q12, .ref q13, .ref q14, .ref q15, .ref q16, .ref q17, .ref q18, .ref q19, .ref q20, .ref q21, .int 0, .ref q22, .ref q23, .ref q24, .ref q25, .ref q26, .null, .null, .null, .int 0, .null, .null, .null, .null, .null, .null, .null, .null, .int 0, .null, .null, .null, .int 0] := by rw [hfs26, hE]; rfl
  have hR : ar_26 = [(q1, .inl (cyI, 20, .inl (fun _ => 0))), (q2, .inl (cyI, 16, .inl (fun _ => 0))), (q3, .inl (cyI, 16, .inl (fun _ => 0))), (q4, .inl (cyI, 16, .inl (fun _ => 0))), (q5, .inl (cyI, 16, .inl (fun _ => 0))), (q6, .inl (cyI, 16, .inl (fun _ => 0))), (q7, .inl (cyI, 64, .inl (fun _ => 0))), (q8, .inl (cyI, 64, .inl (fun _ => 0))), (q9, .inl (cyI, 16, .inl (fun _ => 0))), (q10, .inl (cyZ, 3, .inl (fun _ => 0))), (q11, .inl (cyZ, 3, .inl (fun _ => 0))), (q12, .inl (cyZ, 32, .inl (fun _ => 0))), (q13, .inl (cyJ, 32, .inr (.inl (fun _ => 0)))), (q14, .inl (cyI, 32, .inl (fun _ => 0))), (q15, .inl (cyI, 32, .inl (fun _ => 0))), (q16, .inl (cyI, 160, .inl (fun _ => 0))), (q17, .inl (cyI, 160, .inl (fun _ => 0))), (q18, .inl (cyJ, 160, .inr (.inl (fun _ => 0)))), (q19, .inl (cyI, 32, .inl (fun _ => 0))), (q20, .inl (cyI, 32, .inl (fun _ => 0))), (q21, .inl (cyZ, 32, .inl (fun _ => 0))), (q22, .inl (cyJ, 606, .inr (.inl (fun _ => 0)))), (q23, .inl (cyI, 101, .inl (fun _ => 0))), (q24, .inl (cyI, 101, .inl (fun _ => 0))), (q25, .inl (cyI, 32, .inl (fun _ => 0))), (q26, .inl (cyI, 32, .inl (fun _ => 0)))] := by rw [har26, hR]; rfl
  clear hfs26 har26
  refine lv_aload_n hx hb dX7_init_214 rfl (lv_at hl 0 rfl) ?_
  refine lv_bipush (v := nI 32) hx hb dX7_init_215 (by decide) ?_
  refine va_newa (atype := .int) (N' := 32) hx hb (hts (.arrayClass .int) (by decide +kernel)) rfl hK hP hD hS hA (a0 := (32, .inl (fun _ => 0))) (fun _ => rfl) (nI_pos (by omega)) (nI_clamp (by omega)) (Nat.le_of_ble_eq_true rfl) (Nat.le_of_ble_eq_true rfl) (Nat.le_of_ble_eq_true rfl) dX7_init_217 (fun q27 cA H hK2 hP hD hS => ?_)
  have hcA : cA = cyI := ra_eq hK2 (i := 3) (j := 0) (fun _ h => by cases h) rfl rfl
  rw [hcA] at hP hD
  refine W.widen (k := 27) (n := 1858) (Nat.le_of_ble_eq_true rfl) (Nat.le_of_ble_eq_true rfl) ?_
  obtain ⟨ar_27, har27⟩ : ∃ z, z = ar_26 ++ [(q27, .inl (cyI, 32, .inl (fun _ => 0)))] := ⟨_, rfl⟩
  have hP : va_P D vwCl ((h0, .inr (7, fs_26)) :: ar_27) H := by rw [har27]; exact hP
  have hD : va_D A ((h0, .inr (7, fs_26)) :: ar_27) := by rw [har27]; exact hD
  refine va_putF (D := D) (ci := 7) (v := .ref q27) (ty := .array .int) (C := RX7) (T := TX7) (N := 48) hx hb hts hin7 tyX7 tyX7_ok nmX7 hown hK hP hD hS 0 rfl rfl 31 (by decide) f90 (fun _ h9 => h9) rfl hin rfl (by decide +kernel) rfl rfl (by rw [hlen]; decide) dX7_init_219 (fun H locs hP hD hS => ?_)
  obtain ⟨fs_27, hfs27⟩ : ∃ z, z = fs_26.set 31 (.ref q27) := ⟨_, rfl⟩
  have hlen : fs_27.length = 48 := by rw [hfs27, List.length_set]; exact hlen
  have hP : va_P D vwCl ((h0, .inr (7, fs_27)) :: ar_27) H := by rw [hfs27]; exact hP
  have hD : va_D A ((h0, .inr (7, fs_27)) :: ar_27) := by rw [hfs27]; exact hD
  have hE : fs_27 = [.ref q1, .ref q2, .ref q3, .ref q4, .ref q5, .ref q6, .ref q7, .ref q8, .ref q9, .ref q10, .ref q11, .int 0, .int 0, .int 0, .int 0, .ref q12, .ref q13, .ref q14, .ref q15, .ref q16, .ref q17, .ref q18, .ref q19, .ref q20, .ref q21, .int 0, .ref q22, .ref q23, .ref q24, .ref q25, .ref q26, .ref q27, .null, .null, .int 0, .null, .null, .null, .null, .null, .null, .null, .null, .int 0, .null, .null, .null, .int 0] := by rw [hfs27, hE]; rfl
  have hR : ar_27 = [(q1, .inl (cyI, 20, .inl (fun _ => 0))), (q2, .inl (cyI, 16, .inl (fun _ => 0))), (q3, .inl (cyI, 16, .inl (fun _ => 0))), (q4, .inl (cyI, 16, .inl (fun _ => 0))), (q5, .inl (cyI, 16, .inl (fun _ => 0))), (q6, .inl (cyI, 16, .inl (fun _ => 0))), (q7, .inl (cyI, 64, .inl (fun _ => 0))), (q8, .inl (cyI, 64, .inl (fun _ => 0))), (q9, .inl (cyI, 16, .inl (fun _ => 0))), (q10, .inl (cyZ, 3, .inl (fun _ => 0))), (q11, .inl (cyZ, 3, .inl (fun _ => 0))), (q12, .inl (cyZ, 32, .inl (fun _ => 0))), (q13, .inl (cyJ, 32, .inr (.inl (fun _ => 0)))), (q14, .inl (cyI, 32, .inl (fun _ => 0))), (q15, .inl (cyI, 32, .inl (fun _ => 0))), (q16, .inl (cyI, 160, .inl (fun _ => 0))), (q17, .inl (cyI, 160, .inl (fun _ => 0))), (q18, .inl (cyJ, 160, .inr (.inl (fun _ => 0)))), (q19, .inl (cyI, 32, .inl (fun _ => 0))), (q20, .inl (cyI, 32, .inl (fun _ => 0))), (q21, .inl (cyZ, 32, .inl (fun _ => 0))), (q22, .inl (cyJ, 606, .inr (.inl (fun _ => 0)))), (q23, .inl (cyI, 101, .inl (fun _ => 0))), (q24, .inl (cyI, 101, .inl (fun _ => 0))), (q25, .inl (cyI, 32, .inl (fun _ => 0))), (q26, .inl (cyI, 32, .inl (fun _ => 0))), (q27, .inl (cyI, 32, .inl (fun _ => 0)))] := by rw [har27, hR]; rfl
  clear hfs27 har27
  refine lv_aload_n hx hb dX7_init_222 rfl (lv_at hl 0 rfl) ?_
  refine lv_bipush (v := nI 32) hx hb dX7_init_223 (by decide) ?_
  refine va_newa (atype := .int) (N' := 32) hx hb (hts (.arrayClass .int) (by decide +kernel)) rfl hK hP hD hS hA (a0 := (32, .inl (fun _ => 0))) (fun _ => rfl) (nI_pos (by omega)) (nI_clamp (by omega)) (Nat.le_of_ble_eq_true rfl) (Nat.le_of_ble_eq_true rfl) (Nat.le_of_ble_eq_true rfl) dX7_init_225 (fun q28 cA H hK2 hP hD hS => ?_)
  have hcA : cA = cyI := ra_eq hK2 (i := 3) (j := 0) (fun _ h => by cases h) rfl rfl
  rw [hcA] at hP hD
  refine W.widen (k := 28) (n := 1890) (Nat.le_of_ble_eq_true rfl) (Nat.le_of_ble_eq_true rfl) ?_
  obtain ⟨ar_28, har28⟩ : ∃ z, z = ar_27 ++ [(q28, .inl (cyI, 32, .inl (fun _ => 0)))] := ⟨_, rfl⟩
  have hP : va_P D vwCl ((h0, .inr (7, fs_27)) :: ar_28) H := by rw [har28]; exact hP
  have hD : va_D A ((h0, .inr (7, fs_27)) :: ar_28) := by rw [har28]; exact hD
  refine va_putF (D := D) (ci := 7) (v := .ref q28) (ty := .array .int) (C := RX7) (T := TX7) (N := 48) hx hb hts hin7 tyX7 tyX7_ok nmX7 hown hK hP hD hS 0 rfl rfl 32 (by decide) f93 (fun _ h9 => h9) rfl hin rfl (by decide +kernel) rfl rfl (by rw [hlen]; decide) dX7_init_227 (fun H locs hP hD hS => ?_)
  obtain ⟨fs_28, hfs28⟩ : ∃ z, z = fs_27.set 32 (.ref q28) := ⟨_, rfl⟩
  have hlen : fs_28.length = 48 := by rw [hfs28, List.length_set]; exact hlen
  have hP : va_P D vwCl ((h0, .inr (7, fs_28)) :: ar_28) H := by rw [hfs28]; exact hP
  have hD : va_D A ((h0, .inr (7, fs_28)) :: ar_28) := by rw [hfs28]; exact hD
  have hE : fs_28 = [.ref q1, .ref q2, .ref q3, .ref q4, .ref q5, .ref q6, .ref q7, .ref q8, .ref q9, .ref q10, .ref q11, .int 0, .int 0, .int 0, .int 0, .ref q12, .ref q13, .ref q14, .ref q15, .ref q16, .ref q17, .ref q18, .ref q19, .ref q20, .ref q21, .int 0, .ref q22, .ref q23, .ref q24, .ref q25, .ref q26, .ref q27, .ref q28, .null, .int 0, .null, .null, .null, .null, .null, .null, .null, .null, .int 0, .null, .null, .null, .int 0] := by rw [hfs28, hE]; rfl
  have hR : ar_28 = [(q1, .inl (cyI, 20, .inl (fun _ => 0))), (q2, .inl (cyI, 16, .inl (fun _ => 0))), (q3, .inl (cyI, 16, .inl (fun _ => 0))), (q4, .inl (cyI, 16, .inl (fun _ => 0))), (q5, .inl (cyI, 16, .inl (fun _ => 0))), (q6, .inl (cyI, 16, .inl (fun _ => 0))), (q7, .inl (cyI, 64, .inl (fun _ => 0))), (q8, .inl (cyI, 64, .inl (fun _ => 0))), (q9, .inl (cyI, 16, .inl (fun _ => 0))), (q10, .inl (cyZ, 3, .inl (fun _ => 0))), (q11, .inl (cyZ, 3, .inl (fun _ => 0))), (q12, .inl (cyZ, 32, .inl (fun _ => 0))), (q13, .inl (cyJ, 32, .inr (.inl (fun _ => 0)))), (q14, .inl (cyI, 32, .inl (fun _ => 0))), (q15, .inl (cyI, 32, .inl (fun _ => 0))), (q16, .inl (cyI, 160, .inl (fun _ => 0))), (q17, .inl (cyI, 160, .inl (fun _ => 0))), (q18, .inl (cyJ, 160, .inr (.inl (fun _ => 0)))), (q19, .inl (cyI, 32, .inl (fun _ => 0))), (q20, .inl (cyI, 32, .inl (fun _ => 0))), (q21, .inl (cyZ, 32, .inl (fun _ => 0))), (q22, .inl (cyJ, 606, .inr (.inl (fun _ => 0)))), (q23, .inl (cyI, 101, .inl (fun _ => 0))), (q24, .inl (cyI, 101, .inl (fun _ => 0))), (q25, .inl (cyI, 32, .inl (fun _ => 0))), (q26, .inl (cyI, 32, .inl (fun _ => 0))), (q27, .inl (cyI, 32, .inl (fun _ => 0))), (q28, .inl (cyI, 32, .inl (fun _ => 0)))] := by rw [har28, hR]; rfl
  clear hfs28 har28
  refine lv_aload_n hx hb dX7_init_230 rfl (lv_at hl 0 rfl) ?_
  refine lv_iconst (v := nI 4) hx hb dX7_init_231 (by decide) ?_
  refine va_newa (atype := .int) (N' := 4) hx hb (hts (.arrayClass .int) (by decide +kernel)) rfl hK hP hD hS hA (a0 := (4, .inl (fun _ => 0))) (fun _ => rfl) (nI_pos (by omega)) (nI_clamp (by omega)) (Nat.le_of_ble_eq_true rfl) (Nat.le_of_ble_eq_true rfl) (Nat.le_of_ble_eq_true rfl) dX7_init_232 (fun q29 cA H hK2 hP hD hS => ?_)
  have hcA : cA = cyI := ra_eq hK2 (i := 3) (j := 0) (fun _ h => by cases h) rfl rfl
  rw [hcA] at hP hD
  refine W.widen (k := 29) (n := 1894) (Nat.le_of_ble_eq_true rfl) (Nat.le_of_ble_eq_true rfl) ?_
  obtain ⟨ar_29, har29⟩ : ∃ z, z = ar_28 ++ [(q29, .inl (cyI, 4, .inl (fun _ => 0)))] := ⟨_, rfl⟩
  have hP : va_P D vwCl ((h0, .inr (7, fs_28)) :: ar_29) H := by rw [har29]; exact hP
  have hD : va_D A ((h0, .inr (7, fs_28)) :: ar_29) := by rw [har29]; exact hD
  refine va_putF (D := D) (ci := 7) (v := .ref q29) (ty := .array .int) (C := RX7) (T := TX7) (N := 48) hx hb hts hin7 tyX7 tyX7_ok nmX7 hown hK hP hD hS 0 rfl rfl 33 (by decide) f96 (fun _ h9 => h9) rfl hin rfl (by decide +kernel) rfl rfl (by rw [hlen]; decide) dX7_init_234 (fun H locs hP hD hS => ?_)
  obtain ⟨fs_29, hfs29⟩ : ∃ z, z = fs_28.set 33 (.ref q29) := ⟨_, rfl⟩
  have hlen : fs_29.length = 48 := by rw [hfs29, List.length_set]; exact hlen
  have hP : va_P D vwCl ((h0, .inr (7, fs_29)) :: ar_29) H := by rw [hfs29]; exact hP
  have hD : va_D A ((h0, .inr (7, fs_29)) :: ar_29) := by rw [hfs29]; exact hD
  have hE : fs_29 = [.ref q1, .ref q2, .ref q3, .ref q4, .ref q5, .ref q6, .ref q7, .ref q8, .ref q9, .ref q10, .ref q11, .int 0, .int 0, .int 0, .int 0, .ref q12, .ref q13, .ref q14, .ref q15, .ref q16, .ref q17, .ref q18, .ref q19, .ref q20, .ref q21, .int 0, .ref q22, .ref q23, .ref q24, .ref q25, .ref q26, .ref q27, .ref q28, .ref q29, .int 0, .null, .null, .null, .null, .null, .null, .null, .null, .int 0, .null, .null, .null, .int 0] := by rw [hfs29, hE]; rfl
  have hR : ar_29 = [(q1, .inl (cyI, 20, .inl (fun _ => 0))), (q2, .inl (cyI, 16, .inl (fun _ => 0))), (q3, .inl (cyI, 16, .inl (fun _ => 0))), (q4, .inl (cyI, 16, .inl (fun _ => 0))), (q5, .inl (cyI, 16, .inl (fun _ => 0))), (q6, .inl (cyI, 16, .inl (fun _ => 0))), (q7, .inl (cyI, 64, .inl (fun _ => 0))), (q8, .inl (cyI, 64, .inl (fun _ => 0))), (q9, .inl (cyI, 16, .inl (fun _ => 0))), (q10, .inl (cyZ, 3, .inl (fun _ => 0))), (q11, .inl (cyZ, 3, .inl (fun _ => 0))), (q12, .inl (cyZ, 32, .inl (fun _ => 0))), (q13, .inl (cyJ, 32, .inr (.inl (fun _ => 0)))), (q14, .inl (cyI, 32, .inl (fun _ => 0))), (q15, .inl (cyI, 32, .inl (fun _ => 0))), (q16, .inl (cyI, 160, .inl (fun _ => 0))), (q17, .inl (cyI, 160, .inl (fun _ => 0))), (q18, .inl (cyJ, 160, .inr (.inl (fun _ => 0)))), (q19, .inl (cyI, 32, .inl (fun _ => 0))), (q20, .inl (cyI, 32, .inl (fun _ => 0))), (q21, .inl (cyZ, 32, .inl (fun _ => 0))), (q22, .inl (cyJ, 606, .inr (.inl (fun _ => 0)))), (q23, .inl (cyI, 101, .inl (fun _ => 0))), (q24, .inl (cyI, 101, .inl (fun _ => 0))), (q25, .inl (cyI, 32, .inl (fun _ => 0))), (q26, .inl (cyI, 32, .inl (fun _ => 0))), (q27, .inl (cyI, 32, .inl (fun _ => 0))), (q28, .inl (cyI, 32, .inl (fun _ => 0))), (q29, .inl (cyI, 4, .inl (fun _ => 0)))] := by rw [har29, hR]; rfl
  clear hfs29 har29
  refine lv_aload_n hx hb dX7_init_237 rfl (lv_at hl 0 rfl) ?_
  refine lv_bipush (v := nI 40) hx hb dX7_init_238 (by decide) ?_
  refine va_newa (atype := .int) (N' := 40) hx hb (hts (.arrayClass .int) (by decide +kernel)) rfl hK hP hD hS hA (a0 := (40, .inl (fun _ => 0))) (fun _ => rfl) (nI_pos (by omega)) (nI_clamp (by omega)) (Nat.le_of_ble_eq_true rfl) (Nat.le_of_ble_eq_true rfl) (Nat.le_of_ble_eq_true rfl) dX7_init_240 (fun q30 cA H hK2 hP hD hS => ?_)
  have hcA : cA = cyI := ra_eq hK2 (i := 3) (j := 0) (fun _ h => by cases h) rfl rfl
  rw [hcA] at hP hD
  refine W.widen (k := 30) (n := 1934) (Nat.le_of_ble_eq_true rfl) (Nat.le_of_ble_eq_true rfl) ?_
  obtain ⟨ar_30, har30⟩ : ∃ z, z = ar_29 ++ [(q30, .inl (cyI, 40, .inl (fun _ => 0)))] := ⟨_, rfl⟩
  have hP : va_P D vwCl ((h0, .inr (7, fs_29)) :: ar_30) H := by rw [har30]; exact hP
  have hD : va_D A ((h0, .inr (7, fs_29)) :: ar_30) := by rw [har30]; exact hD
  refine va_putF (D := D) (ci := 7) (v := .ref q30) (ty := .array .int) (C := RX7) (T := TX7) (N := 48) hx hb hts hin7 tyX7 tyX7_ok nmX7 hown hK hP hD hS 0 rfl rfl 35 (by decide) f99 (fun _ h9 => h9) rfl hin rfl (by decide +kernel) rfl rfl (by rw [hlen]; decide) dX7_init_242 (fun H locs hP hD hS => ?_)
  obtain ⟨fs_30, hfs30⟩ : ∃ z, z = fs_29.set 35 (.ref q30) := ⟨_, rfl⟩
  have hlen : fs_30.length = 48 := by rw [hfs30, List.length_set]; exact hlen
  have hP : va_P D vwCl ((h0, .inr (7, fs_30)) :: ar_30) H := by rw [hfs30]; exact hP
  have hD : va_D A ((h0, .inr (7, fs_30)) :: ar_30) := by rw [hfs30]; exact hD
  have hE : fs_30 = [.ref q1, .ref q2, .ref q3, .ref q4, .ref q5, .ref q6, .ref q7, .ref q8, .ref q9, .ref q10, .ref q11, .int 0, .int 0, .int 0, .int 0, .ref q12, .ref q13, .ref q14, .ref q15, .ref q16, .ref q17, .ref q18, .ref q19, .ref q20, .ref q21, .int 0, .ref q22, .ref q23, .ref q24, .ref q25, .ref q26, .ref q27, .ref q28, .ref q29, .int 0, .ref q30, .null, .null, .null, .null, .null, .null, .null, .int 0, .null, .null, .null, .int 0] := by rw [hfs30, hE]; rfl
  have hR : ar_30 = [(q1, .inl (cyI, 20, .inl (fun _ => 0))), (q2, .inl (cyI, 16, .inl (fun _ => 0))), (q3, .inl (cyI, 16, .inl (fun _ => 0))), (q4, .inl (cyI, 16, .inl (fun _ => 0))), (q5, .inl (cyI, 16, .inl (fun _ => 0))), (q6, .inl (cyI, 16, .inl (fun _ => 0))), (q7, .inl (cyI, 64, .inl (fun _ => 0))), (q8, .inl (cyI, 64, .inl (fun _ => 0))), (q9, .inl (cyI, 16, .inl (fun _ => 0))), (q10, .inl (cyZ, 3, .inl (fun _ => 0))), (q11, .inl (cyZ, 3, .inl (fun _ => 0))), (q12, .inl (cyZ, 32, .inl (fun _ => 0))), (q13, .inl (cyJ, 32, .inr (.inl (fun _ => 0)))), (q14, .inl (cyI, 32, .inl (fun _ => 0))), (q15, .inl (cyI, 32, .inl (fun _ => 0))), (q16, .inl (cyI, 160, .inl (fun _ => 0))), (q17, .inl (cyI, 160, .inl (fun _ => 0))), (q18, .inl (cyJ, 160, .inr (.inl (fun _ => 0)))), (q19, .inl (cyI, 32, .inl (fun _ => 0))), (q20, .inl (cyI, 32, .inl (fun _ => 0))), (q21, .inl (cyZ, 32, .inl (fun _ => 0))), (q22, .inl (cyJ, 606, .inr (.inl (fun _ => 0)))), (q23, .inl (cyI, 101, .inl (fun _ => 0))), (q24, .inl (cyI, 101, .inl (fun _ => 0))), (q25, .inl (cyI, 32, .inl (fun _ => 0))), (q26, .inl (cyI, 32, .inl (fun _ => 0))), (q27, .inl (cyI, 32, .inl (fun _ => 0))), (q28, .inl (cyI, 32, .inl (fun _ => 0))), (q29, .inl (cyI, 4, .inl (fun _ => 0))), (q30, .inl (cyI, 40, .inl (fun _ => 0)))] := by rw [har30, hR]; rfl
  clear hfs30 har30
  refine lv_aload_n hx hb dX7_init_245 rfl (lv_at hl 0 rfl) ?_
  refine lv_bipush (v := nI 32) hx hb dX7_init_246 (by decide) ?_
  refine va_newa (atype := .boolean) (N' := 32) hx hb (hts (.arrayClass .boolean) (by decide +kernel)) rfl hK hP hD hS hA (a0 := (32, .inl (fun _ => 0))) (fun _ => rfl) (nI_pos (by omega)) (nI_clamp (by omega)) (Nat.le_of_ble_eq_true rfl) (Nat.le_of_ble_eq_true rfl) (Nat.le_of_ble_eq_true rfl) dX7_init_248 (fun q31 cA H hK2 hP hD hS => ?_)
  have hcA : cA = cyZ := ra_eq hK2 (i := 3) (j := 2) (fun _ h => by cases h) rfl rfl
  rw [hcA] at hP hD
  refine W.widen (k := 31) (n := 1966) (Nat.le_of_ble_eq_true rfl) (Nat.le_of_ble_eq_true rfl) ?_
  obtain ⟨ar_31, har31⟩ : ∃ z, z = ar_30 ++ [(q31, .inl (cyZ, 32, .inl (fun _ => 0)))] := ⟨_, rfl⟩
  have hP : va_P D vwCl ((h0, .inr (7, fs_30)) :: ar_31) H := by rw [har31]; exact hP
  have hD : va_D A ((h0, .inr (7, fs_30)) :: ar_31) := by rw [har31]; exact hD
  refine va_putF (D := D) (ci := 7) (v := .ref q31) (ty := .array .boolean) (C := RX7) (T := TX7) (N := 48) hx hb hts hin7 tyX7 tyX7_ok nmX7 hown hK hP hD hS 0 rfl rfl 36 (by decide) f102 (fun _ h9 => h9) rfl hin rfl (by decide +kernel) rfl rfl (by rw [hlen]; decide) dX7_init_250 (fun H locs hP hD hS => ?_)
  obtain ⟨fs_31, hfs31⟩ : ∃ z, z = fs_30.set 36 (.ref q31) := ⟨_, rfl⟩
  have hlen : fs_31.length = 48 := by rw [hfs31, List.length_set]; exact hlen
  have hP : va_P D vwCl ((h0, .inr (7, fs_31)) :: ar_31) H := by rw [hfs31]; exact hP
  have hD : va_D A ((h0, .inr (7, fs_31)) :: ar_31) := by rw [hfs31]; exact hD
  have hE : fs_31 = [.ref q1, .ref q2, .ref q3, .ref q4, .ref q5, .ref q6, .ref q7, .ref q8, .ref q9, .ref q10, .ref q11, .int 0, .int 0, .int 0, .int 0, .ref q12, .ref q13, .ref q14, .ref q15, .ref q16, .ref q17, .ref q18, .ref q19, .ref q20, .ref q21, .int 0, .ref q22, .ref q23, .ref q24, .ref q25, .ref q26, .ref q27, .ref q28, .ref q29, .int 0, .ref q30, .ref q31, .null, .null, .null, .null, .null, .null, .int 0, .null, .null, .null, .int 0] := by rw [hfs31, hE]; rfl
  have hR : ar_31 = [(q1, .inl (cyI, 20, .inl (fun _ => 0))), (q2, .inl (cyI, 16, .inl (fun _ => 0))), (q3, .inl (cyI, 16, .inl (fun _ => 0))), (q4, .inl (cyI, 16, .inl (fun _ => 0))), (q5, .inl (cyI, 16, .inl (fun _ => 0))), (q6, .inl (cyI, 16, .inl (fun _ => 0))), (q7, .inl (cyI, 64, .inl (fun _ => 0))), (q8, .inl (cyI, 64, .inl (fun _ => 0))), (q9, .inl (cyI, 16, .inl (fun _ => 0))), (q10, .inl (cyZ, 3, .inl (fun _ => 0))), (q11, .inl (cyZ, 3, .inl (fun _ => 0))), (q12, .inl (cyZ, 32, .inl (fun _ => 0))), (q13, .inl (cyJ, 32, .inr (.inl (fun _ => 0)))), (q14, .inl (cyI, 32, .inl (fun _ => 0))), (q15, .inl (cyI, 32, .inl (fun _ => 0))), (q16, .inl (cyI, 160, .inl (fun _ => 0))), (q17, .inl (cyI, 160, .inl (fun _ => 0))), (q18, .inl (cyJ, 160, .inr (.inl (fun _ => 0)))), (q19, .inl (cyI, 32, .inl (fun _ => 0))), (q20, .inl (cyI, 32, .inl (fun _ => 0))), (q21, .inl (cyZ, 32, .inl (fun _ => 0))), (q22, .inl (cyJ, 606, .inr (.inl (fun _ => 0)))), (q23, .inl (cyI, 101, .inl (fun _ => 0))), (q24, .inl (cyI, 101, .inl (fun _ => 0))), (q25, .inl (cyI, 32, .inl (fun _ => 0))), (q26, .inl (cyI, 32, .inl (fun _ => 0))), (q27, .inl (cyI, 32, .inl (fun _ => 0))), (q28, .inl (cyI, 32, .inl (fun _ => 0))), (q29, .inl (cyI, 4, .inl (fun _ => 0))), (q30, .inl (cyI, 40, .inl (fun _ => 0))), (q31, .inl (cyZ, 32, .inl (fun _ => 0)))] := by rw [har31, hR]; rfl
  clear hfs31 har31
  refine lv_aload_n hx hb dX7_init_253 rfl (lv_at hl 0 rfl) ?_
  refine lv_bipush (v := nI 32) hx hb dX7_init_254 (by decide) ?_
  refine va_newa (atype := .int) (N' := 32) hx hb (hts (.arrayClass .int) (by decide +kernel)) rfl hK hP hD hS hA (a0 := (32, .inl (fun _ => 0))) (fun _ => rfl) (nI_pos (by omega)) (nI_clamp (by omega)) (Nat.le_of_ble_eq_true rfl) (Nat.le_of_ble_eq_true rfl) (Nat.le_of_ble_eq_true rfl) dX7_init_256 (fun q32 cA H hK2 hP hD hS => ?_)
  have hcA : cA = cyI := ra_eq hK2 (i := 3) (j := 0) (fun _ h => by cases h) rfl rfl
  rw [hcA] at hP hD
  refine W.widen (k := 32) (n := 1998) (Nat.le_of_ble_eq_true rfl) (Nat.le_of_ble_eq_true rfl) ?_
  obtain ⟨ar_32, har32⟩ : ∃ z, z = ar_31 ++ [(q32, .inl (cyI, 32, .inl (fun _ => 0)))] := ⟨_, rfl⟩
  have hP : va_P D vwCl ((h0, .inr (7, fs_31)) :: ar_32) H := by rw [har32]; exact hP
  have hD : va_D A ((h0, .inr (7, fs_31)) :: ar_32) := by rw [har32]; exact hD
  refine va_putF (D := D) (ci := 7) (v := .ref q32) (ty := .array .int) (C := RX7) (T := TX7) (N := 48) hx hb hts hin7 tyX7 tyX7_ok nmX7 hown hK hP hD hS 0 rfl rfl 37 (by decide) f105 (fun _ h9 => h9) rfl hin rfl (by decide +kernel) rfl rfl (by rw [hlen]; decide) dX7_init_258 (fun H locs hP hD hS => ?_)
  obtain ⟨fs_32, hfs32⟩ : ∃ z, z = fs_31.set 37 (.ref q32) := ⟨_, rfl⟩
  have hlen : fs_32.length = 48 := by rw [hfs32, List.length_set]; exact hlen
  have hP : va_P D vwCl ((h0, .inr (7, fs_32)) :: ar_32) H := by rw [hfs32]; exact hP
  have hD : va_D A ((h0, .inr (7, fs_32)) :: ar_32) := by rw [hfs32]; exact hD
  have hE : fs_32 = [.ref q1, .ref q2, .ref q3, .ref q4, .ref q5, .ref q6, .ref q7, .ref q8, .ref q9, .ref q10, .ref q11, .int 0, .int 0, .int 0, .int 0, .ref q12, .ref q13, .ref q14, .ref q15, .ref q16, .ref q17, .ref q18, .ref q19, .ref q20, .ref q21, .int 0, .ref q22, .ref q23, .ref q24, .ref q25, .ref q26, .ref q27, .ref q28, .ref q29, .int 0, .ref q30, .ref q31, .ref q32, .null, .null, .null, .null, .null, .int 0, .null, .null, .null, .int 0] := by rw [hfs32, hE]; rfl
  have hR : ar_32 = [(q1, .inl (cyI, 20, .inl (fun _ => 0))), (q2, .inl (cyI, 16, .inl (fun _ => 0))), (q3, .inl (cyI, 16, .inl (fun _ => 0))), (q4, .inl (cyI, 16, .inl (fun _ => 0))), (q5, .inl (cyI, 16, .inl (fun _ => 0))), (q6, .inl (cyI, 16, .inl (fun _ => 0))), (q7, .inl (cyI, 64, .inl (fun _ => 0))), (q8, .inl (cyI, 64, .inl (fun _ => 0))), (q9, .inl (cyI, 16, .inl (fun _ => 0))), (q10, .inl (cyZ, 3, .inl (fun _ => 0))), (q11, .inl (cyZ, 3, .inl (fun _ => 0))), (q12, .inl (cyZ, 32, .inl (fun _ => 0))), (q13, .inl (cyJ, 32, .inr (.inl (fun _ => 0)))), (q14, .inl (cyI, 32, .inl (fun _ => 0))), (q15, .inl (cyI, 32, .inl (fun _ => 0))), (q16, .inl (cyI, 160, .inl (fun _ => 0))), (q17, .inl (cyI, 160, .inl (fun _ => 0))), (q18, .inl (cyJ, 160, .inr (.inl (fun _ => 0)))), (q19, .inl (cyI, 32, .inl (fun _ => 0))), (q20, .inl (cyI, 32, .inl (fun _ => 0))), (q21, .inl (cyZ, 32, .inl (fun _ => 0))), (q22, .inl (cyJ, 606, .inr (.inl (fun _ => 0)))), (q23, .inl (cyI, 101, .inl (fun _ => 0))), (q24, .inl (cyI, 101, .inl (fun _ => 0))), (q25, .inl (cyI, 32, .inl (fun _ => 0))), (q26, .inl (cyI, 32, .inl (fun _ => 0))), (q27, .inl (cyI, 32, .inl (fun _ => 0))), (q28, .inl (cyI, 32, .inl (fun _ => 0))), (q29, .inl (cyI, 4, .inl (fun _ => 0))), (q30, .inl (cyI, 40, .inl (fun _ => 0))), (q31, .inl (cyZ, 32, .inl (fun _ => 0))), (q32, .inl (cyI, 32, .inl (fun _ => 0)))] := by rw [har32, hR]; rfl
  clear hfs32 har32
  refine lv_aload_n hx hb dX7_init_261 rfl (lv_at hl 0 rfl) ?_
  refine lv_bipush (v := nI 32) hx hb dX7_init_262 (by decide) ?_
  refine va_newa (atype := .int) (N' := 32) hx hb (hts (.arrayClass .int) (by decide +kernel)) rfl hK hP hD hS hA (a0 := (32, .inl (fun _ => 0))) (fun _ => rfl) (nI_pos (by omega)) (nI_clamp (by omega)) (Nat.le_of_ble_eq_true rfl) (Nat.le_of_ble_eq_true rfl) (Nat.le_of_ble_eq_true rfl) dX7_init_264 (fun q33 cA H hK2 hP hD hS => ?_)
  have hcA : cA = cyI := ra_eq hK2 (i := 3) (j := 0) (fun _ h => by cases h) rfl rfl
  rw [hcA] at hP hD
  refine W.widen (k := 33) (n := 2030) (Nat.le_of_ble_eq_true rfl) (Nat.le_of_ble_eq_true rfl) ?_
  obtain ⟨ar_33, har33⟩ : ∃ z, z = ar_32 ++ [(q33, .inl (cyI, 32, .inl (fun _ => 0)))] := ⟨_, rfl⟩
  have hP : va_P D vwCl ((h0, .inr (7, fs_32)) :: ar_33) H := by rw [har33]; exact hP
  have hD : va_D A ((h0, .inr (7, fs_32)) :: ar_33) := by rw [har33]; exact hD
  refine va_putF (D := D) (ci := 7) (v := .ref q33) (ty := .array .int) (C := RX7) (T := TX7) (N := 48) hx hb hts hin7 tyX7 tyX7_ok nmX7 hown hK hP hD hS 0 rfl rfl 38 (by decide) f108 (fun _ h9 => h9) rfl hin rfl (by decide +kernel) rfl rfl (by rw [hlen]; decide) dX7_init_266 (fun H locs hP hD hS => ?_)
  obtain ⟨fs_33, hfs33⟩ : ∃ z, z = fs_32.set 38 (.ref q33) := ⟨_, rfl⟩
  have hlen : fs_33.length = 48 := by rw [hfs33, List.length_set]; exact hlen
  have hP : va_P D vwCl ((h0, .inr (7, fs_33)) :: ar_33) H := by rw [hfs33]; exact hP
  have hD : va_D A ((h0, .inr (7, fs_33)) :: ar_33) := by rw [hfs33]; exact hD
  have hE : fs_33 = [.ref q1, .ref q2, .ref q3, .ref q4, .ref q5, .ref q6, .ref q7, .ref q8, .ref q9, .ref q10, .ref q11, .int 0, .int 0, .int 0, .int 0, .ref q12, .ref q13, .ref q14, .ref q15, .ref q16, .ref q17, .ref q18, .ref q19, .ref q20, .ref q21, .int 0, .ref q22, .ref q23, .ref q24, .ref q25, .ref q26, .ref q27, .ref q28, .ref q29, .int 0, .ref q30, .ref q31, .ref q32, .ref q33, .null, .null, .null, .null, .int 0, .null, .null, .null, .int 0] := by rw [hfs33, hE]; rfl
  have hR : ar_33 = [(q1, .inl (cyI, 20, .inl (fun _ => 0))), (q2, .inl (cyI, 16, .inl (fun _ => 0))), (q3, .inl (cyI, 16, .inl (fun _ => 0))), (q4, .inl (cyI, 16, .inl (fun _ => 0))), (q5, .inl (cyI, 16, .inl (fun _ => 0))), (q6, .inl (cyI, 16, .inl (fun _ => 0))), (q7, .inl (cyI, 64, .inl (fun _ => 0))), (q8, .inl (cyI, 64, .inl (fun _ => 0))), (q9, .inl (cyI, 16, .inl (fun _ => 0))), (q10, .inl (cyZ, 3, .inl (fun _ => 0))), (q11, .inl (cyZ, 3, .inl (fun _ => 0))), (q12, .inl (cyZ, 32, .inl (fun _ => 0))), (q13, .inl (cyJ, 32, .inr (.inl (fun _ => 0)))), (q14, .inl (cyI, 32, .inl (fun _ => 0))), (q15, .inl (cyI, 32, .inl (fun _ => 0))), (q16, .inl (cyI, 160, .inl (fun _ => 0))), (q17, .inl (cyI, 160, .inl (fun _ => 0))), (q18, .inl (cyJ, 160, .inr (.inl (fun _ => 0)))), (q19, .inl (cyI, 32, .inl (fun _ => 0))), (q20, .inl (cyI, 32, .inl (fun _ => 0))), (q21, .inl (cyZ, 32, .inl (fun _ => 0))), (q22, .inl (cyJ, 606, .inr (.inl (fun _ => 0)))), (q23, .inl (cyI, 101, .inl (fun _ => 0))), (q24, .inl (cyI, 101, .inl (fun _ => 0))), (q25, .inl (cyI, 32, .inl (fun _ => 0))), (q26, .inl (cyI, 32, .inl (fun _ => 0))), (q27, .inl (cyI, 32, .inl (fun _ => 0))), (q28, .inl (cyI, 32, .inl (fun _ => 0))), (q29, .inl (cyI, 4, .inl (fun _ => 0))), (q30, .inl (cyI, 40, .inl (fun _ => 0))), (q31, .inl (cyZ, 32, .inl (fun _ => 0))), (q32, .inl (cyI, 32, .inl (fun _ => 0))), (q33, .inl (cyI, 32, .inl (fun _ => 0)))] := by rw [har33, hR]; rfl
  clear hfs33 har33
  refine lv_aload_n hx hb dX7_init_269 rfl (lv_at hl 0 rfl) ?_
  refine lv_sipush (v := nI 160) hx hb dX7_init_270 (by decide) ?_
  refine va_newa (atype := .int) (N' := 160) hx hb (hts (.arrayClass .int) (by decide +kernel)) rfl hK hP hD hS hA (a0 := (160, .inl (fun _ => 0))) (fun _ => rfl) (nI_pos (by omega)) (nI_clamp (by omega)) (Nat.le_of_ble_eq_true rfl) (Nat.le_of_ble_eq_true rfl) (Nat.le_of_ble_eq_true rfl) dX7_init_273 (fun q34 cA H hK2 hP hD hS => ?_)
  have hcA : cA = cyI := ra_eq hK2 (i := 3) (j := 0) (fun _ h => by cases h) rfl rfl
  rw [hcA] at hP hD
  refine W.widen (k := 34) (n := 2190) (Nat.le_of_ble_eq_true rfl) (Nat.le_of_ble_eq_true rfl) ?_
  obtain ⟨ar_34, har34⟩ : ∃ z, z = ar_33 ++ [(q34, .inl (cyI, 160, .inl (fun _ => 0)))] := ⟨_, rfl⟩
  have hP : va_P D vwCl ((h0, .inr (7, fs_33)) :: ar_34) H := by rw [har34]; exact hP
  have hD : va_D A ((h0, .inr (7, fs_33)) :: ar_34) := by rw [har34]; exact hD
  refine va_putF (D := D) (ci := 7) (v := .ref q34) (ty := .array .int) (C := RX7) (T := TX7) (N := 48) hx hb hts hin7 tyX7 tyX7_ok nmX7 hown hK hP hD hS 0 rfl rfl 39 (by decide) f111 (fun _ h9 => h9) rfl hin rfl (by decide +kernel) rfl rfl (by rw [hlen]; decide) dX7_init_275 (fun H locs hP hD hS => ?_)
  obtain ⟨fs_34, hfs34⟩ : ∃ z, z = fs_33.set 39 (.ref q34) := ⟨_, rfl⟩
  have hlen : fs_34.length = 48 := by rw [hfs34, List.length_set]; exact hlen
  have hP : va_P D vwCl ((h0, .inr (7, fs_34)) :: ar_34) H := by rw [hfs34]; exact hP
  have hD : va_D A ((h0, .inr (7, fs_34)) :: ar_34) := by rw [hfs34]; exact hD
  have hE : fs_34 = [.ref q1, .ref q2, .ref q3, .ref q4, .ref q5, .ref q6, .ref q7, .ref q8, .ref q9, .ref q10, .ref q11, .int 0, .int 0, .int 0, .int 0, .ref q12, .ref q13, .ref q14, .ref q15, .ref q16, .ref q17, .ref q18, .ref q19, .ref q20, .ref q21, .int 0, .ref q22, .ref q23, .ref q24, .ref q25, .ref q26, .ref q27, .ref q28, .ref q29, .int 0, .ref q30, .ref q31, .ref q32, .ref q33, .ref q34, .null, .null, .null, .int 0, .null, .null, .null, .int 0] := by rw [hfs34, hE]; rfl
  have hR : ar_34 = [(q1, .inl (cyI, 20, .inl (fun _ => 0))), (q2, .inl (cyI, 16, .inl (fun _ => 0))), (q3, .inl (cyI, 16, .inl (fun _ => 0))), (q4, .inl (cyI, 16, .inl (fun _ => 0))), (q5, .inl (cyI, 16, .inl (fun _ => 0))), (q6, .inl (cyI, 16, .inl (fun _ => 0))), (q7, .inl (cyI, 64, .inl (fun _ => 0))), (q8, .inl (cyI, 64, .inl (fun _ => 0))), (q9, .inl (cyI, 16, .inl (fun _ => 0))), (q10, .inl (cyZ, 3, .inl (fun _ => 0))), (q11, .inl (cyZ, 3, .inl (fun _ => 0))), (q12, .inl (cyZ, 32, .inl (fun _ => 0))), (q13, .inl (cyJ, 32, .inr (.inl (fun _ => 0)))), (q14, .inl (cyI, 32, .inl (fun _ => 0))), (q15, .inl (cyI, 32, .inl (fun _ => 0))), (q16, .inl (cyI, 160, .inl (fun _ => 0))), (q17, .inl (cyI, 160, .inl (fun _ => 0))), (q18, .inl (cyJ, 160, .inr (.inl (fun _ => 0)))), (q19, .inl (cyI, 32, .inl (fun _ => 0))), (q20, .inl (cyI, 32, .inl (fun _ => 0))), (q21, .inl (cyZ, 32, .inl (fun _ => 0))), (q22, .inl (cyJ, 606, .inr (.inl (fun _ => 0)))), (q23, .inl (cyI, 101, .inl (fun _ => 0))), (q24, .inl (cyI, 101, .inl (fun _ => 0))), (q25, .inl (cyI, 32, .inl (fun _ => 0))), (q26, .inl (cyI, 32, .inl (fun _ => 0))), (q27, .inl (cyI, 32, .inl (fun _ => 0))), (q28, .inl (cyI, 32, .inl (fun _ => 0))), (q29, .inl (cyI, 4, .inl (fun _ => 0))), (q30, .inl (cyI, 40, .inl (fun _ => 0))), (q31, .inl (cyZ, 32, .inl (fun _ => 0))), (q32, .inl (cyI, 32, .inl (fun _ => 0))), (q33, .inl (cyI, 32, .inl (fun _ => 0))), (q34, .inl (cyI, 160, .inl (fun _ => 0)))] := by rw [har34, hR]; rfl
  clear hfs34 har34
  refine lv_aload_n hx hb dX7_init_278 rfl (lv_at hl 0 rfl) ?_
  refine lv_sipush (v := nI 160) hx hb dX7_init_279 (by decide) ?_
  refine va_newa (atype := .int) (N' := 160) hx hb (hts (.arrayClass .int) (by decide +kernel)) rfl hK hP hD hS hA (a0 := (160, .inl (fun _ => 0))) (fun _ => rfl) (nI_pos (by omega)) (nI_clamp (by omega)) (Nat.le_of_ble_eq_true rfl) (Nat.le_of_ble_eq_true rfl) (Nat.le_of_ble_eq_true rfl) dX7_init_282 (fun q35 cA H hK2 hP hD hS => ?_)
  have hcA : cA = cyI := ra_eq hK2 (i := 3) (j := 0) (fun _ h => by cases h) rfl rfl
  rw [hcA] at hP hD
  refine W.widen (k := 35) (n := 2350) (Nat.le_of_ble_eq_true rfl) (Nat.le_of_ble_eq_true rfl) ?_
  obtain ⟨ar_35, har35⟩ : ∃ z, z = ar_34 ++ [(q35, .inl (cyI, 160, .inl (fun _ => 0)))] := ⟨_, rfl⟩
  have hP : va_P D vwCl ((h0, .inr (7, fs_34)) :: ar_35) H := by rw [har35]; exact hP
  have hD : va_D A ((h0, .inr (7, fs_34)) :: ar_35) := by rw [har35]; exact hD
  refine va_putF (D := D) (ci := 7) (v := .ref q35) (ty := .array .int) (C := RX7) (T := TX7) (N := 48) hx hb hts hin7 tyX7 tyX7_ok nmX7 hown hK hP hD hS 0 rfl rfl 40 (by decide) f114 (fun _ h9 => h9) rfl hin rfl (by decide +kernel) rfl rfl (by rw [hlen]; decide) dX7_init_284 (fun H locs hP hD hS => ?_)
  obtain ⟨fs_35, hfs35⟩ : ∃ z, z = fs_34.set 40 (.ref q35) := ⟨_, rfl⟩
  have hlen : fs_35.length = 48 := by rw [hfs35, List.length_set]; exact hlen
  have hP : va_P D vwCl ((h0, .inr (7, fs_35)) :: ar_35) H := by rw [hfs35]; exact hP
  have hD : va_D A ((h0, .inr (7, fs_35)) :: ar_35) := by rw [hfs35]; exact hD
  have hE : fs_35 = [.ref q1, .ref q2, .ref q3, .ref q4, .ref q5, .ref q6, .ref q7, .ref q8, .ref q9, .ref q10, .ref q11, .int 0, .int 0, .int 0, .int 0, .ref q12, .ref q13, .ref q14, .ref q15, .ref q16, .ref q17, .ref q18, .ref q19, .ref q20, .ref q21, .int 0, .ref q22, .ref q23, .ref q24, .ref q25, .ref q26, .ref q27, .ref q28, .ref q29, .int 0, .ref q30, .ref q31, .ref q32, .ref q33, .ref q34, .ref q35, .null, .null, .int 0, .null, .null, .null, .int 0] := by rw [hfs35, hE]; rfl
  have hR : ar_35 = [(q1, .inl (cyI, 20, .inl (fun _ => 0))), (q2, .inl (cyI, 16, .inl (fun _ => 0))), (q3, .inl (cyI, 16, .inl (fun _ => 0))), (q4, .inl (cyI, 16, .inl (fun _ => 0))), (q5, .inl (cyI, 16, .inl (fun _ => 0))), (q6, .inl (cyI, 16, .inl (fun _ => 0))), (q7, .inl (cyI, 64, .inl (fun _ => 0))), (q8, .inl (cyI, 64, .inl (fun _ => 0))), (q9, .inl (cyI, 16, .inl (fun _ => 0))), (q10, .inl (cyZ, 3, .inl (fun _ => 0))), (q11, .inl (cyZ, 3, .inl (fun _ => 0))), (q12, .inl (cyZ, 32, .inl (fun _ => 0))), (q13, .inl (cyJ, 32, .inr (.inl (fun _ => 0)))), (q14, .inl (cyI, 32, .inl (fun _ => 0))), (q15, .inl (cyI, 32, .inl (fun _ => 0))), (q16, .inl (cyI, 160, .inl (fun _ => 0))), (q17, .inl (cyI, 160, .inl (fun _ => 0))), (q18, .inl (cyJ, 160, .inr (.inl (fun _ => 0)))), (q19, .inl (cyI, 32, .inl (fun _ => 0))), (q20, .inl (cyI, 32, .inl (fun _ => 0))), (q21, .inl (cyZ, 32, .inl (fun _ => 0))), (q22, .inl (cyJ, 606, .inr (.inl (fun _ => 0)))), (q23, .inl (cyI, 101, .inl (fun _ => 0))), (q24, .inl (cyI, 101, .inl (fun _ => 0))), (q25, .inl (cyI, 32, .inl (fun _ => 0))), (q26, .inl (cyI, 32, .inl (fun _ => 0))), (q27, .inl (cyI, 32, .inl (fun _ => 0))), (q28, .inl (cyI, 32, .inl (fun _ => 0))), (q29, .inl (cyI, 4, .inl (fun _ => 0))), (q30, .inl (cyI, 40, .inl (fun _ => 0))), (q31, .inl (cyZ, 32, .inl (fun _ => 0))), (q32, .inl (cyI, 32, .inl (fun _ => 0))), (q33, .inl (cyI, 32, .inl (fun _ => 0))), (q34, .inl (cyI, 160, .inl (fun _ => 0))), (q35, .inl (cyI, 160, .inl (fun _ => 0)))] := by rw [har35, hR]; rfl
  clear hfs35 har35
  refine lv_aload_n hx hb dX7_init_287 rfl (lv_at hl 0 rfl) ?_
  refine lv_sipush (v := nI 160) hx hb dX7_init_288 (by decide) ?_
  refine va_newa (atype := .long) (N' := 160) hx hb (hts (.arrayClass .long) (by decide +kernel)) rfl hK hP hD hS hA (a0 := (160, .inr (.inl (fun _ => 0)))) (fun _ => rfl) (nI_pos (by omega)) (nI_clamp (by omega)) (Nat.le_of_ble_eq_true rfl) (Nat.le_of_ble_eq_true rfl) (Nat.le_of_ble_eq_true rfl) dX7_init_291 (fun q36 cA H hK2 hP hD hS => ?_)
  have hcA : cA = cyJ := ra_eq hK2 (i := 3) (j := 1) (fun _ h => by cases h) rfl rfl
  rw [hcA] at hP hD
  refine W.widen (k := 36) (n := 2510) (Nat.le_of_ble_eq_true rfl) (Nat.le_of_ble_eq_true rfl) ?_
  obtain ⟨ar_36, har36⟩ : ∃ z, z = ar_35 ++ [(q36, .inl (cyJ, 160, .inr (.inl (fun _ => 0))))] := ⟨_, rfl⟩
  have hP : va_P D vwCl ((h0, .inr (7, fs_35)) :: ar_36) H := by rw [har36]; exact hP
  have hD : va_D A ((h0, .inr (7, fs_35)) :: ar_36) := by rw [har36]; exact hD
  refine va_putF (D := D) (ci := 7) (v := .ref q36) (ty := .array .long) (C := RX7) (T := TX7) (N := 48) hx hb hts hin7 tyX7 tyX7_ok nmX7 hown hK hP hD hS 0 rfl rfl 41 (by decide) f117 (fun _ h9 => h9) rfl hin rfl (by decide +kernel) rfl rfl (by rw [hlen]; decide) dX7_init_293 (fun H locs hP hD hS => ?_)
  obtain ⟨fs_36, hfs36⟩ : ∃ z, z = fs_35.set 41 (.ref q36) := ⟨_, rfl⟩
  have hlen : fs_36.length = 48 := by rw [hfs36, List.length_set]; exact hlen
  have hP : va_P D vwCl ((h0, .inr (7, fs_36)) :: ar_36) H := by rw [hfs36]; exact hP
  have hD : va_D A ((h0, .inr (7, fs_36)) :: ar_36) := by rw [hfs36]; exact hD
  have hE : fs_36 = [.ref q1, .ref q2, .ref q3, .ref q4, .ref q5, .ref q6, .ref q7, .ref q8, .ref q9, .ref q10, .ref q11, .int 0, .int 0, .int 0, .int 0, .ref q12, .ref q13, .ref q14, .ref q15, .ref q16, .ref q17, .ref q18, .ref q19, .ref q20, .ref q21, .int 0, .ref q22, .ref q23, .ref q24, .ref q25, .ref q26, .ref q27, .ref q28, .ref q29, .int 0, .ref q30, .ref q31, .ref q32, .ref q33, .ref q34, .ref q35, .ref q36, .null, .int 0, .null, .null, .null, .int 0] := by rw [hfs36, hE]; rfl
  have hR : ar_36 = [(q1, .inl (cyI, 20, .inl (fun _ => 0))), (q2, .inl (cyI, 16, .inl (fun _ => 0))), (q3, .inl (cyI, 16, .inl (fun _ => 0))), (q4, .inl (cyI, 16, .inl (fun _ => 0))), (q5, .inl (cyI, 16, .inl (fun _ => 0))), (q6, .inl (cyI, 16, .inl (fun _ => 0))), (q7, .inl (cyI, 64, .inl (fun _ => 0))), (q8, .inl (cyI, 64, .inl (fun _ => 0))), (q9, .inl (cyI, 16, .inl (fun _ => 0))), (q10, .inl (cyZ, 3, .inl (fun _ => 0))), (q11, .inl (cyZ, 3, .inl (fun _ => 0))), (q12, .inl (cyZ, 32, .inl (fun _ => 0))), (q13, .inl (cyJ, 32, .inr (.inl (fun _ => 0)))), (q14, .inl (cyI, 32, .inl (fun _ => 0))), (q15, .inl (cyI, 32, .inl (fun _ => 0))), (q16, .inl (cyI, 160, .inl (fun _ => 0))), (q17, .inl (cyI, 160, .inl (fun _ => 0))), (q18, .inl (cyJ, 160, .inr (.inl (fun _ => 0)))), (q19, .inl (cyI, 32, .inl (fun _ => 0))), (q20, .inl (cyI, 32, .inl (fun _ => 0))), (q21, .inl (cyZ, 32, .inl (fun _ => 0))), (q22, .inl (cyJ, 606, .inr (.inl (fun _ => 0)))), (q23, .inl (cyI, 101, .inl (fun _ => 0))), (q24, .inl (cyI, 101, .inl (fun _ => 0))), (q25, .inl (cyI, 32, .inl (fun _ => 0))), (q26, .inl (cyI, 32, .inl (fun _ => 0))), (q27, .inl (cyI, 32, .inl (fun _ => 0))), (q28, .inl (cyI, 32, .inl (fun _ => 0))), (q29, .inl (cyI, 4, .inl (fun _ => 0))), (q30, .inl (cyI, 40, .inl (fun _ => 0))), (q31, .inl (cyZ, 32, .inl (fun _ => 0))), (q32, .inl (cyI, 32, .inl (fun _ => 0))), (q33, .inl (cyI, 32, .inl (fun _ => 0))), (q34, .inl (cyI, 160, .inl (fun _ => 0))), (q35, .inl (cyI, 160, .inl (fun _ => 0))), (q36, .inl (cyJ, 160, .inr (.inl (fun _ => 0))))] := by rw [har36, hR]; rfl
  clear hfs36 har36
  refine lv_aload_n hx hb dX7_init_296 rfl (lv_at hl 0 rfl) ?_
  refine lv_bipush (v := nI 6) hx hb dX7_init_297 (by decide) ?_
  refine va_newa (atype := .long) (N' := 6) hx hb (hts (.arrayClass .long) (by decide +kernel)) rfl hK hP hD hS hA (a0 := (6, .inr (.inl (fun _ => 0)))) (fun _ => rfl) (nI_pos (by omega)) (nI_clamp (by omega)) (Nat.le_of_ble_eq_true rfl) (Nat.le_of_ble_eq_true rfl) (Nat.le_of_ble_eq_true rfl) dX7_init_299 (fun q37 cA H hK2 hP hD hS => ?_)
  have hcA : cA = cyJ := ra_eq hK2 (i := 3) (j := 1) (fun _ h => by cases h) rfl rfl
  rw [hcA] at hP hD
  refine W.widen (k := 37) (n := 2516) (Nat.le_of_ble_eq_true rfl) (Nat.le_of_ble_eq_true rfl) ?_
  obtain ⟨ar_37, har37⟩ : ∃ z, z = ar_36 ++ [(q37, .inl (cyJ, 6, .inr (.inl (fun _ => 0))))] := ⟨_, rfl⟩
  have hP : va_P D vwCl ((h0, .inr (7, fs_36)) :: ar_37) H := by rw [har37]; exact hP
  have hD : va_D A ((h0, .inr (7, fs_36)) :: ar_37) := by rw [har37]; exact hD
  refine va_putF (D := D) (ci := 7) (v := .ref q37) (ty := .array .long) (C := RX7) (T := TX7) (N := 48) hx hb hts hin7 tyX7 tyX7_ok nmX7 hown hK hP hD hS 0 rfl rfl 42 (by decide) f120 (fun _ h9 => h9) rfl hin rfl (by decide +kernel) rfl rfl (by rw [hlen]; decide) dX7_init_301 (fun H locs hP hD hS => ?_)
  obtain ⟨fs_37, hfs37⟩ : ∃ z, z = fs_36.set 42 (.ref q37) := ⟨_, rfl⟩
  have hlen : fs_37.length = 48 := by rw [hfs37, List.length_set]; exact hlen
  have hP : va_P D vwCl ((h0, .inr (7, fs_37)) :: ar_37) H := by rw [hfs37]; exact hP
  have hD : va_D A ((h0, .inr (7, fs_37)) :: ar_37) := by rw [hfs37]; exact hD
  have hE : fs_37 = [.ref q1, .ref q2, .ref q3, .ref q4, .ref q5, .ref q6, .ref q7, .ref q8, .ref q9, .ref q10, .ref q11, .int 0, .int 0, .int 0, .int 0, .ref q12, .ref q13, .ref q14, .ref q15, .ref q16, .ref q17, .ref q18, .ref q19, .ref q20, .ref q21, .int 0, .ref q22, .ref q23, .ref q24, .ref q25, .ref q26, .ref q27, .ref q28, .ref q29, .int 0, .ref q30, .ref q31, .ref q32, .ref q33, .ref q34, .ref q35, .ref q36, .ref q37, .int 0, .null, .null, .null, .int 0] := by rw [hfs37, hE]; rfl
  have hR : ar_37 = [(q1, .inl (cyI, 20, .inl (fun _ => 0))), (q2, .inl (cyI, 16, .inl (fun _ => 0))), (q3, .inl (cyI, 16, .inl (fun _ => 0))), (q4, .inl (cyI, 16, .inl (fun _ => 0))), (q5, .inl (cyI, 16, .inl (fun _ => 0))), (q6, .inl (cyI, 16, .inl (fun _ => 0))), (q7, .inl (cyI, 64, .inl (fun _ => 0))), (q8, .inl (cyI, 64, .inl (fun _ => 0))), (q9, .inl (cyI, 16, .inl (fun _ => 0))), (q10, .inl (cyZ, 3, .inl (fun _ => 0))), (q11, .inl (cyZ, 3, .inl (fun _ => 0))), (q12, .inl (cyZ, 32, .inl (fun _ => 0))), (q13, .inl (cyJ, 32, .inr (.inl (fun _ => 0)))), (q14, .inl (cyI, 32, .inl (fun _ => 0))), (q15, .inl (cyI, 32, .inl (fun _ => 0))), (q16, .inl (cyI, 160, .inl (fun _ => 0))), (q17, .inl (cyI, 160, .inl (fun _ => 0))), (q18, .inl (cyJ, 160, .inr (.inl (fun _ => 0)))), (q19, .inl (cyI, 32, .inl (fun _ => 0))), (q20, .inl (cyI, 32, .inl (fun _ => 0))), (q21, .inl (cyZ, 32, .inl (fun _ => 0))), (q22, .inl (cyJ, 606, .inr (.inl (fun _ => 0)))), (q23, .inl (cyI, 101, .inl (fun _ => 0))), (q24, .inl (cyI, 101, .inl (fun _ => 0))), (q25, .inl (cyI, 32, .inl (fun _ => 0))), (q26, .inl (cyI, 32, .inl (fun _ => 0))), (q27, .inl (cyI, 32, .inl (fun _ => 0))), (q28, .inl (cyI, 32, .inl (fun _ => 0))), (q29, .inl (cyI, 4, .inl (fun _ => 0))), (q30, .inl (cyI, 40, .inl (fun _ => 0))), (q31, .inl (cyZ, 32, .inl (fun _ => 0))), (q32, .inl (cyI, 32, .inl (fun _ => 0))), (q33, .inl (cyI, 32, .inl (fun _ => 0))), (q34, .inl (cyI, 160, .inl (fun _ => 0))), (q35, .inl (cyI, 160, .inl (fun _ => 0))), (q36, .inl (cyJ, 160, .inr (.inl (fun _ => 0)))), (q37, .inl (cyJ, 6, .inr (.inl (fun _ => 0))))] := by rw [har37, hR]; rfl
  clear hfs37 har37
  refine lv_aload_n hx hb dX7_init_304 rfl (lv_at hl 0 rfl) ?_
  refine lv_bipush (v := nI 32) hx hb dX7_init_305 (by decide) ?_
  refine va_newa (atype := .int) (N' := 32) hx hb (hts (.arrayClass .int) (by decide +kernel)) rfl hK hP hD hS hA (a0 := (32, .inl (fun _ => 0))) (fun _ => rfl) (nI_pos (by omega)) (nI_clamp (by omega)) (Nat.le_of_ble_eq_true rfl) (Nat.le_of_ble_eq_true rfl) (Nat.le_of_ble_eq_true rfl) dX7_init_307 (fun q38 cA H hK2 hP hD hS => ?_)
  have hcA : cA = cyI := ra_eq hK2 (i := 3) (j := 0) (fun _ h => by cases h) rfl rfl
  rw [hcA] at hP hD
  refine W.widen (k := 38) (n := 2548) (Nat.le_of_ble_eq_true rfl) (Nat.le_of_ble_eq_true rfl) ?_
  obtain ⟨ar_38, har38⟩ : ∃ z, z = ar_37 ++ [(q38, .inl (cyI, 32, .inl (fun _ => 0)))] := ⟨_, rfl⟩
  have hP : va_P D vwCl ((h0, .inr (7, fs_37)) :: ar_38) H := by rw [har38]; exact hP
  have hD : va_D A ((h0, .inr (7, fs_37)) :: ar_38) := by rw [har38]; exact hD
  refine va_putF (D := D) (ci := 7) (v := .ref q38) (ty := .array .int) (C := RX7) (T := TX7) (N := 48) hx hb hts hin7 tyX7 tyX7_ok nmX7 hown hK hP hD hS 0 rfl rfl 44 (by decide) f123 (fun _ h9 => h9) rfl hin rfl (by decide +kernel) rfl rfl (by rw [hlen]; decide) dX7_init_309 (fun H locs hP hD hS => ?_)
  obtain ⟨fs_38, hfs38⟩ : ∃ z, z = fs_37.set 44 (.ref q38) := ⟨_, rfl⟩
  have hlen : fs_38.length = 48 := by rw [hfs38, List.length_set]; exact hlen
  have hP : va_P D vwCl ((h0, .inr (7, fs_38)) :: ar_38) H := by rw [hfs38]; exact hP
  have hD : va_D A ((h0, .inr (7, fs_38)) :: ar_38) := by rw [hfs38]; exact hD
  have hE : fs_38 = [.ref q1, .ref q2, .ref q3, .ref q4, .ref q5, .ref q6, .ref q7, .ref q8, .ref q9, .ref q10, .ref q11, .int 0, .int 0, .int 0, .int 0, .ref q12, .ref q13, .ref q14, .ref q15, .ref q16, .ref q17, .ref q18, .ref q19, .ref q20, .ref q21, .int 0, .ref q22, .ref q23, .ref q24, .ref q25, .ref q26, .ref q27, .ref q28, .ref q29, .int 0, .ref q30, .ref q31, .ref q32, .ref q33, .ref q34, .ref q35, .ref q36, .ref q37, .int 0, .ref q38, .null, .null, .int 0] := by rw [hfs38, hE]; rfl
  have hR : ar_38 = [(q1, .inl (cyI, 20, .inl (fun _ => 0))), (q2, .inl (cyI, 16, .inl (fun _ => 0))), (q3, .inl (cyI, 16, .inl (fun _ => 0))), (q4, .inl (cyI, 16, .inl (fun _ => 0))), (q5, .inl (cyI, 16, .inl (fun _ => 0))), (q6, .inl (cyI, 16, .inl (fun _ => 0))), (q7, .inl (cyI, 64, .inl (fun _ => 0))), (q8, .inl (cyI, 64, .inl (fun _ => 0))), (q9, .inl (cyI, 16, .inl (fun _ => 0))), (q10, .inl (cyZ, 3, .inl (fun _ => 0))), (q11, .inl (cyZ, 3, .inl (fun _ => 0))), (q12, .inl (cyZ, 32, .inl (fun _ => 0))), (q13, .inl (cyJ, 32, .inr (.inl (fun _ => 0)))), (q14, .inl (cyI, 32, .inl (fun _ => 0))), (q15, .inl (cyI, 32, .inl (fun _ => 0))), (q16, .inl (cyI, 160, .inl (fun _ => 0))), (q17, .inl (cyI, 160, .inl (fun _ => 0))), (q18, .inl (cyJ, 160, .inr (.inl (fun _ => 0)))), (q19, .inl (cyI, 32, .inl (fun _ => 0))), (q20, .inl (cyI, 32, .inl (fun _ => 0))), (q21, .inl (cyZ, 32, .inl (fun _ => 0))), (q22, .inl (cyJ, 606, .inr (.inl (fun _ => 0)))), (q23, .inl (cyI, 101, .inl (fun _ => 0))), (q24, .inl (cyI, 101, .inl (fun _ => 0))), (q25, .inl (cyI, 32, .inl (fun _ => 0))), (q26, .inl (cyI, 32, .inl (fun _ => 0))), (q27, .inl (cyI, 32, .inl (fun _ => 0))), (q28, .inl (cyI, 32, .inl (fun _ => 0))), (q29, .inl (cyI, 4, .inl (fun _ => 0))), (q30, .inl (cyI, 40, .inl (fun _ => 0))), (q31, .inl (cyZ, 32, .inl (fun _ => 0))), (q32, .inl (cyI, 32, .inl (fun _ => 0))), (q33, .inl (cyI, 32, .inl (fun _ => 0))), (q34, .inl (cyI, 160, .inl (fun _ => 0))), (q35, .inl (cyI, 160, .inl (fun _ => 0))), (q36, .inl (cyJ, 160, .inr (.inl (fun _ => 0)))), (q37, .inl (cyJ, 6, .inr (.inl (fun _ => 0)))), (q38, .inl (cyI, 32, .inl (fun _ => 0)))] := by rw [har38, hR]; rfl
  clear hfs38 har38
  refine lv_aload_n hx hb dX7_init_312 rfl (lv_at hl 0 rfl) ?_
  refine lv_bipush (v := nI 32) hx hb dX7_init_313 (by decide) ?_
  refine va_newa (atype := .int) (N' := 32) hx hb (hts (.arrayClass .int) (by decide +kernel)) rfl hK hP hD hS hA (a0 := (32, .inl (fun _ => 0))) (fun _ => rfl) (nI_pos (by omega)) (nI_clamp (by omega)) (Nat.le_of_ble_eq_true rfl) (Nat.le_of_ble_eq_true rfl) (Nat.le_of_ble_eq_true rfl) dX7_init_315 (fun q39 cA H hK2 hP hD hS => ?_)
  have hcA : cA = cyI := ra_eq hK2 (i := 3) (j := 0) (fun _ h => by cases h) rfl rfl
  rw [hcA] at hP hD
  refine W.widen (k := 39) (n := 2580) (Nat.le_of_ble_eq_true rfl) (Nat.le_of_ble_eq_true rfl) ?_
  obtain ⟨ar_39, har39⟩ : ∃ z, z = ar_38 ++ [(q39, .inl (cyI, 32, .inl (fun _ => 0)))] := ⟨_, rfl⟩
  have hP : va_P D vwCl ((h0, .inr (7, fs_38)) :: ar_39) H := by rw [har39]; exact hP
  have hD : va_D A ((h0, .inr (7, fs_38)) :: ar_39) := by rw [har39]; exact hD
  refine va_putF (D := D) (ci := 7) (v := .ref q39) (ty := .array .int) (C := RX7) (T := TX7) (N := 48) hx hb hts hin7 tyX7 tyX7_ok nmX7 hown hK hP hD hS 0 rfl rfl 45 (by decide) f126 (fun _ h9 => h9) rfl hin rfl (by decide +kernel) rfl rfl (by rw [hlen]; decide) dX7_init_317 (fun H locs hP hD hS => ?_)
  obtain ⟨fs_39, hfs39⟩ : ∃ z, z = fs_38.set 45 (.ref q39) := ⟨_, rfl⟩
  have hlen : fs_39.length = 48 := by rw [hfs39, List.length_set]; exact hlen
  have hP : va_P D vwCl ((h0, .inr (7, fs_39)) :: ar_39) H := by rw [hfs39]; exact hP
  have hD : va_D A ((h0, .inr (7, fs_39)) :: ar_39) := by rw [hfs39]; exact hD
  have hE : fs_39 = [.ref q1, .ref q2, .ref q3, .ref q4, .ref q5, .ref q6, .ref q7, .ref q8, .ref q9, .ref q10, .ref q11, .int 0, .int 0, .int 0, .int 0, .ref q12, .ref q13, .ref q14, .ref q15, .ref q16, .ref q17, .ref q18, .ref q19, .ref q20, .ref q21, .int 0, .ref q22, .ref q23, .ref q24, .ref q25, .ref q26, .ref q27, .ref q28, .ref q29, .int 0, .ref q30, .ref q31, .ref q32, .ref q33, .ref q34, .ref q35, .ref q36, .ref q37, .int 0, .ref q38, .ref q39, .null, .int 0] := by rw [hfs39, hE]; rfl
  have hR : ar_39 = [(q1, .inl (cyI, 20, .inl (fun _ => 0))), (q2, .inl (cyI, 16, .inl (fun _ => 0))), (q3, .inl (cyI, 16, .inl (fun _ => 0))), (q4, .inl (cyI, 16, .inl (fun _ => 0))), (q5, .inl (cyI, 16, .inl (fun _ => 0))), (q6, .inl (cyI, 16, .inl (fun _ => 0))), (q7, .inl (cyI, 64, .inl (fun _ => 0))), (q8, .inl (cyI, 64, .inl (fun _ => 0))), (q9, .inl (cyI, 16, .inl (fun _ => 0))), (q10, .inl (cyZ, 3, .inl (fun _ => 0))), (q11, .inl (cyZ, 3, .inl (fun _ => 0))), (q12, .inl (cyZ, 32, .inl (fun _ => 0))), (q13, .inl (cyJ, 32, .inr (.inl (fun _ => 0)))), (q14, .inl (cyI, 32, .inl (fun _ => 0))), (q15, .inl (cyI, 32, .inl (fun _ => 0))), (q16, .inl (cyI, 160, .inl (fun _ => 0))), (q17, .inl (cyI, 160, .inl (fun _ => 0))), (q18, .inl (cyJ, 160, .inr (.inl (fun _ => 0)))), (q19, .inl (cyI, 32, .inl (fun _ => 0))), (q20, .inl (cyI, 32, .inl (fun _ => 0))), (q21, .inl (cyZ, 32, .inl (fun _ => 0))), (q22, .inl (cyJ, 606, .inr (.inl (fun _ => 0)))), (q23, .inl (cyI, 101, .inl (fun _ => 0))), (q24, .inl (cyI, 101, .inl (fun _ => 0))), (q25, .inl (cyI, 32, .inl (fun _ => 0))), (q26, .inl (cyI, 32, .inl (fun _ => 0))), (q27, .inl (cyI, 32, .inl (fun _ => 0))), (q28, .inl (cyI, 32, .inl (fun _ => 0))), (q29, .inl (cyI, 4, .inl (fun _ => 0))), (q30, .inl (cyI, 40, .inl (fun _ => 0))), (q31, .inl (cyZ, 32, .inl (fun _ => 0))), (q32, .inl (cyI, 32, .inl (fun _ => 0))), (q33, .inl (cyI, 32, .inl (fun _ => 0))), (q34, .inl (cyI, 160, .inl (fun _ => 0))), (q35, .inl (cyI, 160, .inl (fun _ => 0))), (q36, .inl (cyJ, 160, .inr (.inl (fun _ => 0)))), (q37, .inl (cyJ, 6, .inr (.inl (fun _ => 0)))), (q38, .inl (cyI, 32, .inl (fun _ => 0))), (q39, .inl (cyI, 32, .inl (fun _ => 0)))] := by rw [har39, hR]; rfl
  clear hfs39 har39
  refine lv_aload_n hx hb dX7_init_320 rfl (lv_at hl 0 rfl) ?_
  refine lv_bipush (v := nI 32) hx hb dX7_init_321 (by decide) ?_
  refine va_newa (atype := .int) (N' := 32) hx hb (hts (.arrayClass .int) (by decide +kernel)) rfl hK hP hD hS hA (a0 := (32, .inl (fun _ => 0))) (fun _ => rfl) (nI_pos (by omega)) (nI_clamp (by omega)) (Nat.le_of_ble_eq_true rfl) (Nat.le_of_ble_eq_true rfl) (Nat.le_of_ble_eq_true rfl) dX7_init_323 (fun q40 cA H hK2 hP hD hS => ?_)
  have hcA : cA = cyI := ra_eq hK2 (i := 3) (j := 0) (fun _ h => by cases h) rfl rfl
  rw [hcA] at hP hD
  refine W.widen (k := 40) (n := 2612) (Nat.le_of_ble_eq_true rfl) (Nat.le_of_ble_eq_true rfl) ?_
  obtain ⟨ar_40, har40⟩ : ∃ z, z = ar_39 ++ [(q40, .inl (cyI, 32, .inl (fun _ => 0)))] := ⟨_, rfl⟩
  have hP : va_P D vwCl ((h0, .inr (7, fs_39)) :: ar_40) H := by rw [har40]; exact hP
  have hD : va_D A ((h0, .inr (7, fs_39)) :: ar_40) := by rw [har40]; exact hD
  refine va_putF (D := D) (ci := 7) (v := .ref q40) (ty := .array .int) (C := RX7) (T := TX7) (N := 48) hx hb hts hin7 tyX7 tyX7_ok nmX7 hown hK hP hD hS 0 rfl rfl 46 (by decide) f129 (fun _ h9 => h9) rfl hin rfl (by decide +kernel) rfl rfl (by rw [hlen]; decide) dX7_init_325 (fun H locs hP hD hS => ?_)
  obtain ⟨fs_40, hfs40⟩ : ∃ z, z = fs_39.set 46 (.ref q40) := ⟨_, rfl⟩
  have hlen : fs_40.length = 48 := by rw [hfs40, List.length_set]; exact hlen
  have hP : va_P D vwCl ((h0, .inr (7, fs_40)) :: ar_40) H := by rw [hfs40]; exact hP
  have hD : va_D A ((h0, .inr (7, fs_40)) :: ar_40) := by rw [hfs40]; exact hD
  have hE : fs_40 = [.ref q1, .ref q2, .ref q3, .ref q4, .ref q5, .ref q6, .ref q7, .ref q8, .ref q9, .ref q10, .ref q11, .int 0, .int 0, .int 0, .int 0, .ref q12, .ref q13, .ref q14, .ref q15, .ref q16, .ref q17, .ref q18, .ref q19, .ref q20, .ref q21, .int 0, .ref q22, .ref q23, .ref q24, .ref q25, .ref q26, .ref q27, .ref q28, .ref q29, .int 0, .ref q30, .ref q31, .ref q32, .ref q33, .ref q34, .ref q35, .ref q36, .ref q37, .int 0, .ref q38, .ref q39, .ref q40, .int 0] := by rw [hfs40, hE]; rfl
  have hR : ar_40 = [(q1, .inl (cyI, 20, .inl (fun _ => 0))), (q2, .inl (cyI, 16, .inl (fun _ => 0))), (q3, .inl (cyI, 16, .inl (fun _ => 0))), (q4, .inl (cyI, 16, .inl (fun _ => 0))), (q5, .inl (cyI, 16, .inl (fun _ => 0))), (q6, .inl (cyI, 16, .inl (fun _ => 0))), (q7, .inl (cyI, 64, .inl (fun _ => 0))), (q8, .inl (cyI, 64, .inl (fun _ => 0))), (q9, .inl (cyI, 16, .inl (fun _ => 0))), (q10, .inl (cyZ, 3, .inl (fun _ => 0))), (q11, .inl (cyZ, 3, .inl (fun _ => 0))), (q12, .inl (cyZ, 32, .inl (fun _ => 0))), (q13, .inl (cyJ, 32, .inr (.inl (fun _ => 0)))), (q14, .inl (cyI, 32, .inl (fun _ => 0))), (q15, .inl (cyI, 32, .inl (fun _ => 0))), (q16, .inl (cyI, 160, .inl (fun _ => 0))), (q17, .inl (cyI, 160, .inl (fun _ => 0))), (q18, .inl (cyJ, 160, .inr (.inl (fun _ => 0)))), (q19, .inl (cyI, 32, .inl (fun _ => 0))), (q20, .inl (cyI, 32, .inl (fun _ => 0))), (q21, .inl (cyZ, 32, .inl (fun _ => 0))), (q22, .inl (cyJ, 606, .inr (.inl (fun _ => 0)))), (q23, .inl (cyI, 101, .inl (fun _ => 0))), (q24, .inl (cyI, 101, .inl (fun _ => 0))), (q25, .inl (cyI, 32, .inl (fun _ => 0))), (q26, .inl (cyI, 32, .inl (fun _ => 0))), (q27, .inl (cyI, 32, .inl (fun _ => 0))), (q28, .inl (cyI, 32, .inl (fun _ => 0))), (q29, .inl (cyI, 4, .inl (fun _ => 0))), (q30, .inl (cyI, 40, .inl (fun _ => 0))), (q31, .inl (cyZ, 32, .inl (fun _ => 0))), (q32, .inl (cyI, 32, .inl (fun _ => 0))), (q33, .inl (cyI, 32, .inl (fun _ => 0))), (q34, .inl (cyI, 160, .inl (fun _ => 0))), (q35, .inl (cyI, 160, .inl (fun _ => 0))), (q36, .inl (cyJ, 160, .inr (.inl (fun _ => 0)))), (q37, .inl (cyJ, 6, .inr (.inl (fun _ => 0)))), (q38, .inl (cyI, 32, .inl (fun _ => 0))), (q39, .inl (cyI, 32, .inl (fun _ => 0))), (q40, .inl (cyI, 32, .inl (fun _ => 0)))] := by rw [har40, hR]; rfl
  clear hfs40 har40
  obtain ⟨bd, hbd⟩ : ∃ bd : Nat → Nat, bd = (fun i => ([h0, q1, q2, q3, q4, q5, q6, q7, q8, q9, q10, q11, q12, q13, q14, q15, q16, q17, q18, q19, q20, q21, q22, q23, q24, q25, q26, q27, q28, q29, q30, q31, q32, q33, q34, q35, q36, q37, q38, q39, q40] : List Nat).getD i 0) := ⟨_, rfl⟩
  have e : ((h0, .inr (7, fs_40)) :: ar_40 : va_W) = mw cyI cyJ cyZ bd Szz := by
    rw [hE, hR, hbd]; rfl
  rw [e] at hP hD
  have hb0 : bd 0 = h0 := by rw [hbd]; rfl
  have hAd : AdOK 41 bd := ad_of_D hD mw_ad
  clear e
  rw [← hb0] at hl
  have hAA : ∀ j, j < 41 → A (bd j) := by
    intro j hj
    have h1 : (mw cyI cyJ cyZ bd Szz).map (fun q => q.1) = (List.range 41).map bd := mw_ad
    have h2 : ((mw cyI cyJ cyZ bd Szz).map (fun q => q.1))[j]? = some (bd j) := by rw [h1, List.getElem?_map, List.getElem?_range hj]; rfl
    rw [List.getElem?_map] at h2
    cases hw : (mw cyI cyJ cyZ bd Szz)[j]? with
    | none => rw [hw] at h2; cases h2
    | some y => rw [hw] at h2; have h3 := hD.2 j y hw; rw [show y.1 = bd j from Option.some.inj h2] at h3; exact h3
  have loop351 : ∀ (d i : Nat) (f : Nat → Int32), i + d = 16 → (∀ j, j < i → f j = -1) → ∀ (H : Heap) (locs : List Loc) (ls : Array Slot), va_P D vwCl (mw cyI cyJ cyZ bd (tb (tb Szz 0 (fun _ => -1)) 1 f)) H → va_S A s.heap H locs → lv_has ls 2 [(1, .int (nI i)), (0, .ref (bd 0))] → W p l e rl_X7_init s m args below meth c H locs 40 2612 (MQ below (PoN D (FN7 cyI cyJ cyZ h0) A) args s 40 2612 A) (F0 m 351 ls []) := by
    intro d
    induction d with
    | zero =>
      intro i f hi hf H locs ls hP hS hl
      refine lv_iload_n hx hb dX7_init_351 rfl (lv_at hl 0 rfl) ?_
      refine lv_bipush (v := nI 16) hx hb dX7_init_352 (by decide) ?_
      refine lv_icmp_ge (tgt := 370) hx hb dX7_init_354 (by decide) (fun _ => ?_) (fun hc => absurd (nI_le (show 16 ≤ i by omega) (by omega)) hc)
      have hP : va_P D vwCl (mw cyI cyJ cyZ bd (tb (tb Szz 0 (fun _ => -1)) 1 (fun _ => -1))) H := by
        have h1 := hP 2 _ rfl
        refine setv_P (k := 2) (x := (bd 2, .inl (cyI, 16, .inl (fun _ => -1)))) hP ?_
        show H[bd 2]? = some (vp_cell cyI (16, .inl (fun _ => -1)))
        rw [← vp_ext (f := f) (fun j hj => hf j (by omega))]
        exact h1
      have hD9 : va_D A (mw cyI cyJ cyZ bd S0m) := dis_of hAd mw_ad hAA
      exact W.vret hx hb hr (fun t ht hW => ⟨⟨(), rfl, trivial, _, ⟨bd, hb0, rfl, hAd⟩, by rw [ht]; exact hP, hD9⟩, hS.F ht⟩) hS.2.2 dX7_init_370
    | succ d ih =>
      intro i f hi hf H locs ls hP hS hl
      refine lv_iload_n hx hb dX7_init_351 rfl (lv_at hl 0 rfl) ?_
      refine lv_bipush (v := nI 16) hx hb dX7_init_352 (by decide) ?_
      refine lv_icmp_ge (tgt := 370) hx hb dX7_init_354 (by decide) (fun hc => absurd hc (nI_ge (show i < 16 by omega) (by omega))) (fun _ => ?_)
      refine lv_aload_n hx hb dX7_init_357 rfl (lv_at hl 1 rfl) ?_
      refine va_get (D := D) (ci := 7) (v := .ref (bd 2)) (C := RX7) (T := TX7) (N := 48) hx hb hts hin7 hown hK hP 0 mw_o rfl 1 (by decide) f13 (fun _ h9 => h9) mw_f1 dX7_init_358 ?_
      refine lv_iload_n hx hb dX7_init_361 rfl (lv_at hl 0 rfl) ?_
      refine lv_iconst (v := (-1)) hx hb dX7_init_362 (by decide) ?_
      refine va_iast hx hb hK hP (dis_of hAd mw_ad hAA) hS 2 0 mw_a1 rfl (vp_in_nI (show i < 16 by omega) (by omega)) dX7_init_363 (fun H locs hP _ hS => ?_)
      rw [tn (by omega)] at hP
      refine lv_iinc (v := nI (i + 1)) (lv' := [(1, .int (nI (i + 1))), (0, .ref (bd 0))]) hx hb dX7_init_364 hl (k := 0) rfl (nI_1 i) (by decide) rfl (fun ls hl => ?_)
      refine lv_goto (tgt := 351) hx hb dX7_init_367 (by decide) ?_
      refine ih (i + 1) (upd f i (-1)) (by omega) (fun j hj => ?_) _ _ _ hP hS hl
      by_cases h : j = i
      · rw [h]; exact pk_us
      · rw [pk_un h]; exact hf j (by omega)
  have loop330 : ∀ (d i : Nat) (f : Nat → Int32), i + d = 20 → (∀ j, j < i → f j = -1) → ∀ (H : Heap) (locs : List Loc) (ls : Array Slot), va_P D vwCl (mw cyI cyJ cyZ bd (tb Szz 0 f)) H → va_S A s.heap H locs → lv_has ls 2 [(1, .int (nI i)), (0, .ref (bd 0))] → W p l e rl_X7_init s m args below meth c H locs 40 2612 (MQ below (PoN D (FN7 cyI cyJ cyZ h0) A) args s 40 2612 A) (F0 m 330 ls []) := by
    intro d
    induction d with
    | zero =>
      intro i f hi hf H locs ls hP hS hl
      refine lv_iload_n hx hb dX7_init_330 rfl (lv_at hl 0 rfl) ?_
      refine lv_bipush (v := nI 20) hx hb dX7_init_331 (by decide) ?_
      refine lv_icmp_ge (tgt := 349) hx hb dX7_init_333 (by decide) (fun _ => ?_) (fun hc => absurd (nI_le (show 20 ≤ i by omega) (by omega)) hc)
      have hP : va_P D vwCl (mw cyI cyJ cyZ bd (tb Szz 0 (fun _ => -1))) H := by
        have h1 := hP 1 _ rfl
        refine setv_P (k := 1) (x := (bd 1, .inl (cyI, 20, .inl (fun _ => -1)))) hP ?_
        show H[bd 1]? = some (vp_cell cyI (20, .inl (fun _ => -1)))
        rw [← vp_ext (f := f) (fun j hj => hf j (by omega))]
        exact h1
      refine lv_iconst (v := nI 0) hx hb dX7_init_349 (by decide) ?_
      refine lv_istore_n (lv' := [(1, .int (nI 0)), (0, .ref (bd 0))]) hx hb dX7_init_350 rfl hl (by decide) rfl (fun ls hl => ?_)
      exact loop351 16 0 (fun _ => 0) (by omega) (fun j hj => absurd hj (by omega)) _ _ _ hP hS hl
    | succ d ih =>
      intro i f hi hf H locs ls hP hS hl
      refine lv_iload_n hx hb dX7_init_330 rfl (lv_at hl 0 rfl) ?_
      refine lv_bipush (v := nI 20) hx hb dX7_init_331 (by decide) ?_
      refine lv_icmp_ge (tgt := 349) hx hb dX7_init_333 (by decide) (fun hc => absurd hc (nI_ge (show i < 20 by omega) (by omega))) (fun _ => ?_)
      refine lv_aload_n hx hb dX7_init_336 rfl (lv_at hl 1 rfl) ?_
      refine va_get (D := D) (ci := 7) (v := .ref (bd 1)) (C := RX7) (T := TX7) (N := 48) hx hb hts hin7 hown hK hP 0 mw_o rfl 0 (by decide) f7 (fun _ h9 => h9) mw_f0 dX7_init_337 ?_
      refine lv_iload_n hx hb dX7_init_340 rfl (lv_at hl 0 rfl) ?_
      refine lv_iconst (v := (-1)) hx hb dX7_init_341 (by decide) ?_
      refine va_iast hx hb hK hP (dis_of hAd mw_ad hAA) hS 1 0 mw_a0 rfl (vp_in_nI (show i < 20 by omega) (by omega)) dX7_init_342 (fun H locs hP _ hS => ?_)
      rw [tn (by omega)] at hP
      refine lv_iinc (v := nI (i + 1)) (lv' := [(1, .int (nI (i + 1))), (0, .ref (bd 0))]) hx hb dX7_init_343 hl (k := 0) rfl (nI_1 i) (by decide) rfl (fun ls hl => ?_)
      refine lv_goto (tgt := 330) hx hb dX7_init_346 (by decide) ?_
      refine ih (i + 1) (upd f i (-1)) (by omega) (fun j hj => ?_) _ _ _ hP hS hl
      by_cases h : j = i
      · rw [h]; exact pk_us
      · rw [pk_un h]; exact hf j (by omega)
  refine lv_iconst (v := nI 0) hx hb dX7_init_328 (by decide) ?_
  refine lv_istore_n (lv' := [(1, .int (nI 0)), (0, .ref (bd 0))]) hx hb dX7_init_329 rfl hl (by decide) rfl (fun ls hl => ?_)
  exact loop330 20 0 (fun _ => 0) (by omega) (fun j hj => absurd hj (by omega)) _ _ _ hP hS hl

theorem FN6_w {D : va_G} {cyI : ClassId} {h0 : Nat} {w : va_W} {H : Heap} {A : Nat → Prop} (h : FN6 cyI h0 w) (hP : va_P D vwCl w H) (hD : va_D A w) : ∃ ad : Nat → Nat, ad 30 = h0 ∧ va_P D vwCl (cw cyI ad S0c) H ∧ AdOK 31 ad ∧ va_D A (cw cyI ad S0c) := by
  obtain ⟨q1, q2, q3, q4, q5, q6, q7, q8, q9, q10, q11, q12, q13, q14, q15, q16, q17, q18, q19, q20, q21, q22, q23, q24, q25, q26, q27, q28, q29, q30, rfl⟩ := h
  refine ⟨fun i => ([q1, q2, q3, q4, q5, q6, q8, q9, q11, q12, q13, q14, q26, q27, q29, q30, q16, q17, q18, q19, q21, q22, q23, q24, q7, q10, q15, q20, q25, q28, h0] : List Nat).getD i 0, rfl, hP.sub [1, 2, 3, 4, 5, 6, 8, 9, 11, 12, 13, 14, 26, 27, 29, 30, 16, 17, 18, 19, 21, 22, 23, 24, 7, 10, 15, 20, 25, 28, 0] rfl, ?_, ?_⟩
  · exact ad_of_D (hD.sub (ws' := cw cyI (fun i => ([q1, q2, q3, q4, q5, q6, q8, q9, q11, q12, q13, q14, q26, q27, q29, q30, q16, q17, q18, q19, q21, q22, q23, q24, q7, q10, q15, q20, q25, q28, h0] : List Nat).getD i 0) S0c) [1, 2, 3, 4, 5, 6, 8, 9, 11, 12, 13, 14, 26, 27, 29, 30, 16, 17, 18, 19, 21, 22, 23, 24, 7, 10, 15, 20, 25, 28, 0] (by decide) rfl) cw_ad
  · exact hD.sub [1, 2, 3, 4, 5, 6, 8, 9, 11, 12, 13, 14, 26, 27, 29, 30, 16, 17, 18, 19, 21, 22, 23, 24, 7, 10, 15, 20, 25, 28, 0] (by decide) rfl
