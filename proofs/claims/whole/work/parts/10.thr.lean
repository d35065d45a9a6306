/-! methods that throw -/
def xN : Nat → String
  | 1 => "java/lang/IndexOutOfBoundsException"
  | 2 => "java/lang/IllegalArgumentException"
  | _ => "java/lang/IllegalStateException"
def SX (U : State) : Prop := (∃ sa, vk_R RX6 70 "there is no such file" sa U) ∧ (∃ sa, vk_R RX6 81 "content is 0 to 999, or NONE" sa U) ∧ (∃ sa, vk_R RX6 95 "kind is SUM to LEAK, or NONE" sa U) ∧ (∃ sa, vk_R RX6 97 "number and salt are 0 to 999" sa U) ∧ (∃ sa, vk_R RX6 99 "time is 1 to 20" sa U) ∧ (∃ sa, vk_R RX6 112 "there is no such input" sa U) ∧ (∃ sa, vk_R RX6 114 "what is FILE to TURNED" sa U) ∧ (∃ sa, vk_R RX6 118 "the target has no rule, or 4 inputs" sa U) ∧ (∃ sa, vk_R RX6 121 "times is 0 to 20" sa U) ∧ (∃ sa, vk_R RX6 126 "there is no such machine" sa U) ∧ (∃ sa, vk_R RX6 136 "many is 0 to 20" sa U) ∧ (∃ sa, vk_R RX6 162 "what is 0 to 3" sa U) ∧ (∃ sa, vk_R RX6 186 "there is no such target or file" sa U) ∧ (∃ sa, vk_R RX6 197 "there is no such place" sa U) ∧ (∃ sa, vk_R RX6 199 "both targets are the same" sa U) ∧ (∃ sa, vk_R RX6 205 "machines is 1 to 3" sa U) ∧ (∃ sa, vk_R RX6 210 "there is no such target" sa U) ∧ (∃ sa, vk_R RX6 212 "there is no such configuration" sa U)
theorem SX.warm {s U : State} (hW : s.WarmedH U.vm) (h : SX s) : SX U := ⟨h.1.imp (fun _ => vk_R.warm hW), h.2.1.imp (fun _ => vk_R.warm hW), h.2.2.1.imp (fun _ => vk_R.warm hW), h.2.2.2.1.imp (fun _ => vk_R.warm hW), h.2.2.2.2.1.imp (fun _ => vk_R.warm hW), h.2.2.2.2.2.1.imp (fun _ => vk_R.warm hW), h.2.2.2.2.2.2.1.imp (fun _ => vk_R.warm hW), h.2.2.2.2.2.2.2.1.imp (fun _ => vk_R.warm hW), h.2.2.2.2.2.2.2.2.1.imp (fun _ => vk_R.warm hW), h.2.2.2.2.2.2.2.2.2.1.imp (fun _ => vk_R.warm hW), h.2.2.2.2.2.2.2.2.2.2.1.imp (fun _ => vk_R.warm hW), h.2.2.2.2.2.2.2.2.2.2.2.1.imp (fun _ => vk_R.warm hW), h.2.2.2.2.2.2.2.2.2.2.2.2.1.imp (fun _ => vk_R.warm hW), h.2.2.2.2.2.2.2.2.2.2.2.2.2.1.imp (fun _ => vk_R.warm hW), h.2.2.2.2.2.2.2.2.2.2.2.2.2.2.1.imp (fun _ => vk_R.warm hW), h.2.2.2.2.2.2.2.2.2.2.2.2.2.2.2.1.imp (fun _ => vk_R.warm hW), h.2.2.2.2.2.2.2.2.2.2.2.2.2.2.2.2.1.imp (fun _ => vk_R.warm hW), h.2.2.2.2.2.2.2.2.2.2.2.2.2.2.2.2.2.imp (fun _ => vk_R.warm hW)⟩
theorem SX.same {s U : State} (hv : s.vm = U.vm) (h : SX s) : SX U := ⟨h.1.imp (fun _ => vk_R.same hv.symm), h.2.1.imp (fun _ => vk_R.same hv.symm), h.2.2.1.imp (fun _ => vk_R.same hv.symm), h.2.2.2.1.imp (fun _ => vk_R.same hv.symm), h.2.2.2.2.1.imp (fun _ => vk_R.same hv.symm), h.2.2.2.2.2.1.imp (fun _ => vk_R.same hv.symm), h.2.2.2.2.2.2.1.imp (fun _ => vk_R.same hv.symm), h.2.2.2.2.2.2.2.1.imp (fun _ => vk_R.same hv.symm), h.2.2.2.2.2.2.2.2.1.imp (fun _ => vk_R.same hv.symm), h.2.2.2.2.2.2.2.2.2.1.imp (fun _ => vk_R.same hv.symm), h.2.2.2.2.2.2.2.2.2.2.1.imp (fun _ => vk_R.same hv.symm), h.2.2.2.2.2.2.2.2.2.2.2.1.imp (fun _ => vk_R.same hv.symm), h.2.2.2.2.2.2.2.2.2.2.2.2.1.imp (fun _ => vk_R.same hv.symm), h.2.2.2.2.2.2.2.2.2.2.2.2.2.1.imp (fun _ => vk_R.same hv.symm), h.2.2.2.2.2.2.2.2.2.2.2.2.2.2.1.imp (fun _ => vk_R.same hv.symm), h.2.2.2.2.2.2.2.2.2.2.2.2.2.2.2.1.imp (fun _ => vk_R.same hv.symm), h.2.2.2.2.2.2.2.2.2.2.2.2.2.2.2.2.1.imp (fun _ => vk_R.same hv.symm), h.2.2.2.2.2.2.2.2.2.2.2.2.2.2.2.2.2.imp (fun _ => vk_R.same hv.symm)⟩
theorem SX.s70 {s : State} (h : SX s) : ∃ sa, vk_R RX6 70 "there is no such file" sa s := h.1
theorem SX.s81 {s : State} (h : SX s) : ∃ sa, vk_R RX6 81 "content is 0 to 999, or NONE" sa s := h.2.1
theorem SX.s95 {s : State} (h : SX s) : ∃ sa, vk_R RX6 95 "kind is SUM to LEAK, or NONE" sa s := h.2.2.1
theorem SX.s97 {s : State} (h : SX s) : ∃ sa, vk_R RX6 97 "number and salt are 0 to 999" sa s := h.2.2.2.1
theorem SX.s99 {s : State} (h : SX s) : ∃ sa, vk_R RX6 99 "time is 1 to 20" sa s := h.2.2.2.2.1
theorem SX.s112 {s : State} (h : SX s) : ∃ sa, vk_R RX6 112 "there is no such input" sa s := h.2.2.2.2.2.1
theorem SX.s114 {s : State} (h : SX s) : ∃ sa, vk_R RX6 114 "what is FILE to TURNED" sa s := h.2.2.2.2.2.2.1
theorem SX.s118 {s : State} (h : SX s) : ∃ sa, vk_R RX6 118 "the target has no rule, or 4 inputs" sa s := h.2.2.2.2.2.2.2.1
theorem SX.s121 {s : State} (h : SX s) : ∃ sa, vk_R RX6 121 "times is 0 to 20" sa s := h.2.2.2.2.2.2.2.2.1
theorem SX.s126 {s : State} (h : SX s) : ∃ sa, vk_R RX6 126 "there is no such machine" sa s := h.2.2.2.2.2.2.2.2.2.1
theorem SX.s136 {s : State} (h : SX s) : ∃ sa, vk_R RX6 136 "many is 0 to 20" sa s := h.2.2.2.2.2.2.2.2.2.2.1
theorem SX.s162 {s : State} (h : SX s) : ∃ sa, vk_R RX6 162 "what is 0 to 3" sa s := h.2.2.2.2.2.2.2.2.2.2.2.1
theorem SX.s186 {s : State} (h : SX s) : ∃ sa, vk_R RX6 186 "there is no such target or file" sa s := h.2.2.2.2.2.2.2.2.2.2.2.2.1
theorem SX.s197 {s : State} (h : SX s) : ∃ sa, vk_R RX6 197 "there is no such place" sa s := h.2.2.2.2.2.2.2.2.2.2.2.2.2.1
theorem SX.s199 {s : State} (h : SX s) : ∃ sa, vk_R RX6 199 "both targets are the same" sa s := h.2.2.2.2.2.2.2.2.2.2.2.2.2.2.1
theorem SX.s205 {s : State} (h : SX s) : ∃ sa, vk_R RX6 205 "machines is 1 to 3" sa s := h.2.2.2.2.2.2.2.2.2.2.2.2.2.2.2.1
theorem SX.s210 {s : State} (h : SX s) : ∃ sa, vk_R RX6 210 "there is no such target" sa s := h.2.2.2.2.2.2.2.2.2.2.2.2.2.2.2.2.1
theorem SX.s212 {s : State} (h : SX s) : ∃ sa, vk_R RX6 212 "there is no such configuration" sa s := h.2.2.2.2.2.2.2.2.2.2.2.2.2.2.2.2.2
def XNg (U : State) : Prop := va_Nw (.declares (Bundle.initS "java/lang/RuntimeException")) U ∧ va_Nw (.declares (Bundle.initS "java/lang/Exception")) U ∧ va_Nw (.declares (Bundle.initS Bundle.tN)) U ∧ va_Nw (.castable "java/lang/IndexOutOfBoundsException" "java/lang/IndexOutOfBoundsException") U ∧ va_Nw (.castable "java/lang/IllegalArgumentException" "java/lang/IllegalArgumentException") U ∧ va_Nw (.castable "java/lang/IllegalStateException" "java/lang/IllegalStateException") U
theorem ca_warm {a b : String} {s U : State} (hW : s.WarmedH U.vm) (h : va_Nw (.castable a b) s) : va_Nw (.castable a b) U := va_tabs rfl (rfl : (s.setVm U.vm).vm = U.vm) (by rw [Cond.castable_setVm hW.alike]; exact h)
theorem XNg.warm {s U : State} (hW : s.WarmedH U.vm) (h : XNg s) : XNg U := ⟨va_Nw.warmD hW h.1, va_Nw.warmD hW h.2.1, va_Nw.warmD hW h.2.2.1, ca_warm hW h.2.2.2.1, ca_warm hW h.2.2.2.2.1, ca_warm hW h.2.2.2.2.2⟩
theorem XNg.same {s U : State} (hv : s.vm = U.vm) (h : XNg s) : XNg U := ⟨va_Nw.same rfl hv h.1, va_Nw.same rfl hv h.2.1, va_Nw.same rfl hv h.2.2.1, va_Nw.same rfl hv h.2.2.2.1, va_Nw.same rfl hv h.2.2.2.2.1, va_Nw.same rfl hv h.2.2.2.2.2⟩
def XW (A : Nat → Prop) (U : State) : Prop := vx_Zq Bundle.tN "UNASSIGNED_STACK" Bundle.steD A U U.heap ∧ vx_Zq Bundle.tN "SUPPRESSED_SENTINEL" Bundle.listD A U U.heap ∧ XNg U ∧ SX U
theorem XW.go {A A1 : Nat → Prop} {s U : State} {H : Heap} {locs : List Loc} (h : XW A s) (hAB : ∀ q, A1 q → A q) (hS : va_S A s.heap H locs) (hU : U.heap = H) (hW : s.WarmedH U.vm) : XW A1 U :=
  ⟨by rw [hU]; exact vx_Zq.moved hW.alike ((h.1.kept hS.2.1).narrow hAB), by rw [hU]; exact vx_Zq.moved hW.alike ((h.2.1.kept hS.2.1).narrow hAB), XNg.warm hW h.2.2.1, SX.warm hW h.2.2.2⟩
theorem hat_1 {args : Array Value} {s : State} (h : XNg s) (h1 : ∀ w ∈ (vx_atS RX6 72 "java/lang/IndexOutOfBoundsException" ["java/lang/RuntimeException", "java/lang/Exception"]).filter goodWord, w.before args s = true) : ∀ w ∈ vx_atS RX6 72 "java/lang/IndexOutOfBoundsException" ["java/lang/RuntimeException", "java/lang/Exception"], w.before args s = true :=
  vx_hat (B := [.declares (Bundle.initS "java/lang/RuntimeException"), .declares (Bundle.initS "java/lang/Exception"), .declares (Bundle.initS Bundle.tN), .castable "java/lang/IndexOutOfBoundsException" "java/lang/IndexOutOfBoundsException"]) h1 (by decide +kernel) (vx_c (va_Nw.use rfl h.1) (vx_c (va_Nw.use rfl h.2.1) (vx_c (va_Nw.use rfl h.2.2.1) (vx_c (va_Nw.use rfl h.2.2.2.1) vx_n))))
theorem hgd_1 : ∀ w ∈ Cond.classLink RX6 68 "java/lang/IndexOutOfBoundsException" :: Cond.initialized "java/lang/IndexOutOfBoundsException" :: vx_atS RX6 72 "java/lang/IndexOutOfBoundsException" ["java/lang/RuntimeException", "java/lang/Exception"], vx_ot w = true := by decide +kernel
theorem hfit_1 : Bundle.fit "java/lang/IndexOutOfBoundsException" = true := by decide +kernel
theorem hat_2 {args : Array Value} {s : State} (h : XNg s) (h1 : ∀ w ∈ (vx_atS RX6 83 "java/lang/IllegalArgumentException" ["java/lang/RuntimeException", "java/lang/Exception"]).filter goodWord, w.before args s = true) : ∀ w ∈ vx_atS RX6 83 "java/lang/IllegalArgumentException" ["java/lang/RuntimeException", "java/lang/Exception"], w.before args s = true :=
  vx_hat (B := [.declares (Bundle.initS "java/lang/RuntimeException"), .declares (Bundle.initS "java/lang/Exception"), .declares (Bundle.initS Bundle.tN), .castable "java/lang/IllegalArgumentException" "java/lang/IllegalArgumentException"]) h1 (by decide +kernel) (vx_c (va_Nw.use rfl h.1) (vx_c (va_Nw.use rfl h.2.1) (vx_c (va_Nw.use rfl h.2.2.1) (vx_c (va_Nw.use rfl h.2.2.2.2.1) vx_n))))
theorem hgd_2 : ∀ w ∈ Cond.classLink RX6 79 "java/lang/IllegalArgumentException" :: Cond.initialized "java/lang/IllegalArgumentException" :: vx_atS RX6 83 "java/lang/IllegalArgumentException" ["java/lang/RuntimeException", "java/lang/Exception"], vx_ot w = true := by decide +kernel
theorem hfit_2 : Bundle.fit "java/lang/IllegalArgumentException" = true := by decide +kernel
theorem hat_3 {args : Array Value} {s : State} (h : XNg s) (h1 : ∀ w ∈ (vx_atS RX6 120 "java/lang/IllegalStateException" ["java/lang/RuntimeException", "java/lang/Exception"]).filter goodWord, w.before args s = true) : ∀ w ∈ vx_atS RX6 120 "java/lang/IllegalStateException" ["java/lang/RuntimeException", "java/lang/Exception"], w.before args s = true :=
  vx_hat (B := [.declares (Bundle.initS "java/lang/RuntimeException"), .declares (Bundle.initS "java/lang/Exception"), .declares (Bundle.initS Bundle.tN), .castable "java/lang/IllegalStateException" "java/lang/IllegalStateException"]) h1 (by decide +kernel) (vx_c (va_Nw.use rfl h.1) (vx_c (va_Nw.use rfl h.2.1) (vx_c (va_Nw.use rfl h.2.2.1) (vx_c (va_Nw.use rfl h.2.2.2.2.2) vx_n))))
theorem hgd_3 : ∀ w ∈ Cond.classLink RX6 116 "java/lang/IllegalStateException" :: Cond.initialized "java/lang/IllegalStateException" :: vx_atS RX6 120 "java/lang/IllegalStateException" ["java/lang/RuntimeException", "java/lang/Exception"], vx_ot w = true := by decide +kernel
theorem hfit_3 : Bundle.fit "java/lang/IllegalStateException" = true := by decide +kernel
theorem hfitn : ∀ n ∈ (["java/lang/RuntimeException", "java/lang/Exception"] : List String), Bundle.fit n = true := by decide +kernel
theorem zx_k {α β : Type} {x : Option (Sum Nat α)} {f : α → Option (Sum Nat β)} {R : Sum Nat β} (h : zx x f = some R) : (∃ e, x = some (.inl e) ∧ R = .inl e) ∨ (∃ a, x = some (.inr a) ∧ f a = some R) := by
  match x, h with
  | some (.inl e), h => exact Or.inl ⟨e, rfl, (Option.some.inj h).symm⟩
  | some (.inr a), h => exact Or.inr ⟨a, rfl, h⟩
theorem ro_X6_refuseOtherTargets {S S1 : St} {p : Int32} (h : m_X6_refuseOtherTargets S p = some (.inr S1)) : S = S1 := by
  unfold m_X6_refuseOtherTargets at h
  repeat' split at h
  all_goals first | (cases h; done) | (cases h; rfl)
theorem ro_X6_refuseOtherNodes {S S1 : St} {p q : Int32} (h : m_X6_refuseOtherNodes S p q = some (.inr S1)) : S = S1 := by
  unfold m_X6_refuseOtherNodes at h
  rcases zx_k h with ⟨e, -, h⟩ | ⟨a, -, h⟩
  · cases h
  · repeat' split at h
    all_goals first | (cases h; done) | (cases h; rfl)
def PreX (D : va_G) (tys : List (ClassId × FieldType)) (w : va_W) (A : Nat → Prop) (vs : List Value) : Array Value → State → Prop := va_Pc vs (fun U => va_P D vwCl w U.heap ∧ va_K D vwCl tys U ∧ NW U ∧ XW A U)
def PoXI (D : va_G) (wf : St → va_W) (A : Nat → Prop) (res : Sum Nat (Int32 × St)) : Array Value → State → Outcome → State → Prop := va_Qi (fun (r : Int32) (S : St) => res = .inr (r, S)) (fun S t => va_P D vwCl (wf S) t.heap) A
def PoXV (D : va_G) (wf : St → va_W) (A : Nat → Prop) (res : Sum Nat St) : Array Value → State → Outcome → State → Prop := va_Qv (fun (S : St) => res = .inr S) (fun S t => va_P D vwCl (wf S) t.heap) A
def XX {α : Type} (res : Sum Nat α) (D : va_G) (w : va_W) (A : Nat → Prop) : String → State → State → Prop := vx_X (fun (_ : Unit) => True) (fun E _ t => (∃ e, res = .inl e ∧ E = xN e) ∧ va_P D vwCl w t.heap) A
theorem PreX.blind {D : va_G} {tys : List (ClassId × FieldType)} {w : va_W} {A : Nat → Prop} {vs : List Value} : FrameBlind (PreX D tys w A vs) := by
  intro a U g mk q
  obtain ⟨h1, h2, h3, h4, h5, h6, h7, h8⟩ := q
  exact ⟨h1, h2, va_K.moved (u := U) (U := U.calling g mk a) (Vm.Alike.refl U.vm) h3, NW.same rfl h4, vx_Zq.moved (u := U) (U := U.calling g mk a) (Vm.Alike.refl U.vm) h5, vx_Zq.moved (u := U) (U := U.calling g mk a) (Vm.Alike.refl U.vm) h6, XNg.same rfl h7, SX.same rfl h8⟩
theorem va_P.keepd {D : va_G} {cl : List vw_C} {w : va_W} {H H1 : Heap} (h : va_P D cl w H) (hk : ∀ q, q < H.size → H1[q]? = H[q]?) : va_P D cl w H1 := fun k q hq => (h k q hq).kept (hk q.1 (h k q hq).lt)
theorem metx_go {l : Launch} {y : MethodName} {ws ws' : List Cond} {rm : Room} {cc : ByteArray} {maxL : Nat} {ret : Option FieldType} {vs : List Value} {D : va_G} {tys : List (ClassId × FieldType)} {w : va_W} {Qc : Array Value → State → Outcome → State → Prop} {XC : String → State → State → Prop} {A : Nat → Prop} {mc ms : Nat}
    (hy : plainName y.cls = true) (hw : ws = Cond.code y cc maxL ret :: ws') (hle : (lg_sl vs).length ≤ maxL)
    (body : ∀ (p : Program) (e : Env) (s : State) (m : MethodId) (args : Array Value) (below : List Frame) (meth : Method) (c : Code) (ls : Array Slot), p.tables.exec = Jvm.exec → c.code = cc → meth.sig.returnType = ret → c.maxLocals = maxL → (∀ w ∈ ws, w.before args s = true) → s.vm.findClass y.cls = some m.cls → meth.locks = false → (∀ x ∈ c.exceptionTable.toList, False) → va_P D vwCl w s.heap → va_K D vwCl tys s → NW s → XW A s → lv_has ls maxL (lv_args 0 vs) →
      W p l e rm s m args below meth c s.heap [] 0 0 (vx_MQ below Qc XC args s mc ms A) (F0 m 0 ls [])) : vx_Met l y ws rm (PreX D tys w A vs) Qc XC mc ms A := by
  refine vx_ofW hy hw ?_
  intro p e s m args below meth c s₁ B hml hexc hv
  obtain ⟨hargs, hP, hK, hN, hZ⟩ := hv
  have hl := lv_entry vs hle
  refine W.eq (by rw [hargs, lg_entry_eq]) ?_
  exact body p e s m args below meth c _ B.exec B.bytes B.returns hml (atoms_spec (ws := ws) B.pre) (findClass_of_methodNamed B.named) B.notSynchronized hexc hP hK hN hZ hl
section THR
variable {p : Program} {l : Launch} {e : Env} {R : Room} {s : State} {m : MethodId} {args : Array Value} {below : List Frame} {meth : Method} {c : Code} {H : Heap} {locs : List Loc} {Q : State → Prop}
variable {cc : ByteArray} {pc : Nat} {ls : Array Slot} {rest st0 As : List Value} {D : va_G} {A : Nat → Prop} {tys : List (ClassId × FieldType)} {w w1 : va_W} {ret : Option FieldType} {cells slots mc ms : Nat}
theorem finx_i {XC : String → State → State → Prop} {v : Int32} {S : St} {wf : St → va_W} {res : Sum Nat (Int32 × St)} (hx : p.tables.exec = Jvm.exec) (hb : c.code = cc) (hr : meth.sig.returnType = some .int) (hlk : meth.locks = false) (hS : va_S A s.heap H locs) (hP : va_P D vwCl (wf S) H) (hw : res = .inr (v, S)) (hdg : decode cc pc = .ok (.ireturn, 1)) (hc : cells ≤ mc) (hs : slots ≤ ms) : W p l e R s m args below meth c H locs cells slots (vx_MQ below (PoXI D wf A res) XC args s mc ms A) (F0 m pc ls [.int v]) :=
  vx_ret (W.widen hc hs (W.iret hx hb hr (fun t ht _ => ⟨⟨v, S, rfl, hw, by show va_P D vwCl (wf S) t.heap; rw [ht]; exact hP⟩, hS.F ht⟩) hS.2.2 hdg hlk))
theorem finx_z {XC : String → State → State → Prop} {v : Int32} {S : St} {wf : St → va_W} {res : Sum Nat (Int32 × St)} (hx : p.tables.exec = Jvm.exec) (hb : c.code = cc) (hr : meth.sig.returnType = some .boolean) (hlk : meth.locks = false) (hS : va_S A s.heap H locs) (hP : va_P D vwCl (wf S) H) (hz : narrow .boolean (.int v) = .int v) (hw : res = .inr (v, S)) (hdg : decode cc pc = .ok (.ireturn, 1)) (hc : cells ≤ mc) (hs : slots ≤ ms) : W p l e R s m args below meth c H locs cells slots (vx_MQ below (PoXI D wf A res) XC args s mc ms A) (F0 m pc ls [.int v]) :=
  vx_ret (W.widen hc hs (W.zret hx hb hr hz (fun t ht _ => ⟨⟨v, S, rfl, hw, by show va_P D vwCl (wf S) t.heap; rw [ht]; exact hP⟩, hS.F ht⟩) hS.2.2 hdg hlk))
theorem finx_v {XC : String → State → State → Prop} {S : St} {wf : St → va_W} {res : Sum Nat St} (hx : p.tables.exec = Jvm.exec) (hb : c.code = cc) (hr : meth.sig.returnType = none) (hlk : meth.locks = false) (hS : va_S A s.heap H locs) (hP : va_P D vwCl (wf S) H) (hw : res = .inr S) (hdg : decode cc pc = .ok (.return_, 1)) (hc : cells ≤ mc) (hs : slots ≤ ms) : W p l e R s m args below meth c H locs cells slots (vx_MQ below (PoXV D wf A res) XC args s mc ms A) (F0 m pc ls []) :=
  vx_ret (W.widen hc hs (W.vret hx hb hr (fun t ht _ => ⟨⟨S, rfl, hw, by show va_P D vwCl (wf S) t.heap; rw [ht]; exact hP⟩, hS.F ht⟩) hS.2.2 hdg hlk))
theorem thr_leaf {α : Type} {res : Sum Nat α} {Qc : Array Value → State → Outcome → State → Prop} {cls text : String} {ik is ic e0 : Nat} (hx : p.tables.exec = Jvm.exec) (hb : c.code = cc) (hfl : l.stackTraces = false) (hown : s.vm.findClass RX6 = some m.cls) (hcls : Bundle.fit cls = true)
    (hk : (Cond.classLink RX6 ik cls).before args s = true) (hini : (Cond.initialized cls).before args s = true) (hstr : ∃ sa, vk_R RX6 is text sa s) (hat : ∀ w ∈ vx_atS RX6 ic cls ["java/lang/RuntimeException", "java/lang/Exception"], w.before args s = true)
    (hgood : ∀ w ∈ Cond.classLink RX6 ik cls :: Cond.initialized cls :: vx_atS RX6 ic cls ["java/lang/RuntimeException", "java/lang/Exception"], vx_ot w = true)
    (hZ : XW A s) (hS : va_S A s.heap H locs) (hsize : ls.size = c.maxLocals) (d0 : decode cc pc = .ok (.new ik, 3)) (d3 : decode cc (pc + 3) = .ok (.dup, 1)) (d4 : decode cc (pc + 4) = .ok (.ldc is, 2)) (d6 : decode cc (pc + 6) = .ok (.invokespecial ic, 3)) (d9 : decode cc (pc + 9) = .ok (.athrow, 1))
    (hexc : ∀ x ∈ c.exceptionTable.toList, False) (hRf : 5 < R.frames) (hRl : 82 ≤ R.locals) (hRc : cells + 1 ≤ R.cells) (hRs : slots + 6 ≤ R.slots) (hlk : meth.locks = false) (hP : va_P D vwCl w H) (hres : res = .inl e0) (he : cls = xN e0) (hc : cells + 1 ≤ mc) (hs : slots + 6 ≤ ms) :
    W p l e R s m args below meth c H locs cells slots (vx_MQ below Qc (XX res D w A) args s mc ms A) (F0 m pc ls []) := by
  obtain ⟨sa, hsa⟩ := hstr
  exact vx_throwS hx hb hfl hown hcls hfitn hk hini hsa hat hgood hZ.1 hZ.2.1 hS hsize d0 d3 d4 d6 d9 (fun x h => absurd h (fun q => (hexc x q).elim)) hRf (by simpa using hRl) hRc hRs hlk
    (fun t _ h1 h2 => ⟨(), trivial, ⟨⟨e0, hres, he⟩, hP.keepd h2⟩, Nat.le_trans hS.1 h1, fun q q1 q2 => by rw [h2 q (Nat.lt_of_lt_of_le q1 hS.1)]; exact hS.2.1 q q1 q2⟩) hS.2.2 hc hs
variable {y : MethodName} {bytes : ByteArray} {maxL nL n index q0 ci N mc0 ms0 : Nat} {ws Ts : List Cond} {rm : Room} {own C host : String} {b : Addr} {fs : List Value} {T : u_T} {Qc : Array Value → State → Outcome → State → Prop} {XC : String → State → State → Prop}
theorem rnxS {A1 : Nat → Prop} (S : CallFix p m c cc nL s args Ts own) (hM : vx_Met l y ws rm (PreX D tys w A1 As) Qc XC mc0 ms0 A1) (cw : CallB R s args own index y bytes maxL ret ws rm mc0 ms0 n ∧ (Cond.static y).before args s = true) (hP : va_P D vwCl w H) (hK : va_K D vwCl tys s) (hN : NW s) (hZ : XW A s) (hAB : ∀ q, A1 q → A q) (hS : va_S A s.heap H locs) (hn : As.length = n) (hl : ls.size = nL) (hst : st0 = As.reverse ++ rest) (hW : (rest.map fun v => v.category).sum ≤ 8) (hdg : decode cc pc = .ok (.invokestatic index, 3)) (hcs : cells + mc0 ≤ R.cells ∧ slots + ms0 ≤ R.slots) :
    vx_Run p l e R s m args below meth c H locs cells slots mc0 ms0 (F0 m pc ls st0) rest (Qc As.toArray) XC A1 :=
  vx_runS S hM cw ⟨PreX.blind, fun _ hU hW => ⟨rfl, by rw [hU]; exact hP, va_K.moved hW.alike hK, NW.warm hW hN, hZ.go hAB hS hU hW⟩⟩ rfl hn hl hst (lv_room hW) hdg hcs
theorem rnxV {A1 : Nat → Prop} (S : CallFix p m c cc nL s args Ts own) (hM : vx_Met l y ws rm (PreX D tys w A1 (.ref b :: As)) Qc XC mc0 ms0 A1) (cw : CallW R s args own C index y bytes maxL ret ws rm mc0 ms0 n) (hP : va_P D vwCl w H) (hK : va_K D vwCl tys s) (hN : NW s) (hZ : XW A s) (hAB : ∀ q, A1 q → A q) (hS : va_S A s.heap H locs) (he : w[q0]? = some (b, .inr (ci, fs))) (hc : vwCl[ci]? = some (C, T, N)) (hn : As.length = n) (hl : ls.size = nL) (hst : st0 = As.reverse ++ .ref b :: rest) (hW : (rest.map fun v => v.category).sum ≤ 8) (hdg : decode cc pc = .ok (.invokevirtual index, 3)) (hcs : cells + mc0 ≤ R.cells ∧ slots + ms0 ≤ R.slots) :
    vx_Run p l e R s m args below meth c H locs cells slots mc0 ms0 (F0 m pc ls st0) rest (Qc (Value.ref b :: As).toArray) XC A1 :=
  vx_runV S hM cw ⟨PreX.blind, va_recv hK hP hc he, fun _ hU hW => ⟨rfl, by rw [hU]; exact hP, va_K.moved hW.alike hK, NW.warm hW hN, hZ.go hAB hS hU hW⟩⟩ rfl hn hl hst (lv_room hW) hdg hcs
/-- a callee that throws here: it goes on to the caller -/
theorem xcal_t {α : Type} {a : Array Value} {res : Sum Nat St} {res2 : Sum Nat α} {e0 : Nat} {wf : St → va_W} (hr : vx_Run p l e R s m args below meth c H locs cells slots mc0 ms0 (F0 m pc ls st0) rest (PoXV D wf A res a) (XX res D w A) A) (hS : va_S A s.heap H locs) (hres : res = .inl e0) (hres2 : res2 = .inl e0) (hlk : meth.locks = false) (hexc : ∀ x ∈ c.exceptionTable.toList, False) (hc : cells + mc0 ≤ mc) (hs : slots + ms0 ≤ ms) :
    W p l e R s m args below meth c H locs cells slots (vx_MQ below Qc (XX res2 D w A) args s mc ms A) (F0 m pc ls st0) := by
  refine vx_callv hr hS (fun _ _ h => h) (fun _ h => h) (fun _ _ h => h) ?_ ?_
  · intro E ce q9 u t H1 locs1 ht _ _ hB hz hk hS1 hce hcv hcl
    obtain ⟨⟨e1, h1, h2⟩, h3⟩ := hB
    rw [hres] at h1
    cases h1
    exact vx_out (fun x h => absurd h (fun q => (hexc x q).elim)) hlk hce hcv hcl (fun t2 ht2 _ => ⟨(), trivial, ⟨⟨e0, hres2, h2⟩, by rw [ht2, ← ht]; exact h3⟩, hS1.F ht2⟩) hS1.2.2 hc hs
  · intro u t H1 locs1 _ _ hp
    rw [hres] at hp
    cases hp
theorem xcal_k {a : Array Value} {res : Sum Nat St} {S1 : St} {wf : St → va_W} (hr : vx_Run p l e R s m args below meth c H locs cells slots mc0 ms0 (F0 m pc ls st0) rest (PoXV D wf A res a) (XX res D w A) A) (hS : va_S A s.heap H locs) (hres : res = .inr S1)
    (kk : ∀ (H1 : Heap) (locs1 : List Loc), va_P D vwCl (wf S1) H1 → va_S A s.heap H1 locs1 → W p l e R s m args below meth c H1 locs1 (cells + mc0) (slots + ms0) Q (F0 m (pc + 3) ls rest)) :
    W p l e R s m args below meth c H locs cells slots Q (F0 m pc ls st0) := by
  refine vx_callv hr hS (fun _ _ h => h) (fun _ h => h) (fun _ _ h => h) ?_ ?_
  · intro E ce q9 u t H1 locs1 ht _ _ hB
    obtain ⟨⟨e1, h1, -⟩, -⟩ := hB
    rw [hres] at h1
    cases h1
  · intro u t H1 locs1 ht _ hp hB _ _ hS1
    rw [hres] at hp
    cases hp
    exact kk H1 locs1 (by rw [← ht]; exact hB) hS1
end THR
