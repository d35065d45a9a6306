/-! the law's wrappers: they catch what the class throws -/
theorem ofWH {l : Launch} {y : MethodName} {ws ws' : List Cond} {rm : Room} {Pc : Array Value → State → Prop} {Qc : Array Value → State → Outcome → State → Prop} {mc ms : Nat} {free : Addr → Prop} {cc : ByteArray} {maxL : Nat} {ret : Option FieldType} {hh : List (Nat × Nat × Nat × Nat)}
    (hy : plainName y.cls = true) (hw : ws = Cond.codeWith y cc maxL ret hh :: ws')
    (body : ∀ p e s m args below meth c s₁, BodyLoose p l y (headSpec ws rm) cc maxL ret e s m args below meth c s₁ → c.maxLocals = maxL → c.exceptionTable.toList = tableOf hh → Pc args s →
      W p l e (headSpec ws rm).room s m args below meth c s.heap [] 0 0 (MQ below Qc args s mc ms free) (entryFrame m args maxL)) : Met l y ws rm Pc Qc mc ms free := by
  refine MetFree.of_bodyS (code := cc) (maxLocals := maxL) (ret := ret) hy ?_ ?_
  · intro args s m h hn
    obtain ⟨m9, meth, c, hn9, h1, h2, h3, h4, -, h5, h6, -⟩ := Cond.codeWith_spec (atoms_spec (ws := ws) h _ (by rw [hw]; exact List.mem_cons_self))
    cases hn.symm.trans hn9
    exact ⟨meth, c, h1, h2, h3, h4, h5, h6⟩
  · intro p e s m args below meth c s₁ B hml hP _
    have hh0 : s₁.heap = s.heap := by rw [B.state]; rfl
    have ht := vx_table (x := y) B (atoms_spec (ws := ws) B.pre _ (by rw [hw]; exact List.mem_cons_self))
    obtain ⟨t, a1, o, b1, b2, b3⟩ := body p e s m args below meth c s₁ B hml ht hP s₁ hh0 (Stand.of_body B)
    exact ⟨t, o, a1, b1, b2, ⟨b3.1, b3.2⟩⟩
def LA (ad : Nat → Nat) (o : Nat) : Nat → Prop := fun q => CA ad q ∨ q = o
def AdO (ad : Nat → Nat) (o : Nat) : Prop := AdOK 31 ad ∧ ∀ j, j < 31 → ad j ≠ o
def oc (cyJ : ClassId) (o : Nat) (f : Nat → Int64) : Nat × va_E := (o, .inl (cyJ, 1, .inr (.inl f)))
theorem LW_D {cyI cyJ : ClassId} {ad : Nat → Nat} {o : Nat} {S : St} {f : Nat → Int64} (h : AdO ad o) : va_D (LA ad o) (cw cyI ad S ++ [oc cyJ o f]) := by
  refine va_D.app ((cw_D h.1).weaken (fun _ _ _ q => Or.inl q)) ⟨fun i j p q hp hq _ => ?_, fun k q hq => ?_⟩ (fun i j p q hp hq e => ?_)
  · have h1 := (List.getElem?_eq_some_iff.mp hp).1
    have h2 := (List.getElem?_eq_some_iff.mp hq).1
    simp only [List.length_cons, List.length_nil] at h1 h2
    omega
  · match k, hq with
    | 0, hq => cases hq; exact Or.inr rfl
    | k + 1, hq => simp at hq
  · obtain ⟨j1, hj1, e1⟩ := (cw_D (cyI := cyI) (S := S) h.1).2 i p hp
    match j, hq with
    | 0, hq => cases hq; exact h.2 j1 hj1 (e1.symm.trans e)
    | j + 1, hq => simp at hq
theorem P_left {D : va_G} {cl : List vw_C} {a b : va_W} {H : Heap} (h : va_P D cl (a ++ b) H) : va_P D cl a H := fun k q hk => h k q (by rw [List.getElem?_append_left (List.getElem?_eq_some_iff.mp hk).1]; exact hk)
theorem P_right {D : va_G} {cl : List vw_C} {a b : va_W} {H : Heap} (h : va_P D cl (a ++ b) H) : va_P D cl b H := fun k q hk => h (a.length + k) q (by rw [List.getElem?_append_right (Nat.le_add_right _ _), Nat.add_sub_cancel_left]; exact hk)
theorem P_kept {D : va_G} {cl : List vw_C} {w : va_W} {H H1 : Heap} {A1 : Nat → Prop} (h : va_P D cl w H) (hk : ∀ q, q < H.size → ¬ A1 q → H1[q]? = H[q]?) (hn : ∀ (k : Nat) (q : Nat × va_E), w[k]? = some q → ¬ A1 q.1) : va_P D cl w H1 := fun k q hq => (h k q hq).kept (hk q.1 (h k q hq).lt (hn k q hq))
theorem o_nCA {ad : Nat → Nat} {o : Nat} (h : AdO ad o) : ¬ CA ad o := fun ⟨j, hj, e⟩ => h.2 j hj e.symm
def CTf (U : State) : Prop := va_Nc "java/lang/IllegalArgumentException" "java/lang/IndexOutOfBoundsException" U ∧ va_Nc "java/lang/IllegalStateException" "java/lang/IndexOutOfBoundsException" U ∧ va_Nc "java/lang/IllegalStateException" "java/lang/IllegalArgumentException" U
theorem Nc_alike {a b : String} {s U : State} (hv : s.vm.Alike U.vm) (h : va_Nc a b s) : va_Nc a b U := va_Nc.moved hv h
theorem CTf.alike {s U : State} (hv : s.vm.Alike U.vm) (h : CTf s) : CTf U := ⟨Nc_alike hv h.1, Nc_alike hv h.2.1, Nc_alike hv h.2.2⟩
def PreL (D : va_G) (tys : List (ClassId × FieldType)) (w : va_W) (A : Nat → Prop) (vs : List Value) : Array Value → State → Prop := va_Pc vs (fun U => va_P D vwCl w U.heap ∧ va_K D vwCl tys U ∧ NW U ∧ XW A U ∧ CTf U)
theorem PreL.blind {D : va_G} {tys : List (ClassId × FieldType)} {w : va_W} {A : Nat → Prop} {vs : List Value} : FrameBlind (PreL D tys w A vs) := by
  intro a U g mk q
  obtain ⟨h1, h2, h3, h4, ⟨h5, h6, h7, h8⟩, h9⟩ := q
  exact ⟨h1, h2, va_K.moved (u := U) (U := U.calling g mk a) (Vm.Alike.refl U.vm) h3, NW.same rfl h4, ⟨vx_Zq.moved (u := U) (U := U.calling g mk a) (Vm.Alike.refl U.vm) h5, vx_Zq.moved (u := U) (U := U.calling g mk a) (Vm.Alike.refl U.vm) h6, XNg.same rfl h7, SX.same rfl h8⟩, CTf.alike (s := U) (U := U.calling g mk a) (Vm.Alike.refl U.vm) h9⟩
/-- how a wrapper tells what the class did -/
def WP (tb : Nat → Int32) (cv : Int32 → Int64) (S : St) (res : Sum Nat (Int32 × St)) (r : Int32) (u : St × (Nat → Int64)) : Prop :=
  match res with
  | .inl e => r = tb e ∧ u.1 = S
  | .inr x => r = 0 ∧ u.1 = x.2 ∧ u.2 0 = cv x.1
def cvI (v : Int32) : Int64 := Int32.toInt64 v
def cvZ (v : Int32) : Int64 := if v = 0 then 0 else 1
def PoW (D : va_G) (cyI cyJ : ClassId) (ad : Nat → Nat) (o : Nat) (tb : Nat → Int32) (cv : Int32 → Int64) (S : St) (res : Sum Nat (Int32 × St)) : Array Value → State → Outcome → State → Prop :=
  va_Qi (WP tb cv S res) (fun u t => va_P D vwCl (cw cyI ad u.1 ++ [oc cyJ o u.2]) t.heap) (LA ad o)
def tb12 (e : Nat) : Int32 := nI e
def tb2 (_ : Nat) : Int32 := nI 1
def ex1 (e : Nat) : Prop := e = 1
def ex2 (e : Nat) : Prop := e = 2
def ex12 (e : Nat) : Prop := e = 1 ∨ e = 2
def ex123 (e : Nat) : Prop := e = 1 ∨ e = 2 ∨ e = 3
theorem finw {p : Program} {l : Launch} {e : Env} {R : Room} {s : State} {m : MethodId} {args : Array Value} {below : List Frame} {meth : Method} {c : Code} {H : Heap} {locs : List Loc} {cells slots mc ms : Nat} {cc : ByteArray} {pc : Nat} {ls : Array Slot} {D : va_G} {cyI cyJ : ClassId} {ad : Nat → Nat} {o : Nat} {tb : Nat → Int32} {cv : Int32 → Int64} {S : St} {res : Sum Nat (Int32 × St)} {v : Int32} {u : St × (Nat → Int64)} (hx : p.tables.exec = Jvm.exec) (hb : c.code = cc) (hr : meth.sig.returnType = some .int) (hlk : meth.locks = false) (hS : va_S (LA ad o) s.heap H locs) (hP : va_P D vwCl (cw cyI ad u.1 ++ [oc cyJ o u.2]) H) (hw : WP tb cv S res v u) (hdg : decode cc pc = .ok (.ireturn, 1)) (hc : cells ≤ mc) (hs : slots ≤ ms) : W p l e R s m args below meth c H locs cells slots (MQ below (PoW D cyI cyJ ad o tb cv S res) args s mc ms (LA ad o)) (F0 m pc ls [.int v]) :=
  W.widen hc hs (W.iret hx hb hr (fun t ht _ => ⟨⟨v, u, rfl, hw, by show va_P D vwCl (cw cyI ad u.1 ++ [oc cyJ o u.2]) t.heap; rw [ht]; exact hP⟩, hS.F ht⟩) hS.2.2 hdg hlk)
def rl_L_write : Room := { frames := 7, cells := 1, slots := 6, locals := 105 }
theorem cdS_L_write : yL_write.cls ≠ "java/lang/invoke/MethodHandle" ∧ yL_write.cls ≠ "java/lang/invoke/VarHandle" ∧ (parseMethodDescriptor yL_write.desc).map (fun d => d.parameters.length) = some 4 := by decide +kernel
set_option maxHeartbeats 4000000 in
set_option maxRecDepth 100000 in
theorem c_L_write {l : Launch} {D : va_G} {cyI cyJ cyZ : ClassId} {ad : Nat → Nat} {o : Nat} (hfl : l.stackTraces = false) (hO : AdO ad o) {S : St} {f : Nat → Int64} {p1 : Int32} {p2 : Int32} {res : Sum Nat (Int32 × St)} (hf : m_X6_write S p1 p2 = some res) (hE : ∀ e, res = .inl e → ex12 e) : Met l yL_write wsL_write rl_L_write (PreL D [(cyI, .int), (cyJ, .long), (cyZ, .boolean)] (cw cyI ad S ++ [oc cyJ o f]) (LA ad o) [.ref (ad 30), .int p1, .int p2, .ref o]) (PoW D cyI cyJ ad o tb12 cvI S res) 1 6 (LA ad o) := by
  refine ofWH (cc := cL_write) (maxL := 5) (ret := (some .int)) (hh := [(0, 10, 13, 13), (0, 10, 17, 15)]) (by decide) rfl ?_
  intro p e s m args below meth c s₁ B hml hexc hv
  obtain ⟨hargs, hP, hK, hN, hZ, hC⟩ := hv
  have hx := B.exec
  have hb := B.bytes
  have hr := B.returns
  have hts := atoms_spec (ws := wsL_write) B.pre
  have hown : s.vm.findClass RL = some m.cls := findClass_of_methodNamed B.named
  have hlk := B.notSynchronized
  have hS : va_S (LA ad o) s.heap s.heap [] := va_S.rf
  have hl := lv_entry ([.ref (ad 30), .int p1, .int p2, .ref o]) (n := 5) (Nat.le_of_ble_eq_true rfl)
  refine W.eq (by rw [hargs, lg_entry_eq]) ?_
  generalize (lg_sl ([.ref (ad 30), .int p1, .int p2, .ref o]) ++ List.replicate (5 - (lg_sl ([.ref (ad 30), .int p1, .int p2, .ref o])).length) Slot.unset).toArray = ls at hl ⊢
  have hl : lv_has ls 5 [(0, .ref (ad 30)), (1, .int p1), (2, .int p2), (3, .ref o)] := hl
  refine lv_aload_n hx hb dL_write_0 rfl (lv_at hl 3 rfl) ?_
  refine lv_iconst (v := nI 0) hx hb dL_write_1 (by decide) ?_
  refine lv_aload_n hx hb dL_write_2 rfl (lv_at hl 0 rfl) ?_
  refine lv_iload_n hx hb dL_write_3 rfl (lv_at hl 1 rfl) ?_
  refine lv_iload_n hx hb dL_write_4 rfl (lv_at hl 2 rfl) ?_
  have hPo := P_right hP
  refine vx_calli (rnxV (A := LA ad o) (As := [.int p1, .int p2]) (rest := [.int (nI 0), .ref o]) ⟨hx, hb, hml, hown, hts⟩ (c_X6_write hfl hO.1 hf) (cwV 2 hts gL_write_X6_write rfl rfl rfl cdV_X6_write ⟨(Nat.le_of_ble_eq_true rfl), (Nat.le_of_ble_eq_true rfl)⟩) (P_left hP) hK hN hZ (fun _ h => Or.inl h) hS (cw_o30 (S := S)) rfl rfl hl.1 rfl (Nat.le_of_ble_eq_true rfl) dL_write_5 ⟨(Nat.le_of_ble_eq_true rfl), (Nat.le_of_ble_eq_true rfl)⟩) hS (fun _ _ h => Or.inl h) (fun _ h => Or.inl h) (fun _ _ h => Or.inl h) ?_ ?_
  · intro E ce q9 u t H1 locs1 ht _ _ hB _ hk hS hce hcv hcl
    obtain ⟨⟨e1, h1, h2⟩, h3⟩ := hB
    rw [ht] at h3
    have hP : va_P D vwCl (cw cyI ad S ++ [oc cyJ o f]) H1 := va_P.app h3 (P_kept hPo hk (fun k q hq => by
      match k, hq with
      | 0, hq => cases hq; exact o_nCA hO
      | k + 1, hq => simp at hq))
    have hex := hE e1 h1
    rcases hex with rfl | rfl
    · have h2 : E = "java/lang/IndexOutOfBoundsException" := h2
      subst h2
      refine vx_catch (E := "java/lang/IndexOutOfBoundsException") hown ([] : List ExceptionTableEntry) ⟨0, 10, 13, 13⟩ [⟨0, 10, 17, 15⟩] (by rw [hexc]; rfl) (fun z hz => absurd hz List.not_mem_nil) rfl (by decide) (hts (.classLink RL 13 "java/lang/IndexOutOfBoundsException") (by decide +kernel)) (va_Nw.use rfl hZ.2.2.1.2.2.2.1) hce hcv hcl ?_
      refine lv_astore (lv' := [(4, .ref q9), (0, .ref (ad 30)), (1, .int p1), (2, .int p2), (3, .ref o)]) hx hb dL_write_13 hl (by decide) rfl (fun ls hl => ?_)
      refine lv_iconst (v := nI 1) hx hb dL_write_15 (by decide) ?_
      exact finw hx hb hr hlk hS hP (u := (S, f)) (by rw [h1]; exact ⟨rfl, rfl⟩) dL_write_16 (Nat.le_of_ble_eq_true rfl) (Nat.le_of_ble_eq_true rfl)
    · have h2 : E = "java/lang/IllegalArgumentException" := h2
      subst h2
      refine vx_catch (E := "java/lang/IllegalArgumentException") hown ([⟨0, 10, 13, 13⟩] : List ExceptionTableEntry) ⟨0, 10, 17, 15⟩ [] (by rw [hexc]; rfl) (fun z hz => by rw [List.mem_singleton.mp hz]; exact Or.inr ⟨by decide, "java/lang/IndexOutOfBoundsException", hts (.classLink RL 13 "java/lang/IndexOutOfBoundsException") (by decide +kernel), hC.1⟩) rfl (by decide) (hts (.classLink RL 15 "java/lang/IllegalArgumentException") (by decide +kernel)) (va_Nw.use rfl hZ.2.2.1.2.2.2.2.1) hce hcv hcl ?_
      refine lv_astore (lv' := [(4, .ref q9), (0, .ref (ad 30)), (1, .int p1), (2, .int p2), (3, .ref o)]) hx hb dL_write_17 hl (by decide) rfl (fun ls hl => ?_)
      refine lv_iconst (v := nI 2) hx hb dL_write_19 (by decide) ?_
      exact finw hx hb hr hlk hS hP (u := (S, f)) (by rw [h1]; exact ⟨rfl, rfl⟩) dL_write_20 (Nat.le_of_ble_eq_true rfl) (Nat.le_of_ble_eq_true rfl)
  · intro r9 u9 t H1 locs1 ht _ hres hB _ hk hS
    have hB : va_P D vwCl (cw cyI ad u9) t.heap := hB
    rw [ht] at hB
    have hP : va_P D vwCl (cw cyI ad u9 ++ [oc cyJ o f]) H1 := va_P.app hB (P_kept hPo hk (fun k q hq => by
      match k, hq with
      | 0, hq => cases hq; exact o_nCA hO
      | k + 1, hq => simp at hq))
    have hres : res = .inr (r9, u9) := hres
    refine lv_i2l hx hb dL_write_8 rfl ?_
    refine va_last hx hb hK hP (LW_D hO) hS 31 1 (f := f) rfl rfl (vp_in_nI (by decide) (by decide)) dL_write_9 (fun H locs hP _ hS => ?_)
    have hP : va_P D vwCl (cw cyI ad u9 ++ [oc cyJ o (vp_updL f 0 (Int32.toInt64 r9))]) H := hP
    refine lv_goto (tgt := 21) hx hb dL_write_10 (by decide) ?_
    refine lv_iconst (v := nI 0) hx hb dL_write_21 (by decide) ?_
    exact finw hx hb hr hlk hS hP (u := (u9, vp_updL f 0 (Int32.toInt64 r9))) (by rw [hres]; exact ⟨rfl, rfl, (if_pos rfl : vp_updL f 0 (Int32.toInt64 r9) 0 = Int32.toInt64 r9)⟩) dL_write_22 (Nat.le_of_ble_eq_true rfl) (Nat.le_of_ble_eq_true rfl)

def rl_L_rule : Room := { frames := 8, cells := 2, slots := 12, locals := 128 }
theorem cdS_L_rule : yL_rule.cls ≠ "java/lang/invoke/MethodHandle" ∧ yL_rule.cls ≠ "java/lang/invoke/VarHandle" ∧ (parseMethodDescriptor yL_rule.desc).map (fun d => d.parameters.length) = some 7 := by decide +kernel
set_option maxHeartbeats 4000000 in
set_option maxRecDepth 100000 in
theorem c_L_rule {l : Launch} {D : va_G} {cyI cyJ cyZ : ClassId} {ad : Nat → Nat} {o : Nat} (hfl : l.stackTraces = false) (hO : AdO ad o) {S : St} {f : Nat → Int64} {p1 : Int32} {p2 : Int32} {p3 : Int32} {p4 : Int32} {p5 : Int32} {res : Sum Nat (Int32 × St)} (hf : m_X6_rule S p1 p2 p3 p4 p5 = some res) (hE : ∀ e, res = .inl e → ex12 e) : Met l yL_rule wsL_rule rl_L_rule (PreL D [(cyI, .int), (cyJ, .long), (cyZ, .boolean)] (cw cyI ad S ++ [oc cyJ o f]) (LA ad o) [.ref (ad 30), .int p1, .int p2, .int p3, .int p4, .int p5, .ref o]) (PoW D cyI cyJ ad o tb12 cvZ S res) 2 12 (LA ad o) := by
  refine ofWH (cc := cL_rule) (maxL := 8) (ret := (some .int)) (hh := [(0, 23, 26, 13), (0, 23, 30, 15)]) (by decide) rfl ?_
  intro p e s m args below meth c s₁ B hml hexc hv
  obtain ⟨hargs, hP, hK, hN, hZ, hC⟩ := hv
  have hx := B.exec
  have hb := B.bytes
  have hr := B.returns
  have hts := atoms_spec (ws := wsL_rule) B.pre
  have hown : s.vm.findClass RL = some m.cls := findClass_of_methodNamed B.named
  have hlk := B.notSynchronized
  have hS : va_S (LA ad o) s.heap s.heap [] := va_S.rf
  have hl := lv_entry ([.ref (ad 30), .int p1, .int p2, .int p3, .int p4, .int p5, .ref o]) (n := 8) (Nat.le_of_ble_eq_true rfl)
  refine W.eq (by rw [hargs, lg_entry_eq]) ?_
  generalize (lg_sl ([.ref (ad 30), .int p1, .int p2, .int p3, .int p4, .int p5, .ref o]) ++ List.replicate (8 - (lg_sl ([.ref (ad 30), .int p1, .int p2, .int p3, .int p4, .int p5, .ref o])).length) Slot.unset).toArray = ls at hl ⊢
  have hl : lv_has ls 8 [(0, .ref (ad 30)), (1, .int p1), (2, .int p2), (3, .int p3), (4, .int p4), (5, .int p5), (6, .ref o)] := hl
  refine lv_aload hx hb dL_rule_0 (lv_at hl 6 rfl) ?_
  refine lv_iconst (v := nI 0) hx hb dL_rule_2 (by decide) ?_
  refine lv_aload_n hx hb dL_rule_3 rfl (lv_at hl 0 rfl) ?_
  refine lv_iload_n hx hb dL_rule_4 rfl (lv_at hl 1 rfl) ?_
  refine lv_iload_n hx hb dL_rule_5 rfl (lv_at hl 2 rfl) ?_
  refine lv_iload_n hx hb dL_rule_6 rfl (lv_at hl 3 rfl) ?_
  refine lv_iload hx hb dL_rule_7 (lv_at hl 4 rfl) ?_
  refine lv_iload hx hb dL_rule_9 (lv_at hl 5 rfl) ?_
  have hPo := P_right hP
  refine vx_calli (rnxV (A := LA ad o) (As := [.int p1, .int p2, .int p3, .int p4, .int p5]) (rest := [.int (nI 0), .ref o]) ⟨hx, hb, hml, hown, hts⟩ (c_X6_rule hfl hO.1 hf) (cwV 5 hts gL_rule_X6_rule rfl rfl rfl cdV_X6_rule ⟨(Nat.le_of_ble_eq_true rfl), (Nat.le_of_ble_eq_true rfl)⟩) (P_left hP) hK hN hZ (fun _ h => Or.inl h) hS (cw_o30 (S := S)) rfl rfl hl.1 rfl (Nat.le_of_ble_eq_true rfl) dL_rule_11 ⟨(Nat.le_of_ble_eq_true rfl), (Nat.le_of_ble_eq_true rfl)⟩) hS (fun _ _ h => Or.inl h) (fun _ h => Or.inl h) (fun _ _ h => Or.inl h) ?_ ?_
  · intro E ce q9 u t H1 locs1 ht _ _ hB _ hk hS hce hcv hcl
    obtain ⟨⟨e1, h1, h2⟩, h3⟩ := hB
    rw [ht] at h3
    have hP : va_P D vwCl (cw cyI ad S ++ [oc cyJ o f]) H1 := va_P.app h3 (P_kept hPo hk (fun k q hq => by
      match k, hq with
      | 0, hq => cases hq; exact o_nCA hO
      | k + 1, hq => simp at hq))
    have hex := hE e1 h1
    rcases hex with rfl | rfl
    · have h2 : E = "java/lang/IndexOutOfBoundsException" := h2
      subst h2
      refine vx_catch (E := "java/lang/IndexOutOfBoundsException") hown ([] : List ExceptionTableEntry) ⟨0, 23, 26, 13⟩ [⟨0, 23, 30, 15⟩] (by rw [hexc]; rfl) (fun z hz => absurd hz List.not_mem_nil) rfl (by decide) (hts (.classLink RL 13 "java/lang/IndexOutOfBoundsException") (by decide +kernel)) (va_Nw.use rfl hZ.2.2.1.2.2.2.1) hce hcv hcl ?_
      refine lv_astore (lv' := [(7, .ref q9), (0, .ref (ad 30)), (1, .int p1), (2, .int p2), (3, .int p3), (4, .int p4), (5, .int p5), (6, .ref o)]) hx hb dL_rule_26 hl (by decide) rfl (fun ls hl => ?_)
      refine lv_iconst (v := nI 1) hx hb dL_rule_28 (by decide) ?_
      exact finw hx hb hr hlk hS hP (u := (S, f)) (by rw [h1]; exact ⟨rfl, rfl⟩) dL_rule_29 (Nat.le_of_ble_eq_true rfl) (Nat.le_of_ble_eq_true rfl)
    · have h2 : E = "java/lang/IllegalArgumentException" := h2
      subst h2
      refine vx_catch (E := "java/lang/IllegalArgumentException") hown ([⟨0, 23, 26, 13⟩] : List ExceptionTableEntry) ⟨0, 23, 30, 15⟩ [] (by rw [hexc]; rfl) (fun z hz => by rw [List.mem_singleton.mp hz]; exact Or.inr ⟨by decide, "java/lang/IndexOutOfBoundsException", hts (.classLink RL 13 "java/lang/IndexOutOfBoundsException") (by decide +kernel), hC.1⟩) rfl (by decide) (hts (.classLink RL 15 "java/lang/IllegalArgumentException") (by decide +kernel)) (va_Nw.use rfl hZ.2.2.1.2.2.2.2.1) hce hcv hcl ?_
      refine lv_astore (lv' := [(7, .ref q9), (0, .ref (ad 30)), (1, .int p1), (2, .int p2), (3, .int p3), (4, .int p4), (5, .int p5), (6, .ref o)]) hx hb dL_rule_30 hl (by decide) rfl (fun ls hl => ?_)
      refine lv_iconst (v := nI 2) hx hb dL_rule_32 (by decide) ?_
      exact finw hx hb hr hlk hS hP (u := (S, f)) (by rw [h1]; exact ⟨rfl, rfl⟩) dL_rule_33 (Nat.le_of_ble_eq_true rfl) (Nat.le_of_ble_eq_true rfl)
  · intro r9 u9 t H1 locs1 ht _ hres hB _ hk hS
    have hB : va_P D vwCl (cw cyI ad u9) t.heap := hB
    rw [ht] at hB
    have hP : va_P D vwCl (cw cyI ad u9 ++ [oc cyJ o f]) H1 := va_P.app hB (P_kept hPo hk (fun k q hq => by
      match k, hq with
      | 0, hq => cases hq; exact o_nCA hO
      | k + 1, hq => simp at hq))
    have hres : res = .inr (r9, u9) := hres
    refine lv_if_eq (tgt := 21) hx hb dL_rule_14 (by decide) (fun hc => ?_) (fun hc => ?_)
    · refine lv_lconst (v := 0) hx hb dL_rule_21 rfl ?_
      refine va_last hx hb hK hP (LW_D hO) hS 31 1 (f := f) rfl rfl (vp_in_nI (by decide) (by decide)) dL_rule_22 (fun H locs hP _ hS => ?_)
      have hP : va_P D vwCl (cw cyI ad u9 ++ [oc cyJ o (vp_updL f 0 (0 : Int64))]) H := hP
      refine lv_goto (tgt := 34) hx hb dL_rule_23 (by decide) ?_
      refine lv_iconst (v := nI 0) hx hb dL_rule_34 (by decide) ?_
      exact finw hx hb hr hlk hS hP (u := (u9, vp_updL f 0 0)) (by rw [hres]; exact ⟨rfl, rfl, (if_pos rfl : vp_updL f 0 0 0 = 0).trans (if_pos hc).symm⟩) dL_rule_35 (Nat.le_of_ble_eq_true rfl) (Nat.le_of_ble_eq_true rfl)
    · refine lv_lconst (v := 1) hx hb dL_rule_17 rfl ?_
      refine lv_goto (tgt := 22) hx hb dL_rule_18 (by decide) ?_
      refine va_last hx hb hK hP (LW_D hO) hS 31 1 (f := f) rfl rfl (vp_in_nI (by decide) (by decide)) dL_rule_22 (fun H locs hP _ hS => ?_)
      have hP : va_P D vwCl (cw cyI ad u9 ++ [oc cyJ o (vp_updL f 0 (1 : Int64))]) H := hP
      refine lv_goto (tgt := 34) hx hb dL_rule_23 (by decide) ?_
      refine lv_iconst (v := nI 0) hx hb dL_rule_34 (by decide) ?_
      exact finw hx hb hr hlk hS hP (u := (u9, vp_updL f 0 1)) (by rw [hres]; exact ⟨rfl, rfl, (if_pos rfl : vp_updL f 0 1 0 = 1).trans (if_neg hc).symm⟩) dL_rule_35 (Nat.le_of_ble_eq_true rfl) (Nat.le_of_ble_eq_true rfl)

def rl_L_input : Room := { frames := 8, cells := 2, slots := 12, locals := 127 }
theorem cdS_L_input : yL_input.cls ≠ "java/lang/invoke/MethodHandle" ∧ yL_input.cls ≠ "java/lang/invoke/VarHandle" ∧ (parseMethodDescriptor yL_input.desc).map (fun d => d.parameters.length) = some 5 := by decide +kernel
set_option maxHeartbeats 4000000 in
set_option maxRecDepth 100000 in
theorem c_L_input {l : Launch} {D : va_G} {cyI cyJ cyZ : ClassId} {ad : Nat → Nat} {o : Nat} (hfl : l.stackTraces = false) (hO : AdO ad o) {S : St} {f : Nat → Int64} {p1 : Int32} {p2 : Int32} {p3 : Int32} {res : Sum Nat (Int32 × St)} (hf : m_X6_input S p1 p2 p3 = some res) (hE : ∀ e, res = .inl e → ex123 e) : Met l yL_input wsL_input rl_L_input (PreL D [(cyI, .int), (cyJ, .long), (cyZ, .boolean)] (cw cyI ad S ++ [oc cyJ o f]) (LA ad o) [.ref (ad 30), .int p1, .int p2, .int p3, .ref o]) (PoW D cyI cyJ ad o tb12 cvI S res) 2 12 (LA ad o) := by
  refine ofWH (cc := cL_input) (maxL := 6) (ret := (some .int)) (hh := [(0, 12, 15, 13), (0, 12, 19, 15), (0, 12, 23, 25)]) (by decide) rfl ?_
  intro p e s m args below meth c s₁ B hml hexc hv
  obtain ⟨hargs, hP, hK, hN, hZ, hC⟩ := hv
  have hx := B.exec
  have hb := B.bytes
  have hr := B.returns
  have hts := atoms_spec (ws := wsL_input) B.pre
  have hown : s.vm.findClass RL = some m.cls := findClass_of_methodNamed B.named
  have hlk := B.notSynchronized
  have hS : va_S (LA ad o) s.heap s.heap [] := va_S.rf
  have hl := lv_entry ([.ref (ad 30), .int p1, .int p2, .int p3, .ref o]) (n := 6) (Nat.le_of_ble_eq_true rfl)
  refine W.eq (by rw [hargs, lg_entry_eq]) ?_
  generalize (lg_sl ([.ref (ad 30), .int p1, .int p2, .int p3, .ref o]) ++ List.replicate (6 - (lg_sl ([.ref (ad 30), .int p1, .int p2, .int p3, .ref o])).length) Slot.unset).toArray = ls at hl ⊢
  have hl : lv_has ls 6 [(0, .ref (ad 30)), (1, .int p1), (2, .int p2), (3, .int p3), (4, .ref o)] := hl
  refine lv_aload hx hb dL_input_0 (lv_at hl 4 rfl) ?_
  refine lv_iconst (v := nI 0) hx hb dL_input_2 (by decide) ?_
  refine lv_aload_n hx hb dL_input_3 rfl (lv_at hl 0 rfl) ?_
  refine lv_iload_n hx hb dL_input_4 rfl (lv_at hl 1 rfl) ?_
  refine lv_iload_n hx hb dL_input_5 rfl (lv_at hl 2 rfl) ?_
  refine lv_iload_n hx hb dL_input_6 rfl (lv_at hl 3 rfl) ?_
  have hPo := P_right hP
  refine vx_calli (rnxV (A := LA ad o) (As := [.int p1, .int p2, .int p3]) (rest := [.int (nI 0), .ref o]) ⟨hx, hb, hml, hown, hts⟩ (c_X6_input hfl hO.1 hf) (cwV 3 hts gL_input_X6_input rfl rfl rfl cdV_X6_input ⟨(Nat.le_of_ble_eq_true rfl), (Nat.le_of_ble_eq_true rfl)⟩) (P_left hP) hK hN hZ (fun _ h => Or.inl h) hS (cw_o30 (S := S)) rfl rfl hl.1 rfl (Nat.le_of_ble_eq_true rfl) dL_input_7 ⟨(Nat.le_of_ble_eq_true rfl), (Nat.le_of_ble_eq_true rfl)⟩) hS (fun _ _ h => Or.inl h) (fun _ h => Or.inl h) (fun _ _ h => Or.inl h) ?_ ?_
  · intro E ce q9 u t H1 locs1 ht _ _ hB _ hk hS hce hcv hcl
    obtain ⟨⟨e1, h1, h2⟩, h3⟩ := hB
    rw [ht] at h3
    have hP : va_P D vwCl (cw cyI ad S ++ [oc cyJ o f]) H1 := va_P.app h3 (P_kept hPo hk (fun k q hq => by
      match k, hq with
      | 0, hq => cases hq; exact o_nCA hO
      | k + 1, hq => simp at hq))
    have hex := hE e1 h1
    rcases hex with rfl | rfl | rfl
    · have h2 : E = "java/lang/IndexOutOfBoundsException" := h2
      subst h2
      refine vx_catch (E := "java/lang/IndexOutOfBoundsException") hown ([] : List ExceptionTableEntry) ⟨0, 12, 15, 13⟩ [⟨0, 12, 19, 15⟩, ⟨0, 12, 23, 25⟩] (by rw [hexc]; rfl) (fun z hz => absurd hz List.not_mem_nil) rfl (by decide) (hts (.classLink RL 13 "java/lang/IndexOutOfBoundsException") (by decide +kernel)) (va_Nw.use rfl hZ.2.2.1.2.2.2.1) hce hcv hcl ?_
      refine lv_astore (lv' := [(5, .ref q9), (0, .ref (ad 30)), (1, .int p1), (2, .int p2), (3, .int p3), (4, .ref o)]) hx hb dL_input_15 hl (by decide) rfl (fun ls hl => ?_)
      refine lv_iconst (v := nI 1) hx hb dL_input_17 (by decide) ?_
      exact finw hx hb hr hlk hS hP (u := (S, f)) (by rw [h1]; exact ⟨rfl, rfl⟩) dL_input_18 (Nat.le_of_ble_eq_true rfl) (Nat.le_of_ble_eq_true rfl)
    · have h2 : E = "java/lang/IllegalArgumentException" := h2
      subst h2
      refine vx_catch (E := "java/lang/IllegalArgumentException") hown ([⟨0, 12, 15, 13⟩] : List ExceptionTableEntry) ⟨0, 12, 19, 15⟩ [⟨0, 12, 23, 25⟩] (by rw [hexc]; rfl) (fun z hz => by rw [List.mem_singleton.mp hz]; exact Or.inr ⟨by decide, "java/lang/IndexOutOfBoundsException", hts (.classLink RL 13 "java/lang/IndexOutOfBoundsException") (by decide +kernel), hC.1⟩) rfl (by decide) (hts (.classLink RL 15 "java/lang/IllegalArgumentException") (by decide +kernel)) (va_Nw.use rfl hZ.2.2.1.2.2.2.2.1) hce hcv hcl ?_
      refine lv_astore (lv' := [(5, .ref q9), (0, .ref (ad 30)), (1, .int p1), (2, .int p2), (3, .int p3), (4, .ref o)]) hx hb dL_input_19 hl (by decide) rfl (fun ls hl => ?_)
      refine lv_iconst (v := nI 2) hx hb dL_input_21 (by decide) ?_
      exact finw hx hb hr hlk hS hP (u := (S, f)) (by rw [h1]; exact ⟨rfl, rfl⟩) dL_input_22 (Nat.le_of_ble_eq_true rfl) (Nat.le_of_ble_eq_true rfl)
    · have h2 : E = "java/lang/IllegalStateException" := h2
      subst h2
      refine vx_catch (E := "java/lang/IllegalStateException") hown ([⟨0, 12, 15, 13⟩, ⟨0, 12, 19, 15⟩] : List ExceptionTableEntry) ⟨0, 12, 23, 25⟩ [] (by rw [hexc]; rfl) (fun z hz => (List.mem_cons.mp hz).elim (fun q => by rw [q]; exact Or.inr ⟨by decide, "java/lang/IndexOutOfBoundsException", hts (.classLink RL 13 "java/lang/IndexOutOfBoundsException") (by decide +kernel), hC.2.1⟩) (fun hz => by rw [List.mem_singleton.mp hz]; exact Or.inr ⟨by decide, "java/lang/IllegalArgumentException", hts (.classLink RL 15 "java/lang/IllegalArgumentException") (by decide +kernel), hC.2.2⟩)) rfl (by decide) (hts (.classLink RL 25 "java/lang/IllegalStateException") (by decide +kernel)) (va_Nw.use rfl hZ.2.2.1.2.2.2.2.2) hce hcv hcl ?_
      refine lv_astore (lv' := [(5, .ref q9), (0, .ref (ad 30)), (1, .int p1), (2, .int p2), (3, .int p3), (4, .ref o)]) hx hb dL_input_23 hl (by decide) rfl (fun ls hl => ?_)
      refine lv_iconst (v := nI 3) hx hb dL_input_25 (by decide) ?_
      exact finw hx hb hr hlk hS hP (u := (S, f)) (by rw [h1]; exact ⟨rfl, rfl⟩) dL_input_26 (Nat.le_of_ble_eq_true rfl) (Nat.le_of_ble_eq_true rfl)
  · intro r9 u9 t H1 locs1 ht _ hres hB _ hk hS
    have hB : va_P D vwCl (cw cyI ad u9) t.heap := hB
    rw [ht] at hB
    have hP : va_P D vwCl (cw cyI ad u9 ++ [oc cyJ o f]) H1 := va_P.app hB (P_kept hPo hk (fun k q hq => by
      match k, hq with
      | 0, hq => cases hq; exact o_nCA hO
      | k + 1, hq => simp at hq))
    have hres : res = .inr (r9, u9) := hres
    refine lv_i2l hx hb dL_input_10 rfl ?_
    refine va_last hx hb hK hP (LW_D hO) hS 31 1 (f := f) rfl rfl (vp_in_nI (by decide) (by decide)) dL_input_11 (fun H locs hP _ hS => ?_)
    have hP : va_P D vwCl (cw cyI ad u9 ++ [oc cyJ o (vp_updL f 0 (Int32.toInt64 r9))]) H := hP
    refine lv_goto (tgt := 27) hx hb dL_input_12 (by decide) ?_
    refine lv_iconst (v := nI 0) hx hb dL_input_27 (by decide) ?_
    exact finw hx hb hr hlk hS hP (u := (u9, vp_updL f 0 (Int32.toInt64 r9))) (by rw [hres]; exact ⟨rfl, rfl, (if_pos rfl : vp_updL f 0 (Int32.toInt64 r9) 0 = Int32.toInt64 r9)⟩) dL_input_28 (Nat.le_of_ble_eq_true rfl) (Nat.le_of_ble_eq_true rfl)

def rl_L_fails : Room := { frames := 8, cells := 2, slots := 12, locals := 124 }
theorem cdS_L_fails : yL_fails.cls ≠ "java/lang/invoke/MethodHandle" ∧ yL_fails.cls ≠ "java/lang/invoke/VarHandle" ∧ (parseMethodDescriptor yL_fails.desc).map (fun d => d.parameters.length) = some 4 := by decide +kernel
set_option maxHeartbeats 4000000 in
set_option maxRecDepth 100000 in
theorem c_L_fails {l : Launch} {D : va_G} {cyI cyJ cyZ : ClassId} {ad : Nat → Nat} {o : Nat} (hfl : l.stackTraces = false) (hO : AdO ad o) {S : St} {f : Nat → Int64} {p1 : Int32} {p2 : Int32} {res : Sum Nat (Int32 × St)} (hf : m_X6_fails S p1 p2 = some res) (hE : ∀ e, res = .inl e → ex12 e) : Met l yL_fails wsL_fails rl_L_fails (PreL D [(cyI, .int), (cyJ, .long), (cyZ, .boolean)] (cw cyI ad S ++ [oc cyJ o f]) (LA ad o) [.ref (ad 30), .int p1, .int p2, .ref o]) (PoW D cyI cyJ ad o tb12 cvI S res) 2 12 (LA ad o) := by
  refine ofWH (cc := cL_fails) (maxL := 5) (ret := (some .int)) (hh := [(0, 10, 13, 13), (0, 10, 17, 15)]) (by decide) rfl ?_
  intro p e s m args below meth c s₁ B hml hexc hv
  obtain ⟨hargs, hP, hK, hN, hZ, hC⟩ := hv
  have hx := B.exec
  have hb := B.bytes
  have hr := B.returns
  have hts := atoms_spec (ws := wsL_fails) B.pre
  have hown : s.vm.findClass RL = some m.cls := findClass_of_methodNamed B.named
  have hlk := B.notSynchronized
  have hS : va_S (LA ad o) s.heap s.heap [] := va_S.rf
  have hl := lv_entry ([.ref (ad 30), .int p1, .int p2, .ref o]) (n := 5) (Nat.le_of_ble_eq_true rfl)
  refine W.eq (by rw [hargs, lg_entry_eq]) ?_
  generalize (lg_sl ([.ref (ad 30), .int p1, .int p2, .ref o]) ++ List.replicate (5 - (lg_sl ([.ref (ad 30), .int p1, .int p2, .ref o])).length) Slot.unset).toArray = ls at hl ⊢
  have hl : lv_has ls 5 [(0, .ref (ad 30)), (1, .int p1), (2, .int p2), (3, .ref o)] := hl
  refine lv_aload_n hx hb dL_fails_0 rfl (lv_at hl 3 rfl) ?_
  refine lv_iconst (v := nI 0) hx hb dL_fails_1 (by decide) ?_
  refine lv_aload_n hx hb dL_fails_2 rfl (lv_at hl 0 rfl) ?_
  refine lv_iload_n hx hb dL_fails_3 rfl (lv_at hl 1 rfl) ?_
  refine lv_iload_n hx hb dL_fails_4 rfl (lv_at hl 2 rfl) ?_
  have hPo := P_right hP
  refine vx_calli (rnxV (A := LA ad o) (As := [.int p1, .int p2]) (rest := [.int (nI 0), .ref o]) ⟨hx, hb, hml, hown, hts⟩ (c_X6_fails hfl hO.1 hf) (cwV 2 hts gL_fails_X6_fails rfl rfl rfl cdV_X6_fails ⟨(Nat.le_of_ble_eq_true rfl), (Nat.le_of_ble_eq_true rfl)⟩) (P_left hP) hK hN hZ (fun _ h => Or.inl h) hS (cw_o30 (S := S)) rfl rfl hl.1 rfl (Nat.le_of_ble_eq_true rfl) dL_fails_5 ⟨(Nat.le_of_ble_eq_true rfl), (Nat.le_of_ble_eq_true rfl)⟩) hS (fun _ _ h => Or.inl h) (fun _ h => Or.inl h) (fun _ _ h => Or.inl h) ?_ ?_
  · intro E ce q9 u t H1 locs1 ht _ _ hB _ hk hS hce hcv hcl
    obtain ⟨⟨e1, h1, h2⟩, h3⟩ := hB
    rw [ht] at h3
    have hP : va_P D vwCl (cw cyI ad S ++ [oc cyJ o f]) H1 := va_P.app h3 (P_kept hPo hk (fun k q hq => by
      match k, hq with
      | 0, hq => cases hq; exact o_nCA hO
      | k + 1, hq => simp at hq))
    have hex := hE e1 h1
    rcases hex with rfl | rfl
    · have h2 : E = "java/lang/IndexOutOfBoundsException" := h2
      subst h2
      refine vx_catch (E := "java/lang/IndexOutOfBoundsException") hown ([] : List ExceptionTableEntry) ⟨0, 10, 13, 13⟩ [⟨0, 10, 17, 15⟩] (by rw [hexc]; rfl) (fun z hz => absurd hz List.not_mem_nil) rfl (by decide) (hts (.classLink RL 13 "java/lang/IndexOutOfBoundsException") (by decide +kernel)) (va_Nw.use rfl hZ.2.2.1.2.2.2.1) hce hcv hcl ?_
      refine lv_astore (lv' := [(4, .ref q9), (0, .ref (ad 30)), (1, .int p1), (2, .int p2), (3, .ref o)]) hx hb dL_fails_13 hl (by decide) rfl (fun ls hl => ?_)
      refine lv_iconst (v := nI 1) hx hb dL_fails_15 (by decide) ?_
      exact finw hx hb hr hlk hS hP (u := (S, f)) (by rw [h1]; exact ⟨rfl, rfl⟩) dL_fails_16 (Nat.le_of_ble_eq_true rfl) (Nat.le_of_ble_eq_true rfl)
    · have h2 : E = "java/lang/IllegalArgumentException" := h2
      subst h2
      refine vx_catch (E := "java/lang/IllegalArgumentException") hown ([⟨0, 10, 13, 13⟩] : List ExceptionTableEntry) ⟨0, 10, 17, 15⟩ [] (by rw [hexc]; rfl) (fun z hz => by rw [List.mem_singleton.mp hz]; exact Or.inr ⟨by decide, "java/lang/IndexOutOfBoundsException", hts (.classLink RL 13 "java/lang/IndexOutOfBoundsException") (by decide +kernel), hC.1⟩) rfl (by decide) (hts (.classLink RL 15 "java/lang/IllegalArgumentException") (by decide +kernel)) (va_Nw.use rfl hZ.2.2.1.2.2.2.2.1) hce hcv hcl ?_
      refine lv_astore (lv' := [(4, .ref q9), (0, .ref (ad 30)), (1, .int p1), (2, .int p2), (3, .ref o)]) hx hb dL_fails_17 hl (by decide) rfl (fun ls hl => ?_)
      refine lv_iconst (v := nI 2) hx hb dL_fails_19 (by decide) ?_
      exact finw hx hb hr hlk hS hP (u := (S, f)) (by rw [h1]; exact ⟨rfl, rfl⟩) dL_fails_20 (Nat.le_of_ble_eq_true rfl) (Nat.le_of_ble_eq_true rfl)
  · intro r9 u9 t H1 locs1 ht _ hres hB _ hk hS
    have hB : va_P D vwCl (cw cyI ad u9) t.heap := hB
    rw [ht] at hB
    have hP : va_P D vwCl (cw cyI ad u9 ++ [oc cyJ o f]) H1 := va_P.app hB (P_kept hPo hk (fun k q hq => by
      match k, hq with
      | 0, hq => cases hq; exact o_nCA hO
      | k + 1, hq => simp at hq))
    have hres : res = .inr (r9, u9) := hres
    refine lv_i2l hx hb dL_fails_8 rfl ?_
    refine va_last hx hb hK hP (LW_D hO) hS 31 1 (f := f) rfl rfl (vp_in_nI (by decide) (by decide)) dL_fails_9 (fun H locs hP _ hS => ?_)
    have hP : va_P D vwCl (cw cyI ad u9 ++ [oc cyJ o (vp_updL f 0 (Int32.toInt64 r9))]) H := hP
    refine lv_goto (tgt := 21) hx hb dL_fails_10 (by decide) ?_
    refine lv_iconst (v := nI 0) hx hb dL_fails_21 (by decide) ?_
    exact finw hx hb hr hlk hS hP (u := (u9, vp_updL f 0 (Int32.toInt64 r9))) (by rw [hres]; exact ⟨rfl, rfl, (if_pos rfl : vp_updL f 0 (Int32.toInt64 r9) 0 = Int32.toInt64 r9)⟩) dL_fails_22 (Nat.le_of_ble_eq_true rfl) (Nat.le_of_ble_eq_true rfl)

def rl_L_poison : Room := { frames := 7, cells := 1, slots := 6, locals := 104 }
theorem cdS_L_poison : yL_poison.cls ≠ "java/lang/invoke/MethodHandle" ∧ yL_poison.cls ≠ "java/lang/invoke/VarHandle" ∧ (parseMethodDescriptor yL_poison.desc).map (fun d => d.parameters.length) = some 4 := by decide +kernel
set_option maxHeartbeats 4000000 in
set_option maxRecDepth 100000 in
theorem c_L_poison {l : Launch} {D : va_G} {cyI cyJ cyZ : ClassId} {ad : Nat → Nat} {o : Nat} (hfl : l.stackTraces = false) (hO : AdO ad o) {S : St} {f : Nat → Int64} {p1 : Int32} {p2 : Int32} {res : Sum Nat (Int32 × St)} (hf : m_X6_poison S p1 p2 = some res) (hE : ∀ e, res = .inl e → ex1 e) : Met l yL_poison wsL_poison rl_L_poison (PreL D [(cyI, .int), (cyJ, .long), (cyZ, .boolean)] (cw cyI ad S ++ [oc cyJ o f]) (LA ad o) [.ref (ad 30), .int p1, .int p2, .ref o]) (PoW D cyI cyJ ad o tb12 cvZ S res) 1 6 (LA ad o) := by
  refine ofWH (cc := cL_poison) (maxL := 5) (ret := (some .int)) (hh := [(0, 17, 20, 13)]) (by decide) rfl ?_
  intro p e s m args below meth c s₁ B hml hexc hv
  obtain ⟨hargs, hP, hK, hN, hZ, hC⟩ := hv
  have hx := B.exec
  have hb := B.bytes
  have hr := B.returns
  have hts := atoms_spec (ws := wsL_poison) B.pre
  have hown : s.vm.findClass RL = some m.cls := findClass_of_methodNamed B.named
  have hlk := B.notSynchronized
  have hS : va_S (LA ad o) s.heap s.heap [] := va_S.rf
  have hl := lv_entry ([.ref (ad 30), .int p1, .int p2, .ref o]) (n := 5) (Nat.le_of_ble_eq_true rfl)
  refine W.eq (by rw [hargs, lg_entry_eq]) ?_
  generalize (lg_sl ([.ref (ad 30), .int p1, .int p2, .ref o]) ++ List.replicate (5 - (lg_sl ([.ref (ad 30), .int p1, .int p2, .ref o])).length) Slot.unset).toArray = ls at hl ⊢
  have hl : lv_has ls 5 [(0, .ref (ad 30)), (1, .int p1), (2, .int p2), (3, .ref o)] := hl
  refine lv_aload_n hx hb dL_poison_0 rfl (lv_at hl 3 rfl) ?_
  refine lv_iconst (v := nI 0) hx hb dL_poison_1 (by decide) ?_
  refine lv_aload_n hx hb dL_poison_2 rfl (lv_at hl 0 rfl) ?_
  refine lv_iload_n hx hb dL_poison_3 rfl (lv_at hl 1 rfl) ?_
  refine lv_iload_n hx hb dL_poison_4 rfl (lv_at hl 2 rfl) ?_
  have hPo := P_right hP
  refine vx_calli (rnxV (A := LA ad o) (As := [.int p1, .int p2]) (rest := [.int (nI 0), .ref o]) ⟨hx, hb, hml, hown, hts⟩ (c_X6_poison hfl hO.1 hf) (cwV 2 hts gL_poison_X6_poison rfl rfl rfl cdV_X6_poison ⟨(Nat.le_of_ble_eq_true rfl), (Nat.le_of_ble_eq_true rfl)⟩) (P_left hP) hK hN hZ (fun _ h => Or.inl h) hS (cw_o30 (S := S)) rfl rfl hl.1 rfl (Nat.le_of_ble_eq_true rfl) dL_poison_5 ⟨(Nat.le_of_ble_eq_true rfl), (Nat.le_of_ble_eq_true rfl)⟩) hS (fun _ _ h => Or.inl h) (fun _ h => Or.inl h) (fun _ _ h => Or.inl h) ?_ ?_
  · intro E ce q9 u t H1 locs1 ht _ _ hB _ hk hS hce hcv hcl
    obtain ⟨⟨e1, h1, h2⟩, h3⟩ := hB
    rw [ht] at h3
    have hP : va_P D vwCl (cw cyI ad S ++ [oc cyJ o f]) H1 := va_P.app h3 (P_kept hPo hk (fun k q hq => by
      match k, hq with
      | 0, hq => cases hq; exact o_nCA hO
      | k + 1, hq => simp at hq))
    have hex := hE e1 h1
    have he : e1 = 1 := hex
    subst he
    have h2 : E = "java/lang/IndexOutOfBoundsException" := h2
    subst h2
    refine vx_catch (E := "java/lang/IndexOutOfBoundsException") hown ([] : List ExceptionTableEntry) ⟨0, 17, 20, 13⟩ [] (by rw [hexc]; rfl) (fun z hz => absurd hz List.not_mem_nil) rfl (by decide) (hts (.classLink RL 13 "java/lang/IndexOutOfBoundsException") (by decide +kernel)) (va_Nw.use rfl hZ.2.2.1.2.2.2.1) hce hcv hcl ?_
    refine lv_astore (lv' := [(4, .ref q9), (0, .ref (ad 30)), (1, .int p1), (2, .int p2), (3, .ref o)]) hx hb dL_poison_20 hl (by decide) rfl (fun ls hl => ?_)
    refine lv_iconst (v := nI 1) hx hb dL_poison_22 (by decide) ?_
    exact finw hx hb hr hlk hS hP (u := (S, f)) (by rw [h1]; exact ⟨rfl, rfl⟩) dL_poison_23 (Nat.le_of_ble_eq_true rfl) (Nat.le_of_ble_eq_true rfl)
  · intro r9 u9 t H1 locs1 ht _ hres hB _ hk hS
    have hB : va_P D vwCl (cw cyI ad u9) t.heap := hB
    rw [ht] at hB
    have hP : va_P D vwCl (cw cyI ad u9 ++ [oc cyJ o f]) H1 := va_P.app hB (P_kept hPo hk (fun k q hq => by
      match k, hq with
      | 0, hq => cases hq; exact o_nCA hO
      | k + 1, hq => simp at hq))
    have hres : res = .inr (r9, u9) := hres
    refine lv_if_eq (tgt := 15) hx hb dL_poison_8 (by decide) (fun hc => ?_) (fun hc => ?_)
    · refine lv_lconst (v := 0) hx hb dL_poison_15 rfl ?_
      refine va_last hx hb hK hP (LW_D hO) hS 31 1 (f := f) rfl rfl (vp_in_nI (by decide) (by decide)) dL_poison_16 (fun H locs hP _ hS => ?_)
      have hP : va_P D vwCl (cw cyI ad u9 ++ [oc cyJ o (vp_updL f 0 (0 : Int64))]) H := hP
      refine lv_goto (tgt := 24) hx hb dL_poison_17 (by decide) ?_
      refine lv_iconst (v := nI 0) hx hb dL_poison_24 (by decide) ?_
      exact finw hx hb hr hlk hS hP (u := (u9, vp_updL f 0 0)) (by rw [hres]; exact ⟨rfl, rfl, (if_pos rfl : vp_updL f 0 0 0 = 0).trans (if_pos hc).symm⟩) dL_poison_25 (Nat.le_of_ble_eq_true rfl) (Nat.le_of_ble_eq_true rfl)
    · refine lv_lconst (v := 1) hx hb dL_poison_11 rfl ?_
      refine lv_goto (tgt := 16) hx hb dL_poison_12 (by decide) ?_
      refine va_last hx hb hK hP (LW_D hO) hS 31 1 (f := f) rfl rfl (vp_in_nI (by decide) (by decide)) dL_poison_16 (fun H locs hP _ hS => ?_)
      have hP : va_P D vwCl (cw cyI ad u9 ++ [oc cyJ o (vp_updL f 0 (1 : Int64))]) H := hP
      refine lv_goto (tgt := 24) hx hb dL_poison_17 (by decide) ?_
      refine lv_iconst (v := nI 0) hx hb dL_poison_24 (by decide) ?_
      exact finw hx hb hr hlk hS hP (u := (u9, vp_updL f 0 1)) (by rw [hres]; exact ⟨rfl, rfl, (if_pos rfl : vp_updL f 0 1 0 = 1).trans (if_neg hc).symm⟩) dL_poison_25 (Nat.le_of_ble_eq_true rfl) (Nat.le_of_ble_eq_true rfl)

def rl_L_vanish : Room := { frames := 7, cells := 1, slots := 6, locals := 104 }
theorem cdS_L_vanish : yL_vanish.cls ≠ "java/lang/invoke/MethodHandle" ∧ yL_vanish.cls ≠ "java/lang/invoke/VarHandle" ∧ (parseMethodDescriptor yL_vanish.desc).map (fun d => d.parameters.length) = some 3 := by decide +kernel
set_option maxHeartbeats 4000000 in
set_option maxRecDepth 100000 in
theorem c_L_vanish {l : Launch} {D : va_G} {cyI cyJ cyZ : ClassId} {ad : Nat → Nat} {o : Nat} (hfl : l.stackTraces = false) (hO : AdO ad o) {S : St} {f : Nat → Int64} {p1 : Int32} {res : Sum Nat (Int32 × St)} (hf : m_X6_vanish S p1 = some res) (hE : ∀ e, res = .inl e → ex2 e) : Met l yL_vanish wsL_vanish rl_L_vanish (PreL D [(cyI, .int), (cyJ, .long), (cyZ, .boolean)] (cw cyI ad S ++ [oc cyJ o f]) (LA ad o) [.ref (ad 30), .int p1, .ref o]) (PoW D cyI cyJ ad o tb2 cvI S res) 1 6 (LA ad o) := by
  refine ofWH (cc := cL_vanish) (maxL := 4) (ret := (some .int)) (hh := [(0, 9, 12, 15)]) (by decide) rfl ?_
  intro p e s m args below meth c s₁ B hml hexc hv
  obtain ⟨hargs, hP, hK, hN, hZ, hC⟩ := hv
  have hx := B.exec
  have hb := B.bytes
  have hr := B.returns
  have hts := atoms_spec (ws := wsL_vanish) B.pre
  have hown : s.vm.findClass RL = some m.cls := findClass_of_methodNamed B.named
  have hlk := B.notSynchronized
  have hS : va_S (LA ad o) s.heap s.heap [] := va_S.rf
  have hl := lv_entry ([.ref (ad 30), .int p1, .ref o]) (n := 4) (Nat.le_of_ble_eq_true rfl)
  refine W.eq (by rw [hargs, lg_entry_eq]) ?_
  generalize (lg_sl ([.ref (ad 30), .int p1, .ref o]) ++ List.replicate (4 - (lg_sl ([.ref (ad 30), .int p1, .ref o])).length) Slot.unset).toArray = ls at hl ⊢
  have hl : lv_has ls 4 [(0, .ref (ad 30)), (1, .int p1), (2, .ref o)] := hl
  refine lv_aload_n hx hb dL_vanish_0 rfl (lv_at hl 2 rfl) ?_
  refine lv_iconst (v := nI 0) hx hb dL_vanish_1 (by decide) ?_
  refine lv_aload_n hx hb dL_vanish_2 rfl (lv_at hl 0 rfl) ?_
  refine lv_iload_n hx hb dL_vanish_3 rfl (lv_at hl 1 rfl) ?_
  have hPo := P_right hP
  refine vx_calli (rnxV (A := LA ad o) (As := [.int p1]) (rest := [.int (nI 0), .ref o]) ⟨hx, hb, hml, hown, hts⟩ (c_X6_vanish hfl hO.1 hf) (cwV 1 hts gL_vanish_X6_vanish rfl rfl rfl cdV_X6_vanish ⟨(Nat.le_of_ble_eq_true rfl), (Nat.le_of_ble_eq_true rfl)⟩) (P_left hP) hK hN hZ (fun _ h => Or.inl h) hS (cw_o30 (S := S)) rfl rfl hl.1 rfl (Nat.le_of_ble_eq_true rfl) dL_vanish_4 ⟨(Nat.le_of_ble_eq_true rfl), (Nat.le_of_ble_eq_true rfl)⟩) hS (fun _ _ h => Or.inl h) (fun _ h => Or.inl h) (fun _ _ h => Or.inl h) ?_ ?_
  · intro E ce q9 u t H1 locs1 ht _ _ hB _ hk hS hce hcv hcl
    obtain ⟨⟨e1, h1, h2⟩, h3⟩ := hB
    rw [ht] at h3
    have hP : va_P D vwCl (cw cyI ad S ++ [oc cyJ o f]) H1 := va_P.app h3 (P_kept hPo hk (fun k q hq => by
      match k, hq with
      | 0, hq => cases hq; exact o_nCA hO
      | k + 1, hq => simp at hq))
    have hex := hE e1 h1
    have he : e1 = 2 := hex
    subst he
    have h2 : E = "java/lang/IllegalArgumentException" := h2
    subst h2
    refine vx_catch (E := "java/lang/IllegalArgumentException") hown ([] : List ExceptionTableEntry) ⟨0, 9, 12, 15⟩ [] (by rw [hexc]; rfl) (fun z hz => absurd hz List.not_mem_nil) rfl (by decide) (hts (.classLink RL 15 "java/lang/IllegalArgumentException") (by decide +kernel)) (va_Nw.use rfl hZ.2.2.1.2.2.2.2.1) hce hcv hcl ?_
    refine lv_astore_n (lv' := [(3, .ref q9), (0, .ref (ad 30)), (1, .int p1), (2, .ref o)]) hx hb dL_vanish_12 rfl hl (by decide) rfl (fun ls hl => ?_)
    refine lv_iconst (v := nI 1) hx hb dL_vanish_13 (by decide) ?_
    exact finw hx hb hr hlk hS hP (u := (S, f)) (by rw [h1]; exact ⟨rfl, rfl⟩) dL_vanish_14 (Nat.le_of_ble_eq_true rfl) (Nat.le_of_ble_eq_true rfl)
  · intro r9 u9 t H1 locs1 ht _ hres hB _ hk hS
    have hB : va_P D vwCl (cw cyI ad u9) t.heap := hB
    rw [ht] at hB
    have hP : va_P D vwCl (cw cyI ad u9 ++ [oc cyJ o f]) H1 := va_P.app hB (P_kept hPo hk (fun k q hq => by
      match k, hq with
      | 0, hq => cases hq; exact o_nCA hO
      | k + 1, hq => simp at hq))
    have hres : res = .inr (r9, u9) := hres
    refine lv_i2l hx hb dL_vanish_7 rfl ?_
    refine va_last hx hb hK hP (LW_D hO) hS 31 1 (f := f) rfl rfl (vp_in_nI (by decide) (by decide)) dL_vanish_8 (fun H locs hP _ hS => ?_)
    have hP : va_P D vwCl (cw cyI ad u9 ++ [oc cyJ o (vp_updL f 0 (Int32.toInt64 r9))]) H := hP
    refine lv_goto (tgt := 15) hx hb dL_vanish_9 (by decide) ?_
    refine lv_iconst (v := nI 0) hx hb dL_vanish_15 (by decide) ?_
    exact finw hx hb hr hlk hS hP (u := (u9, vp_updL f 0 (Int32.toInt64 r9))) (by rw [hres]; exact ⟨rfl, rfl, (if_pos rfl : vp_updL f 0 (Int32.toInt64 r9) 0 = Int32.toInt64 r9)⟩) dL_vanish_16 (Nat.le_of_ble_eq_true rfl) (Nat.le_of_ble_eq_true rfl)

def rl_L_build : Room := { frames := 243, cells := 2, slots := 12, locals := 6147 }
theorem cdS_L_build : yL_build.cls ≠ "java/lang/invoke/MethodHandle" ∧ yL_build.cls ≠ "java/lang/invoke/VarHandle" ∧ (parseMethodDescriptor yL_build.desc).map (fun d => d.parameters.length) = some 4 := by decide +kernel
set_option maxHeartbeats 4000000 in
set_option maxRecDepth 100000 in
theorem c_L_build {l : Launch} {D : va_G} {cyI cyJ cyZ : ClassId} {ad : Nat → Nat} {o : Nat} (hfl : l.stackTraces = false) (hO : AdO ad o) {S : St} {f : Nat → Int64} {p1 : Int32} {p2 : Int32} {res : Sum Nat (Int32 × St)} (hf : m_X6_build S p1 p2 = some res) (hE : ∀ e, res = .inl e → ex1 e) : Met l yL_build wsL_build rl_L_build (PreL D [(cyI, .int), (cyJ, .long), (cyZ, .boolean)] (cw cyI ad S ++ [oc cyJ o f]) (LA ad o) [.ref (ad 30), .int p1, .int p2, .ref o]) (PoW D cyI cyJ ad o tb12 cvI S res) 2 12 (LA ad o) := by
  refine ofWH (cc := cL_build) (maxL := 5) (ret := (some .int)) (hh := [(0, 10, 13, 13)]) (by decide) rfl ?_
  intro p e s m args below meth c s₁ B hml hexc hv
  obtain ⟨hargs, hP, hK, hN, hZ, hC⟩ := hv
  have hx := B.exec
  have hb := B.bytes
  have hr := B.returns
  have hts := atoms_spec (ws := wsL_build) B.pre
  have hown : s.vm.findClass RL = some m.cls := findClass_of_methodNamed B.named
  have hlk := B.notSynchronized
  have hS : va_S (LA ad o) s.heap s.heap [] := va_S.rf
  have hl := lv_entry ([.ref (ad 30), .int p1, .int p2, .ref o]) (n := 5) (Nat.le_of_ble_eq_true rfl)
  refine W.eq (by rw [hargs, lg_entry_eq]) ?_
  generalize (lg_sl ([.ref (ad 30), .int p1, .int p2, .ref o]) ++ List.replicate (5 - (lg_sl ([.ref (ad 30), .int p1, .int p2, .ref o])).length) Slot.unset).toArray = ls at hl ⊢
  have hl : lv_has ls 5 [(0, .ref (ad 30)), (1, .int p1), (2, .int p2), (3, .ref o)] := hl
  refine lv_aload_n hx hb dL_build_0 rfl (lv_at hl 3 rfl) ?_
  refine lv_iconst (v := nI 0) hx hb dL_build_1 (by decide) ?_
  refine lv_aload_n hx hb dL_build_2 rfl (lv_at hl 0 rfl) ?_
  refine lv_iload_n hx hb dL_build_3 rfl (lv_at hl 1 rfl) ?_
  refine lv_iload_n hx hb dL_build_4 rfl (lv_at hl 2 rfl) ?_
  have hPo := P_right hP
  refine vx_calli (rnxV (A := LA ad o) (As := [.int p1, .int p2]) (rest := [.int (nI 0), .ref o]) ⟨hx, hb, hml, hown, hts⟩ (c_X6_build hfl hO.1 hf) (cwV 2 hts gL_build_X6_build rfl rfl rfl cdV_X6_build ⟨(Nat.le_of_ble_eq_true rfl), (Nat.le_of_ble_eq_true rfl)⟩) (P_left hP) hK hN hZ (fun _ h => Or.inl h) hS (cw_o30 (S := S)) rfl rfl hl.1 rfl (Nat.le_of_ble_eq_true rfl) dL_build_5 ⟨(Nat.le_of_ble_eq_true rfl), (Nat.le_of_ble_eq_true rfl)⟩) hS (fun _ _ h => Or.inl h) (fun _ h => Or.inl h) (fun _ _ h => Or.inl h) ?_ ?_
  · intro E ce q9 u t H1 locs1 ht _ _ hB _ hk hS hce hcv hcl
    obtain ⟨⟨e1, h1, h2⟩, h3⟩ := hB
    rw [ht] at h3
    have hP : va_P D vwCl (cw cyI ad S ++ [oc cyJ o f]) H1 := va_P.app h3 (P_kept hPo hk (fun k q hq => by
      match k, hq with
      | 0, hq => cases hq; exact o_nCA hO
      | k + 1, hq => simp at hq))
    have hex := hE e1 h1
    have he : e1 = 1 := hex
    subst he
    have h2 : E = "java/lang/IndexOutOfBoundsException" := h2
    subst h2
    refine vx_catch (E := "java/lang/IndexOutOfBoundsException") hown ([] : List ExceptionTableEntry) ⟨0, 10, 13, 13⟩ [] (by rw [hexc]; rfl) (fun z hz => absurd hz List.not_mem_nil) rfl (by decide) (hts (.classLink RL 13 "java/lang/IndexOutOfBoundsException") (by decide +kernel)) (va_Nw.use rfl hZ.2.2.1.2.2.2.1) hce hcv hcl ?_
    refine lv_astore (lv' := [(4, .ref q9), (0, .ref (ad 30)), (1, .int p1), (2, .int p2), (3, .ref o)]) hx hb dL_build_13 hl (by decide) rfl (fun ls hl => ?_)
    refine lv_iconst (v := nI 1) hx hb dL_build_15 (by decide) ?_
    exact finw hx hb hr hlk hS hP (u := (S, f)) (by rw [h1]; exact ⟨rfl, rfl⟩) dL_build_16 (Nat.le_of_ble_eq_true rfl) (Nat.le_of_ble_eq_true rfl)
  · intro r9 u9 t H1 locs1 ht _ hres hB _ hk hS
    have hB : va_P D vwCl (cw cyI ad u9) t.heap := hB
    rw [ht] at hB
    have hP : va_P D vwCl (cw cyI ad u9 ++ [oc cyJ o f]) H1 := va_P.app hB (P_kept hPo hk (fun k q hq => by
      match k, hq with
      | 0, hq => cases hq; exact o_nCA hO
      | k + 1, hq => simp at hq))
    have hres : res = .inr (r9, u9) := hres
    refine lv_i2l hx hb dL_build_8 rfl ?_
    refine va_last hx hb hK hP (LW_D hO) hS 31 1 (f := f) rfl rfl (vp_in_nI (by decide) (by decide)) dL_build_9 (fun H locs hP _ hS => ?_)
    have hP : va_P D vwCl (cw cyI ad u9 ++ [oc cyJ o (vp_updL f 0 (Int32.toInt64 r9))]) H := hP
    refine lv_goto (tgt := 17) hx hb dL_build_10 (by decide) ?_
    refine lv_iconst (v := nI 0) hx hb dL_build_17 (by decide) ?_
    exact finw hx hb hr hlk hS hP (u := (u9, vp_updL f 0 (Int32.toInt64 r9))) (by rw [hres]; exact ⟨rfl, rfl, (if_pos rfl : vp_updL f 0 (Int32.toInt64 r9) 0 = Int32.toInt64 r9)⟩) dL_build_18 (Nat.le_of_ble_eq_true rfl) (Nat.le_of_ble_eq_true rfl)

def rl_L_plain : Room := { frames := 243, cells := 2, slots := 12, locals := 6147 }
theorem cdS_L_plain : yL_plain.cls ≠ "java/lang/invoke/MethodHandle" ∧ yL_plain.cls ≠ "java/lang/invoke/VarHandle" ∧ (parseMethodDescriptor yL_plain.desc).map (fun d => d.parameters.length) = some 4 := by decide +kernel
set_option maxHeartbeats 4000000 in
set_option maxRecDepth 100000 in
theorem c_L_plain {l : Launch} {D : va_G} {cyI cyJ cyZ : ClassId} {ad : Nat → Nat} {o : Nat} (hfl : l.stackTraces = false) (hO : AdO ad o) {S : St} {f : Nat → Int64} {p1 : Int32} {p2 : Int32} {res : Sum Nat (Int32 × St)} (hf : m_X6_plain S p1 p2 = some res) (hE : ∀ e, res = .inl e → ex1 e) : Met l yL_plain wsL_plain rl_L_plain (PreL D [(cyI, .int), (cyJ, .long), (cyZ, .boolean)] (cw cyI ad S ++ [oc cyJ o f]) (LA ad o) [.ref (ad 30), .int p1, .int p2, .ref o]) (PoW D cyI cyJ ad o tb12 cvI S res) 2 12 (LA ad o) := by
  refine ofWH (cc := cL_plain) (maxL := 5) (ret := (some .int)) (hh := [(0, 10, 13, 13)]) (by decide) rfl ?_
  intro p e s m args below meth c s₁ B hml hexc hv
  obtain ⟨hargs, hP, hK, hN, hZ, hC⟩ := hv
  have hx := B.exec
  have hb := B.bytes
  have hr := B.returns
  have hts := atoms_spec (ws := wsL_plain) B.pre
  have hown : s.vm.findClass RL = some m.cls := findClass_of_methodNamed B.named
  have hlk := B.notSynchronized
  have hS : va_S (LA ad o) s.heap s.heap [] := va_S.rf
  have hl := lv_entry ([.ref (ad 30), .int p1, .int p2, .ref o]) (n := 5) (Nat.le_of_ble_eq_true rfl)
  refine W.eq (by rw [hargs, lg_entry_eq]) ?_
  generalize (lg_sl ([.ref (ad 30), .int p1, .int p2, .ref o]) ++ List.replicate (5 - (lg_sl ([.ref (ad 30), .int p1, .int p2, .ref o])).length) Slot.unset).toArray = ls at hl ⊢
  have hl : lv_has ls 5 [(0, .ref (ad 30)), (1, .int p1), (2, .int p2), (3, .ref o)] := hl
  refine lv_aload_n hx hb dL_plain_0 rfl (lv_at hl 3 rfl) ?_
  refine lv_iconst (v := nI 0) hx hb dL_plain_1 (by decide) ?_
  refine lv_aload_n hx hb dL_plain_2 rfl (lv_at hl 0 rfl) ?_
  refine lv_iload_n hx hb dL_plain_3 rfl (lv_at hl 1 rfl) ?_
  refine lv_iload_n hx hb dL_plain_4 rfl (lv_at hl 2 rfl) ?_
  have hPo := P_right hP
  refine vx_calli (rnxV (A := LA ad o) (As := [.int p1, .int p2]) (rest := [.int (nI 0), .ref o]) ⟨hx, hb, hml, hown, hts⟩ (c_X6_plain hfl hO.1 hf) (cwV 2 hts gL_plain_X6_plain rfl rfl rfl cdV_X6_plain ⟨(Nat.le_of_ble_eq_true rfl), (Nat.le_of_ble_eq_true rfl)⟩) (P_left hP) hK hN hZ (fun _ h => Or.inl h) hS (cw_o30 (S := S)) rfl rfl hl.1 rfl (Nat.le_of_ble_eq_true rfl) dL_plain_5 ⟨(Nat.le_of_ble_eq_true rfl), (Nat.le_of_ble_eq_true rfl)⟩) hS (fun _ _ h => Or.inl h) (fun _ h => Or.inl h) (fun _ _ h => Or.inl h) ?_ ?_
  · intro E ce q9 u t H1 locs1 ht _ _ hB _ hk hS hce hcv hcl
    obtain ⟨⟨e1, h1, h2⟩, h3⟩ := hB
    rw [ht] at h3
    have hP : va_P D vwCl (cw cyI ad S ++ [oc cyJ o f]) H1 := va_P.app h3 (P_kept hPo hk (fun k q hq => by
      match k, hq with
      | 0, hq => cases hq; exact o_nCA hO
      | k + 1, hq => simp at hq))
    have hex := hE e1 h1
    have he : e1 = 1 := hex
    subst he
    have h2 : E = "java/lang/IndexOutOfBoundsException" := h2
    subst h2
    refine vx_catch (E := "java/lang/IndexOutOfBoundsException") hown ([] : List ExceptionTableEntry) ⟨0, 10, 13, 13⟩ [] (by rw [hexc]; rfl) (fun z hz => absurd hz List.not_mem_nil) rfl (by decide) (hts (.classLink RL 13 "java/lang/IndexOutOfBoundsException") (by decide +kernel)) (va_Nw.use rfl hZ.2.2.1.2.2.2.1) hce hcv hcl ?_
    refine lv_astore (lv' := [(4, .ref q9), (0, .ref (ad 30)), (1, .int p1), (2, .int p2), (3, .ref o)]) hx hb dL_plain_13 hl (by decide) rfl (fun ls hl => ?_)
    refine lv_iconst (v := nI 1) hx hb dL_plain_15 (by decide) ?_
    exact finw hx hb hr hlk hS hP (u := (S, f)) (by rw [h1]; exact ⟨rfl, rfl⟩) dL_plain_16 (Nat.le_of_ble_eq_true rfl) (Nat.le_of_ble_eq_true rfl)
  · intro r9 u9 t H1 locs1 ht _ hres hB _ hk hS
    have hB : va_P D vwCl (cw cyI ad u9) t.heap := hB
    rw [ht] at hB
    have hP : va_P D vwCl (cw cyI ad u9 ++ [oc cyJ o f]) H1 := va_P.app hB (P_kept hPo hk (fun k q hq => by
      match k, hq with
      | 0, hq => cases hq; exact o_nCA hO
      | k + 1, hq => simp at hq))
    have hres : res = .inr (r9, u9) := hres
    refine lv_i2l hx hb dL_plain_8 rfl ?_
    refine va_last hx hb hK hP (LW_D hO) hS 31 1 (f := f) rfl rfl (vp_in_nI (by decide) (by decide)) dL_plain_9 (fun H locs hP _ hS => ?_)
    have hP : va_P D vwCl (cw cyI ad u9 ++ [oc cyJ o (vp_updL f 0 (Int32.toInt64 r9))]) H := hP
    refine lv_goto (tgt := 17) hx hb dL_plain_10 (by decide) ?_
    refine lv_iconst (v := nI 0) hx hb dL_plain_17 (by decide) ?_
    exact finw hx hb hr hlk hS hP (u := (u9, vp_updL f 0 (Int32.toInt64 r9))) (by rw [hres]; exact ⟨rfl, rfl, (if_pos rfl : vp_updL f 0 (Int32.toInt64 r9) 0 = Int32.toInt64 r9)⟩) dL_plain_18 (Nat.le_of_ble_eq_true rfl) (Nat.le_of_ble_eq_true rfl)

def rl_L_done : Room := { frames := 9, cells := 2, slots := 12, locals := 145 }
theorem cdS_L_done : yL_done.cls ≠ "java/lang/invoke/MethodHandle" ∧ yL_done.cls ≠ "java/lang/invoke/VarHandle" ∧ (parseMethodDescriptor yL_done.desc).map (fun d => d.parameters.length) = some 4 := by decide +kernel
set_option maxHeartbeats 4000000 in
set_option maxRecDepth 100000 in
theorem c_L_done {l : Launch} {D : va_G} {cyI cyJ cyZ : ClassId} {ad : Nat → Nat} {o : Nat} (hfl : l.stackTraces = false) (hO : AdO ad o) {S : St} {f : Nat → Int64} {p1 : Int32} {p2 : Int32} {res : Sum Nat (Int32 × St)} (hf : m_X6_done S p1 p2 = some res) (hE : ∀ e, res = .inl e → ex1 e) : Met l yL_done wsL_done rl_L_done (PreL D [(cyI, .int), (cyJ, .long), (cyZ, .boolean)] (cw cyI ad S ++ [oc cyJ o f]) (LA ad o) [.ref (ad 30), .int p1, .int p2, .ref o]) (PoW D cyI cyJ ad o tb12 cvI S res) 2 12 (LA ad o) := by
  refine ofWH (cc := cL_done) (maxL := 5) (ret := (some .int)) (hh := [(0, 10, 13, 13)]) (by decide) rfl ?_
  intro p e s m args below meth c s₁ B hml hexc hv
  obtain ⟨hargs, hP, hK, hN, hZ, hC⟩ := hv
  have hx := B.exec
  have hb := B.bytes
  have hr := B.returns
  have hts := atoms_spec (ws := wsL_done) B.pre
  have hown : s.vm.findClass RL = some m.cls := findClass_of_methodNamed B.named
  have hlk := B.notSynchronized
  have hS : va_S (LA ad o) s.heap s.heap [] := va_S.rf
  have hl := lv_entry ([.ref (ad 30), .int p1, .int p2, .ref o]) (n := 5) (Nat.le_of_ble_eq_true rfl)
  refine W.eq (by rw [hargs, lg_entry_eq]) ?_
  generalize (lg_sl ([.ref (ad 30), .int p1, .int p2, .ref o]) ++ List.replicate (5 - (lg_sl ([.ref (ad 30), .int p1, .int p2, .ref o])).length) Slot.unset).toArray = ls at hl ⊢
  have hl : lv_has ls 5 [(0, .ref (ad 30)), (1, .int p1), (2, .int p2), (3, .ref o)] := hl
  refine lv_aload_n hx hb dL_done_0 rfl (lv_at hl 3 rfl) ?_
  refine lv_iconst (v := nI 0) hx hb dL_done_1 (by decide) ?_
  refine lv_aload_n hx hb dL_done_2 rfl (lv_at hl 0 rfl) ?_
  refine lv_iload_n hx hb dL_done_3 rfl (lv_at hl 1 rfl) ?_
  refine lv_iload_n hx hb dL_done_4 rfl (lv_at hl 2 rfl) ?_
  have hPo := P_right hP
  refine vx_calli (rnxV (A := LA ad o) (As := [.int p1, .int p2]) (rest := [.int (nI 0), .ref o]) ⟨hx, hb, hml, hown, hts⟩ (c_X6_done hfl hO.1 hf) (cwV 2 hts gL_done_X6_done rfl rfl rfl cdV_X6_done ⟨(Nat.le_of_ble_eq_true rfl), (Nat.le_of_ble_eq_true rfl)⟩) (P_left hP) hK hN hZ (fun _ h => Or.inl h) hS (cw_o30 (S := S)) rfl rfl hl.1 rfl (Nat.le_of_ble_eq_true rfl) dL_done_5 ⟨(Nat.le_of_ble_eq_true rfl), (Nat.le_of_ble_eq_true rfl)⟩) hS (fun _ _ h => Or.inl h) (fun _ h => Or.inl h) (fun _ _ h => Or.inl h) ?_ ?_
  · intro E ce q9 u t H1 locs1 ht _ _ hB _ hk hS hce hcv hcl
    obtain ⟨⟨e1, h1, h2⟩, h3⟩ := hB
    rw [ht] at h3
    have hP : va_P D vwCl (cw cyI ad S ++ [oc cyJ o f]) H1 := va_P.app h3 (P_kept hPo hk (fun k q hq => by
      match k, hq with
      | 0, hq => cases hq; exact o_nCA hO
      | k + 1, hq => simp at hq))
    have hex := hE e1 h1
    have he : e1 = 1 := hex
    subst he
    have h2 : E = "java/lang/IndexOutOfBoundsException" := h2
    subst h2
    refine vx_catch (E := "java/lang/IndexOutOfBoundsException") hown ([] : List ExceptionTableEntry) ⟨0, 10, 13, 13⟩ [] (by rw [hexc]; rfl) (fun z hz => absurd hz List.not_mem_nil) rfl (by decide) (hts (.classLink RL 13 "java/lang/IndexOutOfBoundsException") (by decide +kernel)) (va_Nw.use rfl hZ.2.2.1.2.2.2.1) hce hcv hcl ?_
    refine lv_astore (lv' := [(4, .ref q9), (0, .ref (ad 30)), (1, .int p1), (2, .int p2), (3, .ref o)]) hx hb dL_done_13 hl (by decide) rfl (fun ls hl => ?_)
    refine lv_iconst (v := nI 1) hx hb dL_done_15 (by decide) ?_
    exact finw hx hb hr hlk hS hP (u := (S, f)) (by rw [h1]; exact ⟨rfl, rfl⟩) dL_done_16 (Nat.le_of_ble_eq_true rfl) (Nat.le_of_ble_eq_true rfl)
  · intro r9 u9 t H1 locs1 ht _ hres hB _ hk hS
    have hB : va_P D vwCl (cw cyI ad u9) t.heap := hB
    rw [ht] at hB
    have hP : va_P D vwCl (cw cyI ad u9 ++ [oc cyJ o f]) H1 := va_P.app hB (P_kept hPo hk (fun k q hq => by
      match k, hq with
      | 0, hq => cases hq; exact o_nCA hO
      | k + 1, hq => simp at hq))
    have hres : res = .inr (r9, u9) := hres
    refine lv_i2l hx hb dL_done_8 rfl ?_
    refine va_last hx hb hK hP (LW_D hO) hS 31 1 (f := f) rfl rfl (vp_in_nI (by decide) (by decide)) dL_done_9 (fun H locs hP _ hS => ?_)
    have hP : va_P D vwCl (cw cyI ad u9 ++ [oc cyJ o (vp_updL f 0 (Int32.toInt64 r9))]) H := hP
    refine lv_goto (tgt := 17) hx hb dL_done_10 (by decide) ?_
    refine lv_iconst (v := nI 0) hx hb dL_done_17 (by decide) ?_
    exact finw hx hb hr hlk hS hP (u := (u9, vp_updL f 0 (Int32.toInt64 r9))) (by rw [hres]; exact ⟨rfl, rfl, (if_pos rfl : vp_updL f 0 (Int32.toInt64 r9) 0 = Int32.toInt64 r9)⟩) dL_done_18 (Nat.le_of_ble_eq_true rfl) (Nat.le_of_ble_eq_true rfl)

def rl_L_why : Room := { frames := 9, cells := 2, slots := 12, locals := 145 }
theorem cdS_L_why : yL_why.cls ≠ "java/lang/invoke/MethodHandle" ∧ yL_why.cls ≠ "java/lang/invoke/VarHandle" ∧ (parseMethodDescriptor yL_why.desc).map (fun d => d.parameters.length) = some 4 := by decide +kernel
set_option maxHeartbeats 4000000 in
set_option maxRecDepth 100000 in
theorem c_L_why {l : Launch} {D : va_G} {cyI cyJ cyZ : ClassId} {ad : Nat → Nat} {o : Nat} (hfl : l.stackTraces = false) (hO : AdO ad o) {S : St} {f : Nat → Int64} {p1 : Int32} {p2 : Int32} {res : Sum Nat (Int32 × St)} (hf : m_X6_why S p1 p2 = some res) (hE : ∀ e, res = .inl e → ex1 e) : Met l yL_why wsL_why rl_L_why (PreL D [(cyI, .int), (cyJ, .long), (cyZ, .boolean)] (cw cyI ad S ++ [oc cyJ o f]) (LA ad o) [.ref (ad 30), .int p1, .int p2, .ref o]) (PoW D cyI cyJ ad o tb12 cvI S res) 2 12 (LA ad o) := by
  refine ofWH (cc := cL_why) (maxL := 5) (ret := (some .int)) (hh := [(0, 10, 13, 13)]) (by decide) rfl ?_
  intro p e s m args below meth c s₁ B hml hexc hv
  obtain ⟨hargs, hP, hK, hN, hZ, hC⟩ := hv
  have hx := B.exec
  have hb := B.bytes
  have hr := B.returns
  have hts := atoms_spec (ws := wsL_why) B.pre
  have hown : s.vm.findClass RL = some m.cls := findClass_of_methodNamed B.named
  have hlk := B.notSynchronized
  have hS : va_S (LA ad o) s.heap s.heap [] := va_S.rf
  have hl := lv_entry ([.ref (ad 30), .int p1, .int p2, .ref o]) (n := 5) (Nat.le_of_ble_eq_true rfl)
  refine W.eq (by rw [hargs, lg_entry_eq]) ?_
  generalize (lg_sl ([.ref (ad 30), .int p1, .int p2, .ref o]) ++ List.replicate (5 - (lg_sl ([.ref (ad 30), .int p1, .int p2, .ref o])).length) Slot.unset).toArray = ls at hl ⊢
  have hl : lv_has ls 5 [(0, .ref (ad 30)), (1, .int p1), (2, .int p2), (3, .ref o)] := hl
  refine lv_aload_n hx hb dL_why_0 rfl (lv_at hl 3 rfl) ?_
  refine lv_iconst (v := nI 0) hx hb dL_why_1 (by decide) ?_
  refine lv_aload_n hx hb dL_why_2 rfl (lv_at hl 0 rfl) ?_
  refine lv_iload_n hx hb dL_why_3 rfl (lv_at hl 1 rfl) ?_
  refine lv_iload_n hx hb dL_why_4 rfl (lv_at hl 2 rfl) ?_
  have hPo := P_right hP
  refine vx_calli (rnxV (A := LA ad o) (As := [.int p1, .int p2]) (rest := [.int (nI 0), .ref o]) ⟨hx, hb, hml, hown, hts⟩ (c_X6_why hfl hO.1 hf) (cwV 2 hts gL_why_X6_why rfl rfl rfl cdV_X6_why ⟨(Nat.le_of_ble_eq_true rfl), (Nat.le_of_ble_eq_true rfl)⟩) (P_left hP) hK hN hZ (fun _ h => Or.inl h) hS (cw_o30 (S := S)) rfl rfl hl.1 rfl (Nat.le_of_ble_eq_true rfl) dL_why_5 ⟨(Nat.le_of_ble_eq_true rfl), (Nat.le_of_ble_eq_true rfl)⟩) hS (fun _ _ h => Or.inl h) (fun _ h => Or.inl h) (fun _ _ h => Or.inl h) ?_ ?_
  · intro E ce q9 u t H1 locs1 ht _ _ hB _ hk hS hce hcv hcl
    obtain ⟨⟨e1, h1, h2⟩, h3⟩ := hB
    rw [ht] at h3
    have hP : va_P D vwCl (cw cyI ad S ++ [oc cyJ o f]) H1 := va_P.app h3 (P_kept hPo hk (fun k q hq => by
      match k, hq with
      | 0, hq => cases hq; exact o_nCA hO
      | k + 1, hq => simp at hq))
    have hex := hE e1 h1
    have he : e1 = 1 := hex
    subst he
    have h2 : E = "java/lang/IndexOutOfBoundsException" := h2
    subst h2
    refine vx_catch (E := "java/lang/IndexOutOfBoundsException") hown ([] : List ExceptionTableEntry) ⟨0, 10, 13, 13⟩ [] (by rw [hexc]; rfl) (fun z hz => absurd hz List.not_mem_nil) rfl (by decide) (hts (.classLink RL 13 "java/lang/IndexOutOfBoundsException") (by decide +kernel)) (va_Nw.use rfl hZ.2.2.1.2.2.2.1) hce hcv hcl ?_
    refine lv_astore (lv' := [(4, .ref q9), (0, .ref (ad 30)), (1, .int p1), (2, .int p2), (3, .ref o)]) hx hb dL_why_13 hl (by decide) rfl (fun ls hl => ?_)
    refine lv_iconst (v := nI 1) hx hb dL_why_15 (by decide) ?_
    exact finw hx hb hr hlk hS hP (u := (S, f)) (by rw [h1]; exact ⟨rfl, rfl⟩) dL_why_16 (Nat.le_of_ble_eq_true rfl) (Nat.le_of_ble_eq_true rfl)
  · intro r9 u9 t H1 locs1 ht _ hres hB _ hk hS
    have hB : va_P D vwCl (cw cyI ad u9) t.heap := hB
    rw [ht] at hB
    have hP : va_P D vwCl (cw cyI ad u9 ++ [oc cyJ o f]) H1 := va_P.app hB (P_kept hPo hk (fun k q hq => by
      match k, hq with
      | 0, hq => cases hq; exact o_nCA hO
      | k + 1, hq => simp at hq))
    have hres : res = .inr (r9, u9) := hres
    refine lv_i2l hx hb dL_why_8 rfl ?_
    refine va_last hx hb hK hP (LW_D hO) hS 31 1 (f := f) rfl rfl (vp_in_nI (by decide) (by decide)) dL_why_9 (fun H locs hP _ hS => ?_)
    have hP : va_P D vwCl (cw cyI ad u9 ++ [oc cyJ o (vp_updL f 0 (Int32.toInt64 r9))]) H := hP
    refine lv_goto (tgt := 17) hx hb dL_why_10 (by decide) ?_
    refine lv_iconst (v := nI 0) hx hb dL_why_17 (by decide) ?_
    exact finw hx hb hr hlk hS hP (u := (u9, vp_updL f 0 (Int32.toInt64 r9))) (by rw [hres]; exact ⟨rfl, rfl, (if_pos rfl : vp_updL f 0 (Int32.toInt64 r9) 0 = Int32.toInt64 r9)⟩) dL_why_18 (Nat.le_of_ble_eq_true rfl) (Nat.le_of_ble_eq_true rfl)

def rl_L_counts : Room := { frames := 7, cells := 1, slots := 6, locals := 103 }
theorem cdS_L_counts : yL_counts.cls ≠ "java/lang/invoke/MethodHandle" ∧ yL_counts.cls ≠ "java/lang/invoke/VarHandle" ∧ (parseMethodDescriptor yL_counts.desc).map (fun d => d.parameters.length) = some 3 := by decide +kernel
set_option maxHeartbeats 4000000 in
set_option maxRecDepth 100000 in
theorem c_L_counts {l : Launch} {D : va_G} {cyI cyJ cyZ : ClassId} {ad : Nat → Nat} {o : Nat} (hfl : l.stackTraces = false) (hO : AdO ad o) {S : St} {f : Nat → Int64} {p1 : Int32} {res : Sum Nat (Int32 × St)} (hf : m_X6_counts S p1 = some res) (hE : ∀ e, res = .inl e → ex2 e) : Met l yL_counts wsL_counts rl_L_counts (PreL D [(cyI, .int), (cyJ, .long), (cyZ, .boolean)] (cw cyI ad S ++ [oc cyJ o f]) (LA ad o) [.ref (ad 30), .int p1, .ref o]) (PoW D cyI cyJ ad o tb2 cvI S res) 1 6 (LA ad o) := by
  refine ofWH (cc := cL_counts) (maxL := 4) (ret := (some .int)) (hh := [(0, 9, 12, 15)]) (by decide) rfl ?_
  intro p e s m args below meth c s₁ B hml hexc hv
  obtain ⟨hargs, hP, hK, hN, hZ, hC⟩ := hv
  have hx := B.exec
  have hb := B.bytes
  have hr := B.returns
  have hts := atoms_spec (ws := wsL_counts) B.pre
  have hown : s.vm.findClass RL = some m.cls := findClass_of_methodNamed B.named
  have hlk := B.notSynchronized
  have hS : va_S (LA ad o) s.heap s.heap [] := va_S.rf
  have hl := lv_entry ([.ref (ad 30), .int p1, .ref o]) (n := 4) (Nat.le_of_ble_eq_true rfl)
  refine W.eq (by rw [hargs, lg_entry_eq]) ?_
  generalize (lg_sl ([.ref (ad 30), .int p1, .ref o]) ++ List.replicate (4 - (lg_sl ([.ref (ad 30), .int p1, .ref o])).length) Slot.unset).toArray = ls at hl ⊢
  have hl : lv_has ls 4 [(0, .ref (ad 30)), (1, .int p1), (2, .ref o)] := hl
  refine lv_aload_n hx hb dL_counts_0 rfl (lv_at hl 2 rfl) ?_
  refine lv_iconst (v := nI 0) hx hb dL_counts_1 (by decide) ?_
  refine lv_aload_n hx hb dL_counts_2 rfl (lv_at hl 0 rfl) ?_
  refine lv_iload_n hx hb dL_counts_3 rfl (lv_at hl 1 rfl) ?_
  have hPo := P_right hP
  refine vx_calli (rnxV (A := LA ad o) (As := [.int p1]) (rest := [.int (nI 0), .ref o]) ⟨hx, hb, hml, hown, hts⟩ (c_X6_counts hfl hO.1 hf) (cwV 1 hts gL_counts_X6_counts rfl rfl rfl cdV_X6_counts ⟨(Nat.le_of_ble_eq_true rfl), (Nat.le_of_ble_eq_true rfl)⟩) (P_left hP) hK hN hZ (fun _ h => Or.inl h) hS (cw_o30 (S := S)) rfl rfl hl.1 rfl (Nat.le_of_ble_eq_true rfl) dL_counts_4 ⟨(Nat.le_of_ble_eq_true rfl), (Nat.le_of_ble_eq_true rfl)⟩) hS (fun _ _ h => Or.inl h) (fun _ h => Or.inl h) (fun _ _ h => Or.inl h) ?_ ?_
  · intro E ce q9 u t H1 locs1 ht _ _ hB _ hk hS hce hcv hcl
    obtain ⟨⟨e1, h1, h2⟩, h3⟩ := hB
    rw [ht] at h3
    have hP : va_P D vwCl (cw cyI ad S ++ [oc cyJ o f]) H1 := va_P.app h3 (P_kept hPo hk (fun k q hq => by
      match k, hq with
      | 0, hq => cases hq; exact o_nCA hO
      | k + 1, hq => simp at hq))
    have hex := hE e1 h1
    have he : e1 = 2 := hex
    subst he
    have h2 : E = "java/lang/IllegalArgumentException" := h2
    subst h2
    refine vx_catch (E := "java/lang/IllegalArgumentException") hown ([] : List ExceptionTableEntry) ⟨0, 9, 12, 15⟩ [] (by rw [hexc]; rfl) (fun z hz => absurd hz List.not_mem_nil) rfl (by decide) (hts (.classLink RL 15 "java/lang/IllegalArgumentException") (by decide +kernel)) (va_Nw.use rfl hZ.2.2.1.2.2.2.2.1) hce hcv hcl ?_
    refine lv_astore_n (lv' := [(3, .ref q9), (0, .ref (ad 30)), (1, .int p1), (2, .ref o)]) hx hb dL_counts_12 rfl hl (by decide) rfl (fun ls hl => ?_)
    refine lv_iconst (v := nI 1) hx hb dL_counts_13 (by decide) ?_
    exact finw hx hb hr hlk hS hP (u := (S, f)) (by rw [h1]; exact ⟨rfl, rfl⟩) dL_counts_14 (Nat.le_of_ble_eq_true rfl) (Nat.le_of_ble_eq_true rfl)
  · intro r9 u9 t H1 locs1 ht _ hres hB _ hk hS
    have hB : va_P D vwCl (cw cyI ad u9) t.heap := hB
    rw [ht] at hB
    have hP : va_P D vwCl (cw cyI ad u9 ++ [oc cyJ o f]) H1 := va_P.app hB (P_kept hPo hk (fun k q hq => by
      match k, hq with
      | 0, hq => cases hq; exact o_nCA hO
      | k + 1, hq => simp at hq))
    have hres : res = .inr (r9, u9) := hres
    refine lv_i2l hx hb dL_counts_7 rfl ?_
    refine va_last hx hb hK hP (LW_D hO) hS 31 1 (f := f) rfl rfl (vp_in_nI (by decide) (by decide)) dL_counts_8 (fun H locs hP _ hS => ?_)
    have hP : va_P D vwCl (cw cyI ad u9 ++ [oc cyJ o (vp_updL f 0 (Int32.toInt64 r9))]) H := hP
    refine lv_goto (tgt := 15) hx hb dL_counts_9 (by decide) ?_
    refine lv_iconst (v := nI 0) hx hb dL_counts_15 (by decide) ?_
    exact finw hx hb hr hlk hS hP (u := (u9, vp_updL f 0 (Int32.toInt64 r9))) (by rw [hres]; exact ⟨rfl, rfl, (if_pos rfl : vp_updL f 0 (Int32.toInt64 r9) 0 = Int32.toInt64 r9)⟩) dL_counts_16 (Nat.le_of_ble_eq_true rfl) (Nat.le_of_ble_eq_true rfl)

def rl_L_needs : Room := { frames := 8, cells := 1, slots := 6, locals := 123 }
theorem cdS_L_needs : yL_needs.cls ≠ "java/lang/invoke/MethodHandle" ∧ yL_needs.cls ≠ "java/lang/invoke/VarHandle" ∧ (parseMethodDescriptor yL_needs.desc).map (fun d => d.parameters.length) = some 3 := by decide +kernel
set_option maxHeartbeats 4000000 in
set_option maxRecDepth 100000 in
theorem c_L_needs {l : Launch} {D : va_G} {cyI cyJ cyZ : ClassId} {ad : Nat → Nat} {o : Nat} (hfl : l.stackTraces = false) (hO : AdO ad o) {S : St} {f : Nat → Int64} {p1 : Int32} {res : Sum Nat (Int32 × St)} (hf : m_X6_needs S p1 = some res) (hE : ∀ e, res = .inl e → ex1 e) : Met l yL_needs wsL_needs rl_L_needs (PreL D [(cyI, .int), (cyJ, .long), (cyZ, .boolean)] (cw cyI ad S ++ [oc cyJ o f]) (LA ad o) [.ref (ad 30), .int p1, .ref o]) (PoW D cyI cyJ ad o tb12 cvI S res) 1 6 (LA ad o) := by
  refine ofWH (cc := cL_needs) (maxL := 4) (ret := (some .int)) (hh := [(0, 9, 12, 13)]) (by decide) rfl ?_
  intro p e s m args below meth c s₁ B hml hexc hv
  obtain ⟨hargs, hP, hK, hN, hZ, hC⟩ := hv
  have hx := B.exec
  have hb := B.bytes
  have hr := B.returns
  have hts := atoms_spec (ws := wsL_needs) B.pre
  have hown : s.vm.findClass RL = some m.cls := findClass_of_methodNamed B.named
  have hlk := B.notSynchronized
  have hS : va_S (LA ad o) s.heap s.heap [] := va_S.rf
  have hl := lv_entry ([.ref (ad 30), .int p1, .ref o]) (n := 4) (Nat.le_of_ble_eq_true rfl)
  refine W.eq (by rw [hargs, lg_entry_eq]) ?_
  generalize (lg_sl ([.ref (ad 30), .int p1, .ref o]) ++ List.replicate (4 - (lg_sl ([.ref (ad 30), .int p1, .ref o])).length) Slot.unset).toArray = ls at hl ⊢
  have hl : lv_has ls 4 [(0, .ref (ad 30)), (1, .int p1), (2, .ref o)] := hl
  refine lv_aload_n hx hb dL_needs_0 rfl (lv_at hl 2 rfl) ?_
  refine lv_iconst (v := nI 0) hx hb dL_needs_1 (by decide) ?_
  refine lv_aload_n hx hb dL_needs_2 rfl (lv_at hl 0 rfl) ?_
  refine lv_iload_n hx hb dL_needs_3 rfl (lv_at hl 1 rfl) ?_
  have hPo := P_right hP
  refine vx_calli (rnxV (A := LA ad o) (As := [.int p1]) (rest := [.int (nI 0), .ref o]) ⟨hx, hb, hml, hown, hts⟩ (c_X6_needs hfl hO.1 hf) (cwV 1 hts gL_needs_X6_needs rfl rfl rfl cdV_X6_needs ⟨(Nat.le_of_ble_eq_true rfl), (Nat.le_of_ble_eq_true rfl)⟩) (P_left hP) hK hN hZ (fun _ h => Or.inl h) hS (cw_o30 (S := S)) rfl rfl hl.1 rfl (Nat.le_of_ble_eq_true rfl) dL_needs_4 ⟨(Nat.le_of_ble_eq_true rfl), (Nat.le_of_ble_eq_true rfl)⟩) hS (fun _ _ h => Or.inl h) (fun _ h => Or.inl h) (fun _ _ h => Or.inl h) ?_ ?_
  · intro E ce q9 u t H1 locs1 ht _ _ hB _ hk hS hce hcv hcl
    obtain ⟨⟨e1, h1, h2⟩, h3⟩ := hB
    rw [ht] at h3
    have hP : va_P D vwCl (cw cyI ad S ++ [oc cyJ o f]) H1 := va_P.app h3 (P_kept hPo hk (fun k q hq => by
      match k, hq with
      | 0, hq => cases hq; exact o_nCA hO
      | k + 1, hq => simp at hq))
    have hex := hE e1 h1
    have he : e1 = 1 := hex
    subst he
    have h2 : E = "java/lang/IndexOutOfBoundsException" := h2
    subst h2
    refine vx_catch (E := "java/lang/IndexOutOfBoundsException") hown ([] : List ExceptionTableEntry) ⟨0, 9, 12, 13⟩ [] (by rw [hexc]; rfl) (fun z hz => absurd hz List.not_mem_nil) rfl (by decide) (hts (.classLink RL 13 "java/lang/IndexOutOfBoundsException") (by decide +kernel)) (va_Nw.use rfl hZ.2.2.1.2.2.2.1) hce hcv hcl ?_
    refine lv_astore_n (lv' := [(3, .ref q9), (0, .ref (ad 30)), (1, .int p1), (2, .ref o)]) hx hb dL_needs_12 rfl hl (by decide) rfl (fun ls hl => ?_)
    refine lv_iconst (v := nI 1) hx hb dL_needs_13 (by decide) ?_
    exact finw hx hb hr hlk hS hP (u := (S, f)) (by rw [h1]; exact ⟨rfl, rfl⟩) dL_needs_14 (Nat.le_of_ble_eq_true rfl) (Nat.le_of_ble_eq_true rfl)
  · intro r9 u9 t H1 locs1 ht _ hres hB _ hk hS
    have hB : va_P D vwCl (cw cyI ad u9) t.heap := hB
    rw [ht] at hB
    have hP : va_P D vwCl (cw cyI ad u9 ++ [oc cyJ o f]) H1 := va_P.app hB (P_kept hPo hk (fun k q hq => by
      match k, hq with
      | 0, hq => cases hq; exact o_nCA hO
      | k + 1, hq => simp at hq))
    have hres : res = .inr (r9, u9) := hres
    refine lv_i2l hx hb dL_needs_7 rfl ?_
    refine va_last hx hb hK hP (LW_D hO) hS 31 1 (f := f) rfl rfl (vp_in_nI (by decide) (by decide)) dL_needs_8 (fun H locs hP _ hS => ?_)
    have hP : va_P D vwCl (cw cyI ad u9 ++ [oc cyJ o (vp_updL f 0 (Int32.toInt64 r9))]) H := hP
    refine lv_goto (tgt := 15) hx hb dL_needs_9 (by decide) ?_
    refine lv_iconst (v := nI 0) hx hb dL_needs_15 (by decide) ?_
    exact finw hx hb hr hlk hS hP (u := (u9, vp_updL f 0 (Int32.toInt64 r9))) (by rw [hres]; exact ⟨rfl, rfl, (if_pos rfl : vp_updL f 0 (Int32.toInt64 r9) 0 = Int32.toInt64 r9)⟩) dL_needs_16 (Nat.le_of_ble_eq_true rfl) (Nat.le_of_ble_eq_true rfl)

def rl_L_users : Room := { frames := 7, cells := 1, slots := 6, locals := 105 }
theorem cdS_L_users : yL_users.cls ≠ "java/lang/invoke/MethodHandle" ∧ yL_users.cls ≠ "java/lang/invoke/VarHandle" ∧ (parseMethodDescriptor yL_users.desc).map (fun d => d.parameters.length) = some 3 := by decide +kernel
set_option maxHeartbeats 4000000 in
set_option maxRecDepth 100000 in
theorem c_L_users {l : Launch} {D : va_G} {cyI cyJ cyZ : ClassId} {ad : Nat → Nat} {o : Nat} (hfl : l.stackTraces = false) (hO : AdO ad o) {S : St} {f : Nat → Int64} {p1 : Int32} {res : Sum Nat (Int32 × St)} (hf : m_X6_users S p1 = some res) (hE : ∀ e, res = .inl e → ex1 e) : Met l yL_users wsL_users rl_L_users (PreL D [(cyI, .int), (cyJ, .long), (cyZ, .boolean)] (cw cyI ad S ++ [oc cyJ o f]) (LA ad o) [.ref (ad 30), .int p1, .ref o]) (PoW D cyI cyJ ad o tb12 cvI S res) 1 6 (LA ad o) := by
  refine ofWH (cc := cL_users) (maxL := 4) (ret := (some .int)) (hh := [(0, 9, 12, 13)]) (by decide) rfl ?_
  intro p e s m args below meth c s₁ B hml hexc hv
  obtain ⟨hargs, hP, hK, hN, hZ, hC⟩ := hv
  have hx := B.exec
  have hb := B.bytes
  have hr := B.returns
  have hts := atoms_spec (ws := wsL_users) B.pre
  have hown : s.vm.findClass RL = some m.cls := findClass_of_methodNamed B.named
  have hlk := B.notSynchronized
  have hS : va_S (LA ad o) s.heap s.heap [] := va_S.rf
  have hl := lv_entry ([.ref (ad 30), .int p1, .ref o]) (n := 4) (Nat.le_of_ble_eq_true rfl)
  refine W.eq (by rw [hargs, lg_entry_eq]) ?_
  generalize (lg_sl ([.ref (ad 30), .int p1, .ref o]) ++ List.replicate (4 - (lg_sl ([.ref (ad 30), .int p1, .ref o])).length) Slot.unset).toArray = ls at hl ⊢
  have hl : lv_has ls 4 [(0, .ref (ad 30)), (1, .int p1), (2, .ref o)] := hl
  refine lv_aload_n hx hb dL_users_0 rfl (lv_at hl 2 rfl) ?_
  refine lv_iconst (v := nI 0) hx hb dL_users_1 (by decide) ?_
  refine lv_aload_n hx hb dL_users_2 rfl (lv_at hl 0 rfl) ?_
  refine lv_iload_n hx hb dL_users_3 rfl (lv_at hl 1 rfl) ?_
  have hPo := P_right hP
  refine vx_calli (rnxV (A := LA ad o) (As := [.int p1]) (rest := [.int (nI 0), .ref o]) ⟨hx, hb, hml, hown, hts⟩ (c_X6_users hfl hO.1 hf) (cwV 1 hts gL_users_X6_users rfl rfl rfl cdV_X6_users ⟨(Nat.le_of_ble_eq_true rfl), (Nat.le_of_ble_eq_true rfl)⟩) (P_left hP) hK hN hZ (fun _ h => Or.inl h) hS (cw_o30 (S := S)) rfl rfl hl.1 rfl (Nat.le_of_ble_eq_true rfl) dL_users_4 ⟨(Nat.le_of_ble_eq_true rfl), (Nat.le_of_ble_eq_true rfl)⟩) hS (fun _ _ h => Or.inl h) (fun _ h => Or.inl h) (fun _ _ h => Or.inl h) ?_ ?_
  · intro E ce q9 u t H1 locs1 ht _ _ hB _ hk hS hce hcv hcl
    obtain ⟨⟨e1, h1, h2⟩, h3⟩ := hB
    rw [ht] at h3
    have hP : va_P D vwCl (cw cyI ad S ++ [oc cyJ o f]) H1 := va_P.app h3 (P_kept hPo hk (fun k q hq => by
      match k, hq with
      | 0, hq => cases hq; exact o_nCA hO
      | k + 1, hq => simp at hq))
    have hex := hE e1 h1
    have he : e1 = 1 := hex
    subst he
    have h2 : E = "java/lang/IndexOutOfBoundsException" := h2
    subst h2
    refine vx_catch (E := "java/lang/IndexOutOfBoundsException") hown ([] : List ExceptionTableEntry) ⟨0, 9, 12, 13⟩ [] (by rw [hexc]; rfl) (fun z hz => absurd hz List.not_mem_nil) rfl (by decide) (hts (.classLink RL 13 "java/lang/IndexOutOfBoundsException") (by decide +kernel)) (va_Nw.use rfl hZ.2.2.1.2.2.2.1) hce hcv hcl ?_
    refine lv_astore_n (lv' := [(3, .ref q9), (0, .ref (ad 30)), (1, .int p1), (2, .ref o)]) hx hb dL_users_12 rfl hl (by decide) rfl (fun ls hl => ?_)
    refine lv_iconst (v := nI 1) hx hb dL_users_13 (by decide) ?_
    exact finw hx hb hr hlk hS hP (u := (S, f)) (by rw [h1]; exact ⟨rfl, rfl⟩) dL_users_14 (Nat.le_of_ble_eq_true rfl) (Nat.le_of_ble_eq_true rfl)
  · intro r9 u9 t H1 locs1 ht _ hres hB _ hk hS
    have hB : va_P D vwCl (cw cyI ad u9) t.heap := hB
    rw [ht] at hB
    have hP : va_P D vwCl (cw cyI ad u9 ++ [oc cyJ o f]) H1 := va_P.app hB (P_kept hPo hk (fun k q hq => by
      match k, hq with
      | 0, hq => cases hq; exact o_nCA hO
      | k + 1, hq => simp at hq))
    have hres : res = .inr (r9, u9) := hres
    refine lv_i2l hx hb dL_users_7 rfl ?_
    refine va_last hx hb hK hP (LW_D hO) hS 31 1 (f := f) rfl rfl (vp_in_nI (by decide) (by decide)) dL_users_8 (fun H locs hP _ hS => ?_)
    have hP : va_P D vwCl (cw cyI ad u9 ++ [oc cyJ o (vp_updL f 0 (Int32.toInt64 r9))]) H := hP
    refine lv_goto (tgt := 15) hx hb dL_users_9 (by decide) ?_
    refine lv_iconst (v := nI 0) hx hb dL_users_15 (by decide) ?_
    exact finw hx hb hr hlk hS hP (u := (u9, vp_updL f 0 (Int32.toInt64 r9))) (by rw [hres]; exact ⟨rfl, rfl, (if_pos rfl : vp_updL f 0 (Int32.toInt64 r9) 0 = Int32.toInt64 r9)⟩) dL_users_16 (Nat.le_of_ble_eq_true rfl) (Nat.le_of_ble_eq_true rfl)

def rl_L_ring : Room := { frames := 8, cells := 1, slots := 6, locals := 123 }
theorem cdS_L_ring : yL_ring.cls ≠ "java/lang/invoke/MethodHandle" ∧ yL_ring.cls ≠ "java/lang/invoke/VarHandle" ∧ (parseMethodDescriptor yL_ring.desc).map (fun d => d.parameters.length) = some 3 := by decide +kernel
set_option maxHeartbeats 4000000 in
set_option maxRecDepth 100000 in
theorem c_L_ring {l : Launch} {D : va_G} {cyI cyJ cyZ : ClassId} {ad : Nat → Nat} {o : Nat} (hfl : l.stackTraces = false) (hO : AdO ad o) {S : St} {f : Nat → Int64} {p1 : Int32} {res : Sum Nat (Int32 × St)} (hf : m_X6_ring S p1 = some res) (hE : ∀ e, res = .inl e → ex1 e) : Met l yL_ring wsL_ring rl_L_ring (PreL D [(cyI, .int), (cyJ, .long), (cyZ, .boolean)] (cw cyI ad S ++ [oc cyJ o f]) (LA ad o) [.ref (ad 30), .int p1, .ref o]) (PoW D cyI cyJ ad o tb12 cvI S res) 1 6 (LA ad o) := by
  refine ofWH (cc := cL_ring) (maxL := 4) (ret := (some .int)) (hh := [(0, 9, 12, 13)]) (by decide) rfl ?_
  intro p e s m args below meth c s₁ B hml hexc hv
  obtain ⟨hargs, hP, hK, hN, hZ, hC⟩ := hv
  have hx := B.exec
  have hb := B.bytes
  have hr := B.returns
  have hts := atoms_spec (ws := wsL_ring) B.pre
  have hown : s.vm.findClass RL = some m.cls := findClass_of_methodNamed B.named
  have hlk := B.notSynchronized
  have hS : va_S (LA ad o) s.heap s.heap [] := va_S.rf
  have hl := lv_entry ([.ref (ad 30), .int p1, .ref o]) (n := 4) (Nat.le_of_ble_eq_true rfl)
  refine W.eq (by rw [hargs, lg_entry_eq]) ?_
  generalize (lg_sl ([.ref (ad 30), .int p1, .ref o]) ++ List.replicate (4 - (lg_sl ([.ref (ad 30), .int p1, .ref o])).length) Slot.unset).toArray = ls at hl ⊢
  have hl : lv_has ls 4 [(0, .ref (ad 30)), (1, .int p1), (2, .ref o)] := hl
  refine lv_aload_n hx hb dL_ring_0 rfl (lv_at hl 2 rfl) ?_
  refine lv_iconst (v := nI 0) hx hb dL_ring_1 (by decide) ?_
  refine lv_aload_n hx hb dL_ring_2 rfl (lv_at hl 0 rfl) ?_
  refine lv_iload_n hx hb dL_ring_3 rfl (lv_at hl 1 rfl) ?_
  have hPo := P_right hP
  refine vx_calli (rnxV (A := LA ad o) (As := [.int p1]) (rest := [.int (nI 0), .ref o]) ⟨hx, hb, hml, hown, hts⟩ (c_X6_ring hfl hO.1 hf) (cwV 1 hts gL_ring_X6_ring rfl rfl rfl cdV_X6_ring ⟨(Nat.le_of_ble_eq_true rfl), (Nat.le_of_ble_eq_true rfl)⟩) (P_left hP) hK hN hZ (fun _ h => Or.inl h) hS (cw_o30 (S := S)) rfl rfl hl.1 rfl (Nat.le_of_ble_eq_true rfl) dL_ring_4 ⟨(Nat.le_of_ble_eq_true rfl), (Nat.le_of_ble_eq_true rfl)⟩) hS (fun _ _ h => Or.inl h) (fun _ h => Or.inl h) (fun _ _ h => Or.inl h) ?_ ?_
  · intro E ce q9 u t H1 locs1 ht _ _ hB _ hk hS hce hcv hcl
    obtain ⟨⟨e1, h1, h2⟩, h3⟩ := hB
    rw [ht] at h3
    have hP : va_P D vwCl (cw cyI ad S ++ [oc cyJ o f]) H1 := va_P.app h3 (P_kept hPo hk (fun k q hq => by
      match k, hq with
      | 0, hq => cases hq; exact o_nCA hO
      | k + 1, hq => simp at hq))
    have hex := hE e1 h1
    have he : e1 = 1 := hex
    subst he
    have h2 : E = "java/lang/IndexOutOfBoundsException" := h2
    subst h2
    refine vx_catch (E := "java/lang/IndexOutOfBoundsException") hown ([] : List ExceptionTableEntry) ⟨0, 9, 12, 13⟩ [] (by rw [hexc]; rfl) (fun z hz => absurd hz List.not_mem_nil) rfl (by decide) (hts (.classLink RL 13 "java/lang/IndexOutOfBoundsException") (by decide +kernel)) (va_Nw.use rfl hZ.2.2.1.2.2.2.1) hce hcv hcl ?_
    refine lv_astore_n (lv' := [(3, .ref q9), (0, .ref (ad 30)), (1, .int p1), (2, .ref o)]) hx hb dL_ring_12 rfl hl (by decide) rfl (fun ls hl => ?_)
    refine lv_iconst (v := nI 1) hx hb dL_ring_13 (by decide) ?_
    exact finw hx hb hr hlk hS hP (u := (S, f)) (by rw [h1]; exact ⟨rfl, rfl⟩) dL_ring_14 (Nat.le_of_ble_eq_true rfl) (Nat.le_of_ble_eq_true rfl)
  · intro r9 u9 t H1 locs1 ht _ hres hB _ hk hS
    have hB : va_P D vwCl (cw cyI ad u9) t.heap := hB
    rw [ht] at hB
    have hP : va_P D vwCl (cw cyI ad u9 ++ [oc cyJ o f]) H1 := va_P.app hB (P_kept hPo hk (fun k q hq => by
      match k, hq with
      | 0, hq => cases hq; exact o_nCA hO
      | k + 1, hq => simp at hq))
    have hres : res = .inr (r9, u9) := hres
    refine lv_i2l hx hb dL_ring_7 rfl ?_
    refine va_last hx hb hK hP (LW_D hO) hS 31 1 (f := f) rfl rfl (vp_in_nI (by decide) (by decide)) dL_ring_8 (fun H locs hP _ hS => ?_)
    have hP : va_P D vwCl (cw cyI ad u9 ++ [oc cyJ o (vp_updL f 0 (Int32.toInt64 r9))]) H := hP
    refine lv_goto (tgt := 15) hx hb dL_ring_9 (by decide) ?_
    refine lv_iconst (v := nI 0) hx hb dL_ring_15 (by decide) ?_
    exact finw hx hb hr hlk hS hP (u := (u9, vp_updL f 0 (Int32.toInt64 r9))) (by rw [hres]; exact ⟨rfl, rfl, (if_pos rfl : vp_updL f 0 (Int32.toInt64 r9) 0 = Int32.toInt64 r9)⟩) dL_ring_16 (Nat.le_of_ble_eq_true rfl) (Nat.le_of_ble_eq_true rfl)

def rl_L_way : Room := { frames := 8, cells := 3, slots := 18, locals := 125 }
theorem cdS_L_way : yL_way.cls ≠ "java/lang/invoke/MethodHandle" ∧ yL_way.cls ≠ "java/lang/invoke/VarHandle" ∧ (parseMethodDescriptor yL_way.desc).map (fun d => d.parameters.length) = some 5 := by decide +kernel
set_option maxHeartbeats 4000000 in
set_option maxRecDepth 100000 in
theorem c_L_way {l : Launch} {D : va_G} {cyI cyJ cyZ : ClassId} {ad : Nat → Nat} {o : Nat} (hfl : l.stackTraces = false) (hO : AdO ad o) {S : St} {f : Nat → Int64} {p1 : Int32} {p2 : Int32} {p3 : Int32} {res : Sum Nat (Int32 × St)} (hf : m_X6_way S p1 p2 p3 = some res) (hE : ∀ e, res = .inl e → ex12 e) : Met l yL_way wsL_way rl_L_way (PreL D [(cyI, .int), (cyJ, .long), (cyZ, .boolean)] (cw cyI ad S ++ [oc cyJ o f]) (LA ad o) [.ref (ad 30), .int p1, .int p2, .int p3, .ref o]) (PoW D cyI cyJ ad o tb12 cvI S res) 3 18 (LA ad o) := by
  refine ofWH (cc := cL_way) (maxL := 6) (ret := (some .int)) (hh := [(0, 12, 15, 13), (0, 12, 19, 15)]) (by decide) rfl ?_
  intro p e s m args below meth c s₁ B hml hexc hv
  obtain ⟨hargs, hP, hK, hN, hZ, hC⟩ := hv
  have hx := B.exec
  have hb := B.bytes
  have hr := B.returns
  have hts := atoms_spec (ws := wsL_way) B.pre
  have hown : s.vm.findClass RL = some m.cls := findClass_of_methodNamed B.named
  have hlk := B.notSynchronized
  have hS : va_S (LA ad o) s.heap s.heap [] := va_S.rf
  have hl := lv_entry ([.ref (ad 30), .int p1, .int p2, .int p3, .ref o]) (n := 6) (Nat.le_of_ble_eq_true rfl)
  refine W.eq (by rw [hargs, lg_entry_eq]) ?_
  generalize (lg_sl ([.ref (ad 30), .int p1, .int p2, .int p3, .ref o]) ++ List.replicate (6 - (lg_sl ([.ref (ad 30), .int p1, .int p2, .int p3, .ref o])).length) Slot.unset).toArray = ls at hl ⊢
  have hl : lv_has ls 6 [(0, .ref (ad 30)), (1, .int p1), (2, .int p2), (3, .int p3), (4, .ref o)] := hl
  refine lv_aload hx hb dL_way_0 (lv_at hl 4 rfl) ?_
  refine lv_iconst (v := nI 0) hx hb dL_way_2 (by decide) ?_
  refine lv_aload_n hx hb dL_way_3 rfl (lv_at hl 0 rfl) ?_
  refine lv_iload_n hx hb dL_way_4 rfl (lv_at hl 1 rfl) ?_
  refine lv_iload_n hx hb dL_way_5 rfl (lv_at hl 2 rfl) ?_
  refine lv_iload_n hx hb dL_way_6 rfl (lv_at hl 3 rfl) ?_
  have hPo := P_right hP
  refine vx_calli (rnxV (A := LA ad o) (As := [.int p1, .int p2, .int p3]) (rest := [.int (nI 0), .ref o]) ⟨hx, hb, hml, hown, hts⟩ (c_X6_way hfl hO.1 hf) (cwV 3 hts gL_way_X6_way rfl rfl rfl cdV_X6_way ⟨(Nat.le_of_ble_eq_true rfl), (Nat.le_of_ble_eq_true rfl)⟩) (P_left hP) hK hN hZ (fun _ h => Or.inl h) hS (cw_o30 (S := S)) rfl rfl hl.1 rfl (Nat.le_of_ble_eq_true rfl) dL_way_7 ⟨(Nat.le_of_ble_eq_true rfl), (Nat.le_of_ble_eq_true rfl)⟩) hS (fun _ _ h => Or.inl h) (fun _ h => Or.inl h) (fun _ _ h => Or.inl h) ?_ ?_
  · intro E ce q9 u t H1 locs1 ht _ _ hB _ hk hS hce hcv hcl
    obtain ⟨⟨e1, h1, h2⟩, h3⟩ := hB
    rw [ht] at h3
    have hP : va_P D vwCl (cw cyI ad S ++ [oc cyJ o f]) H1 := va_P.app h3 (P_kept hPo hk (fun k q hq => by
      match k, hq with
      | 0, hq => cases hq; exact o_nCA hO
      | k + 1, hq => simp at hq))
    have hex := hE e1 h1
    rcases hex with rfl | rfl
    · have h2 : E = "java/lang/IndexOutOfBoundsException" := h2
      subst h2
      refine vx_catch (E := "java/lang/IndexOutOfBoundsException") hown ([] : List ExceptionTableEntry) ⟨0, 12, 15, 13⟩ [⟨0, 12, 19, 15⟩] (by rw [hexc]; rfl) (fun z hz => absurd hz List.not_mem_nil) rfl (by decide) (hts (.classLink RL 13 "java/lang/IndexOutOfBoundsException") (by decide +kernel)) (va_Nw.use rfl hZ.2.2.1.2.2.2.1) hce hcv hcl ?_
      refine lv_astore (lv' := [(5, .ref q9), (0, .ref (ad 30)), (1, .int p1), (2, .int p2), (3, .int p3), (4, .ref o)]) hx hb dL_way_15 hl (by decide) rfl (fun ls hl => ?_)
      refine lv_iconst (v := nI 1) hx hb dL_way_17 (by decide) ?_
      exact finw hx hb hr hlk hS hP (u := (S, f)) (by rw [h1]; exact ⟨rfl, rfl⟩) dL_way_18 (Nat.le_of_ble_eq_true rfl) (Nat.le_of_ble_eq_true rfl)
    · have h2 : E = "java/lang/IllegalArgumentException" := h2
      subst h2
      refine vx_catch (E := "java/lang/IllegalArgumentException") hown ([⟨0, 12, 15, 13⟩] : List ExceptionTableEntry) ⟨0, 12, 19, 15⟩ [] (by rw [hexc]; rfl) (fun z hz => by rw [List.mem_singleton.mp hz]; exact Or.inr ⟨by decide, "java/lang/IndexOutOfBoundsException", hts (.classLink RL 13 "java/lang/IndexOutOfBoundsException") (by decide +kernel), hC.1⟩) rfl (by decide) (hts (.classLink RL 15 "java/lang/IllegalArgumentException") (by decide +kernel)) (va_Nw.use rfl hZ.2.2.1.2.2.2.2.1) hce hcv hcl ?_
      refine lv_astore (lv' := [(5, .ref q9), (0, .ref (ad 30)), (1, .int p1), (2, .int p2), (3, .int p3), (4, .ref o)]) hx hb dL_way_19 hl (by decide) rfl (fun ls hl => ?_)
      refine lv_iconst (v := nI 2) hx hb dL_way_21 (by decide) ?_
      exact finw hx hb hr hlk hS hP (u := (S, f)) (by rw [h1]; exact ⟨rfl, rfl⟩) dL_way_22 (Nat.le_of_ble_eq_true rfl) (Nat.le_of_ble_eq_true rfl)
  · intro r9 u9 t H1 locs1 ht _ hres hB _ hk hS
    have hB : va_P D vwCl (cw cyI ad u9) t.heap := hB
    rw [ht] at hB
    have hP : va_P D vwCl (cw cyI ad u9 ++ [oc cyJ o f]) H1 := va_P.app hB (P_kept hPo hk (fun k q hq => by
      match k, hq with
      | 0, hq => cases hq; exact o_nCA hO
      | k + 1, hq => simp at hq))
    have hres : res = .inr (r9, u9) := hres
    refine lv_i2l hx hb dL_way_10 rfl ?_
    refine va_last hx hb hK hP (LW_D hO) hS 31 1 (f := f) rfl rfl (vp_in_nI (by decide) (by decide)) dL_way_11 (fun H locs hP _ hS => ?_)
    have hP : va_P D vwCl (cw cyI ad u9 ++ [oc cyJ o (vp_updL f 0 (Int32.toInt64 r9))]) H := hP
    refine lv_goto (tgt := 23) hx hb dL_way_12 (by decide) ?_
    refine lv_iconst (v := nI 0) hx hb dL_way_23 (by decide) ?_
    exact finw hx hb hr hlk hS hP (u := (u9, vp_updL f 0 (Int32.toInt64 r9))) (by rw [hres]; exact ⟨rfl, rfl, (if_pos rfl : vp_updL f 0 (Int32.toInt64 r9) 0 = Int32.toInt64 r9)⟩) dL_way_24 (Nat.le_of_ble_eq_true rfl) (Nat.le_of_ble_eq_true rfl)

def rl_L_time : Room := { frames := 243, cells := 3, slots := 18, locals := 6149 }
theorem cdS_L_time : yL_time.cls ≠ "java/lang/invoke/MethodHandle" ∧ yL_time.cls ≠ "java/lang/invoke/VarHandle" ∧ (parseMethodDescriptor yL_time.desc).map (fun d => d.parameters.length) = some 5 := by decide +kernel
set_option maxHeartbeats 4000000 in
set_option maxRecDepth 100000 in
theorem c_L_time {l : Launch} {D : va_G} {cyI cyJ cyZ : ClassId} {ad : Nat → Nat} {o : Nat} (hfl : l.stackTraces = false) (hO : AdO ad o) {S : St} {f : Nat → Int64} {p1 : Int32} {p2 : Int32} {p3 : Int32} {res : Sum Nat (Int32 × St)} (hf : m_X6_time S p1 p2 p3 = some res) (hE : ∀ e, res = .inl e → ex12 e) : Met l yL_time wsL_time rl_L_time (PreL D [(cyI, .int), (cyJ, .long), (cyZ, .boolean)] (cw cyI ad S ++ [oc cyJ o f]) (LA ad o) [.ref (ad 30), .int p1, .int p2, .int p3, .ref o]) (PoW D cyI cyJ ad o tb12 cvI S res) 3 18 (LA ad o) := by
  refine ofWH (cc := cL_time) (maxL := 6) (ret := (some .int)) (hh := [(0, 12, 15, 13), (0, 12, 19, 15)]) (by decide) rfl ?_
  intro p e s m args below meth c s₁ B hml hexc hv
  obtain ⟨hargs, hP, hK, hN, hZ, hC⟩ := hv
  have hx := B.exec
  have hb := B.bytes
  have hr := B.returns
  have hts := atoms_spec (ws := wsL_time) B.pre
  have hown : s.vm.findClass RL = some m.cls := findClass_of_methodNamed B.named
  have hlk := B.notSynchronized
  have hS : va_S (LA ad o) s.heap s.heap [] := va_S.rf
  have hl := lv_entry ([.ref (ad 30), .int p1, .int p2, .int p3, .ref o]) (n := 6) (Nat.le_of_ble_eq_true rfl)
  refine W.eq (by rw [hargs, lg_entry_eq]) ?_
  generalize (lg_sl ([.ref (ad 30), .int p1, .int p2, .int p3, .ref o]) ++ List.replicate (6 - (lg_sl ([.ref (ad 30), .int p1, .int p2, .int p3, .ref o])).length) Slot.unset).toArray = ls at hl ⊢
  have hl : lv_has ls 6 [(0, .ref (ad 30)), (1, .int p1), (2, .int p2), (3, .int p3), (4, .ref o)] := hl
  refine lv_aload hx hb dL_time_0 (lv_at hl 4 rfl) ?_
  refine lv_iconst (v := nI 0) hx hb dL_time_2 (by decide) ?_
  refine lv_aload_n hx hb dL_time_3 rfl (lv_at hl 0 rfl) ?_
  refine lv_iload_n hx hb dL_time_4 rfl (lv_at hl 1 rfl) ?_
  refine lv_iload_n hx hb dL_time_5 rfl (lv_at hl 2 rfl) ?_
  refine lv_iload_n hx hb dL_time_6 rfl (lv_at hl 3 rfl) ?_
  have hPo := P_right hP
  refine vx_calli (rnxV (A := LA ad o) (As := [.int p1, .int p2, .int p3]) (rest := [.int (nI 0), .ref o]) ⟨hx, hb, hml, hown, hts⟩ (c_X6_time hfl hO.1 hf) (cwV 3 hts gL_time_X6_time rfl rfl rfl cdV_X6_time ⟨(Nat.le_of_ble_eq_true rfl), (Nat.le_of_ble_eq_true rfl)⟩) (P_left hP) hK hN hZ (fun _ h => Or.inl h) hS (cw_o30 (S := S)) rfl rfl hl.1 rfl (Nat.le_of_ble_eq_true rfl) dL_time_7 ⟨(Nat.le_of_ble_eq_true rfl), (Nat.le_of_ble_eq_true rfl)⟩) hS (fun _ _ h => Or.inl h) (fun _ h => Or.inl h) (fun _ _ h => Or.inl h) ?_ ?_
  · intro E ce q9 u t H1 locs1 ht _ _ hB _ hk hS hce hcv hcl
    obtain ⟨⟨e1, h1, h2⟩, h3⟩ := hB
    rw [ht] at h3
    have hP : va_P D vwCl (cw cyI ad S ++ [oc cyJ o f]) H1 := va_P.app h3 (P_kept hPo hk (fun k q hq => by
      match k, hq with
      | 0, hq => cases hq; exact o_nCA hO
      | k + 1, hq => simp at hq))
    have hex := hE e1 h1
    rcases hex with rfl | rfl
    · have h2 : E = "java/lang/IndexOutOfBoundsException" := h2
      subst h2
      refine vx_catch (E := "java/lang/IndexOutOfBoundsException") hown ([] : List ExceptionTableEntry) ⟨0, 12, 15, 13⟩ [⟨0, 12, 19, 15⟩] (by rw [hexc]; rfl) (fun z hz => absurd hz List.not_mem_nil) rfl (by decide) (hts (.classLink RL 13 "java/lang/IndexOutOfBoundsException") (by decide +kernel)) (va_Nw.use rfl hZ.2.2.1.2.2.2.1) hce hcv hcl ?_
      refine lv_astore (lv' := [(5, .ref q9), (0, .ref (ad 30)), (1, .int p1), (2, .int p2), (3, .int p3), (4, .ref o)]) hx hb dL_time_15 hl (by decide) rfl (fun ls hl => ?_)
      refine lv_iconst (v := nI 1) hx hb dL_time_17 (by decide) ?_
      exact finw hx hb hr hlk hS hP (u := (S, f)) (by rw [h1]; exact ⟨rfl, rfl⟩) dL_time_18 (Nat.le_of_ble_eq_true rfl) (Nat.le_of_ble_eq_true rfl)
    · have h2 : E = "java/lang/IllegalArgumentException" := h2
      subst h2
      refine vx_catch (E := "java/lang/IllegalArgumentException") hown ([⟨0, 12, 15, 13⟩] : List ExceptionTableEntry) ⟨0, 12, 19, 15⟩ [] (by rw [hexc]; rfl) (fun z hz => by rw [List.mem_singleton.mp hz]; exact Or.inr ⟨by decide, "java/lang/IndexOutOfBoundsException", hts (.classLink RL 13 "java/lang/IndexOutOfBoundsException") (by decide +kernel), hC.1⟩) rfl (by decide) (hts (.classLink RL 15 "java/lang/IllegalArgumentException") (by decide +kernel)) (va_Nw.use rfl hZ.2.2.1.2.2.2.2.1) hce hcv hcl ?_
      refine lv_astore (lv' := [(5, .ref q9), (0, .ref (ad 30)), (1, .int p1), (2, .int p2), (3, .int p3), (4, .ref o)]) hx hb dL_time_19 hl (by decide) rfl (fun ls hl => ?_)
      refine lv_iconst (v := nI 2) hx hb dL_time_21 (by decide) ?_
      exact finw hx hb hr hlk hS hP (u := (S, f)) (by rw [h1]; exact ⟨rfl, rfl⟩) dL_time_22 (Nat.le_of_ble_eq_true rfl) (Nat.le_of_ble_eq_true rfl)
  · intro r9 u9 t H1 locs1 ht _ hres hB _ hk hS
    have hB : va_P D vwCl (cw cyI ad u9) t.heap := hB
    rw [ht] at hB
    have hP : va_P D vwCl (cw cyI ad u9 ++ [oc cyJ o f]) H1 := va_P.app hB (P_kept hPo hk (fun k q hq => by
      match k, hq with
      | 0, hq => cases hq; exact o_nCA hO
      | k + 1, hq => simp at hq))
    have hres : res = .inr (r9, u9) := hres
    refine lv_i2l hx hb dL_time_10 rfl ?_
    refine va_last hx hb hK hP (LW_D hO) hS 31 1 (f := f) rfl rfl (vp_in_nI (by decide) (by decide)) dL_time_11 (fun H locs hP _ hS => ?_)
    have hP : va_P D vwCl (cw cyI ad u9 ++ [oc cyJ o (vp_updL f 0 (Int32.toInt64 r9))]) H := hP
    refine lv_goto (tgt := 23) hx hb dL_time_12 (by decide) ?_
    refine lv_iconst (v := nI 0) hx hb dL_time_23 (by decide) ?_
    exact finw hx hb hr hlk hS hP (u := (u9, vp_updL f 0 (Int32.toInt64 r9))) (by rw [hres]; exact ⟨rfl, rfl, (if_pos rfl : vp_updL f 0 (Int32.toInt64 r9) 0 = Int32.toInt64 r9)⟩) dL_time_24 (Nat.le_of_ble_eq_true rfl) (Nat.le_of_ble_eq_true rfl)


