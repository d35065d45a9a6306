/-! what the law asks of class and reference, call by call -/
def OK_write (J : St → St → Prop) (Sc Sr : St) : Prop := ∀ p1 p2 : Int32, ∃ (res : Sum Nat (Int32 × St)) (b : Int32) (Sq : St), m_X6_write Sc p1 p2 = some res ∧ m_X7_write Sr p1 p2 = some (b, Sq) ∧ (∀ e, res = .inl e → ex12 e ∧ rs Sq 47 = tb12 e ∧ J Sc Sq) ∧ (∀ r Sd, res = .inr (r, Sd) → rs Sq 47 = 0 ∧ cvI r = Int32.toInt64 b ∧ J Sd Sq)
def OK_rule (J : St → St → Prop) (Sc Sr : St) : Prop := ∀ p1 p2 p3 p4 p5 : Int32, ∃ (res : Sum Nat (Int32 × St)) (b : Int32) (Sq : St), m_X6_rule Sc p1 p2 p3 p4 p5 = some res ∧ m_X7_rule Sr p1 p2 p3 p4 p5 = some (b, Sq) ∧ (∀ e, res = .inl e → ex12 e ∧ rs Sq 47 = tb12 e ∧ J Sc Sq) ∧ (∀ r Sd, res = .inr (r, Sd) → rs Sq 47 = 0 ∧ cvZ r = cvZ b ∧ J Sd Sq)
def OK_input (J : St → St → Prop) (Sc Sr : St) : Prop := ∀ p1 p2 p3 : Int32, ∃ (res : Sum Nat (Int32 × St)) (b : Int32) (Sq : St), m_X6_input Sc p1 p2 p3 = some res ∧ m_X7_input Sr p1 p2 p3 = some (b, Sq) ∧ (∀ e, res = .inl e → ex123 e ∧ rs Sq 47 = tb12 e ∧ J Sc Sq) ∧ (∀ r Sd, res = .inr (r, Sd) → rs Sq 47 = 0 ∧ cvI r = Int32.toInt64 b ∧ J Sd Sq)
def OK_fails (J : St → St → Prop) (Sc Sr : St) : Prop := ∀ p1 p2 : Int32, ∃ (res : Sum Nat (Int32 × St)) (b : Int32) (Sq : St), m_X6_fails Sc p1 p2 = some res ∧ m_X7_fails Sr p1 p2 = some (b, Sq) ∧ (∀ e, res = .inl e → ex12 e ∧ rs Sq 47 = tb12 e ∧ J Sc Sq) ∧ (∀ r Sd, res = .inr (r, Sd) → rs Sq 47 = 0 ∧ cvI r = Int32.toInt64 b ∧ J Sd Sq)
def OK_poison (J : St → St → Prop) (Sc Sr : St) : Prop := ∀ p1 p2 : Int32, bz p2 = true → ∃ (res : Sum Nat (Int32 × St)) (b : Int32) (Sq : St), m_X6_poison Sc p1 p2 = some res ∧ m_X7_poison Sr p1 p2 = some (b, Sq) ∧ (∀ e, res = .inl e → ex1 e ∧ rs Sq 47 = tb12 e ∧ J Sc Sq) ∧ (∀ r Sd, res = .inr (r, Sd) → rs Sq 47 = 0 ∧ cvZ r = cvZ b ∧ J Sd Sq)
def OK_vanish (J : St → St → Prop) (Sc Sr : St) : Prop := ∀ p1 : Int32, ∃ (res : Sum Nat (Int32 × St)) (b : Int32) (Sq : St), m_X6_vanish Sc p1 = some res ∧ m_X7_vanish Sr p1 = some (b, Sq) ∧ (∀ e, res = .inl e → ex2 e ∧ rs Sq 47 = tb2 e ∧ J Sc Sq) ∧ (∀ r Sd, res = .inr (r, Sd) → rs Sq 47 = 0 ∧ cvI r = Int32.toInt64 b ∧ J Sd Sq)
def OK_build (J : St → St → Prop) (Sc Sr : St) : Prop := ∀ p1 p2 : Int32, ∃ (res : Sum Nat (Int32 × St)) (b : Int32) (Sq : St), m_X6_build Sc p1 p2 = some res ∧ m_X7_build Sr p1 p2 = some (b, Sq) ∧ (∀ e, res = .inl e → ex1 e ∧ rs Sq 47 = tb12 e ∧ J Sc Sq) ∧ (∀ r Sd, res = .inr (r, Sd) → rs Sq 47 = 0 ∧ cvI r = Int32.toInt64 b ∧ J Sd Sq)
def OK_plain (J : St → St → Prop) (Sc Sr : St) : Prop := ∀ p1 p2 : Int32, ∃ (res : Sum Nat (Int32 × St)) (b : Int32) (Sq : St), m_X6_plain Sc p1 p2 = some res ∧ m_X7_plain Sr p1 p2 = some (b, Sq) ∧ (∀ e, res = .inl e → ex1 e ∧ rs Sq 47 = tb12 e ∧ J Sc Sq) ∧ (∀ r Sd, res = .inr (r, Sd) → rs Sq 47 = 0 ∧ cvI r = Int32.toInt64 b ∧ J Sd Sq)
def OK_done (J : St → St → Prop) (Sc Sr : St) : Prop := ∀ p1 p2 : Int32, ∃ (res : Sum Nat (Int32 × St)) (b : Int32) (Sq : St), m_X6_done Sc p1 p2 = some res ∧ m_X7_done Sr p1 p2 = some (b, Sq) ∧ (∀ e, res = .inl e → ex1 e ∧ rs Sq 47 = tb12 e ∧ J Sc Sq) ∧ (∀ r Sd, res = .inr (r, Sd) → rs Sq 47 = 0 ∧ cvI r = Int32.toInt64 b ∧ J Sd Sq)
def OK_why (J : St → St → Prop) (Sc Sr : St) : Prop := ∀ p1 p2 : Int32, ∃ (res : Sum Nat (Int32 × St)) (b : Int32) (Sq : St), m_X6_why Sc p1 p2 = some res ∧ m_X7_why Sr p1 p2 = some (b, Sq) ∧ (∀ e, res = .inl e → ex1 e ∧ rs Sq 47 = tb12 e ∧ J Sc Sq) ∧ (∀ r Sd, res = .inr (r, Sd) → rs Sq 47 = 0 ∧ cvI r = Int32.toInt64 b ∧ J Sd Sq)
def OK_counts (J : St → St → Prop) (Sc Sr : St) : Prop := ∀ p1 : Int32, ∃ (res : Sum Nat (Int32 × St)) (b : Int32) (Sq : St), m_X6_counts Sc p1 = some res ∧ m_X7_counts Sr p1 = some (b, Sq) ∧ (∀ e, res = .inl e → ex2 e ∧ rs Sq 47 = tb2 e ∧ J Sc Sq) ∧ (∀ r Sd, res = .inr (r, Sd) → rs Sq 47 = 0 ∧ cvI r = Int32.toInt64 b ∧ J Sd Sq)
def OK_needs (J : St → St → Prop) (Sc Sr : St) : Prop := ∀ p1 : Int32, ∃ (res : Sum Nat (Int32 × St)) (b : Int32) (Sq : St), m_X6_needs Sc p1 = some res ∧ m_X7_needs Sr p1 = some (b, Sq) ∧ (∀ e, res = .inl e → ex1 e ∧ rs Sq 47 = tb12 e ∧ J Sc Sq) ∧ (∀ r Sd, res = .inr (r, Sd) → rs Sq 47 = 0 ∧ cvI r = Int32.toInt64 b ∧ J Sd Sq)
def OK_users (J : St → St → Prop) (Sc Sr : St) : Prop := ∀ p1 : Int32, ∃ (res : Sum Nat (Int32 × St)) (b : Int32) (Sq : St), m_X6_users Sc p1 = some res ∧ m_X7_users Sr p1 = some (b, Sq) ∧ (∀ e, res = .inl e → ex1 e ∧ rs Sq 47 = tb12 e ∧ J Sc Sq) ∧ (∀ r Sd, res = .inr (r, Sd) → rs Sq 47 = 0 ∧ cvI r = Int32.toInt64 b ∧ J Sd Sq)
def OK_ring (J : St → St → Prop) (Sc Sr : St) : Prop := ∀ p1 : Int32, ∃ (res : Sum Nat (Int32 × St)) (b : Int32) (Sq : St), m_X6_ring Sc p1 = some res ∧ m_X7_ring Sr p1 = some (b, Sq) ∧ (∀ e, res = .inl e → ex1 e ∧ rs Sq 47 = tb12 e ∧ J Sc Sq) ∧ (∀ r Sd, res = .inr (r, Sd) → rs Sq 47 = 0 ∧ cvI r = Int32.toInt64 b ∧ J Sd Sq)
def OK_way (J : St → St → Prop) (Sc Sr : St) : Prop := ∀ p1 p2 p3 : Int32, ∃ (res : Sum Nat (Int32 × St)) (b : Int32) (Sq : St), m_X6_way Sc p1 p2 p3 = some res ∧ m_X7_way Sr p1 p2 p3 = some (b, Sq) ∧ (∀ e, res = .inl e → ex12 e ∧ rs Sq 47 = tb12 e ∧ J Sc Sq) ∧ (∀ r Sd, res = .inr (r, Sd) → rs Sq 47 = 0 ∧ cvI r = Int32.toInt64 b ∧ J Sd Sq)
def OK_time (J : St → St → Prop) (Sc Sr : St) : Prop := ∀ p1 p2 p3 : Int32, ∃ (res : Sum Nat (Int32 × St)) (b : Int32) (Sq : St), m_X6_time Sc p1 p2 p3 = some res ∧ m_X7_time Sr p1 p2 p3 = some (b, Sq) ∧ (∀ e, res = .inl e → ex12 e ∧ rs Sq 47 = tb12 e ∧ J Sc Sq) ∧ (∀ r Sd, res = .inr (r, Sd) → rs Sq 47 = 0 ∧ cvI r = Int32.toInt64 b ∧ J Sd Sq)
def OK_checks (J : St → St → Prop) (Sc Sr : St) : Prop := ∀ p1 : Int32, bz p1 = true → ∃ (b : Int32) (Sd Sq : St), m_X6_checks Sc p1 = some (b, Sd) ∧ m_X7_checks Sr p1 = some (b, Sq) ∧ J Sd Sq
def OK_empty (J : St → St → Prop) (Sc Sr : St) : Prop := ∃ (b : Int32) (Sd Sq : St), m_X6_empty Sc = some (b, Sd) ∧ m_X7_empty Sr = some (b, Sq) ∧ J Sd Sq
def OK_forget (J : St → St → Prop) (Sc Sr : St) : Prop := ∃ (b : Int32) (Sd Sq : St), m_X6_forget Sc = some (b, Sd) ∧ m_X7_forget Sr = some (b, Sq) ∧ J Sd Sq
def OK_entries (J : St → St → Prop) (Sc Sr : St) : Prop := ∃ (b : Int32) (Sq : St), m_X6_entries Sc = some b ∧ m_X7_entries Sr = some (b, Sq) ∧ J Sc Sq
def OK_away (J : St → St → Prop) (Sc Sr : St) : Prop := ∃ (b : Int32) (Sq : St), m_X6_away Sc = some b ∧ m_X7_away Sr = some (b, Sq) ∧ J Sc Sq
def OK_leaks (J : St → St → Prop) (Sc Sr : St) : Prop := ∃ (b : Int32) (Sq : St), m_X6_leaks Sc = some b ∧ m_X7_leaks Sr = some (b, Sq) ∧ J Sc Sq
def LawOK (J : St → St → Prop) (Sc Sr : St) : Prop := OK_write J Sc Sr ∧ OK_rule J Sc Sr ∧ OK_input J Sc Sr ∧ OK_fails J Sc Sr ∧ OK_poison J Sc Sr ∧ OK_vanish J Sc Sr ∧ OK_build J Sc Sr ∧ OK_plain J Sc Sr ∧ OK_done J Sc Sr ∧ OK_why J Sc Sr ∧ OK_counts J Sc Sr ∧ OK_needs J Sc Sr ∧ OK_users J Sc Sr ∧ OK_ring J Sc Sr ∧ OK_way J Sc Sr ∧ OK_time J Sc Sr ∧ OK_checks J Sc Sr ∧ OK_empty J Sc Sr ∧ OK_forget J Sc Sr ∧ OK_entries J Sc Sr ∧ OK_away J Sc Sr ∧ OK_leaks J Sc Sr
theorem lg_self {x y : Int64} (h : x = y) : lg_cmp x y = 0 := by
  subst h
  unfold lg_cmp
  rw [if_neg (Int64.lt_irrefl), if_pos rfl]
theorem rnW {p : Program} {l : Launch} {e : Env} {R : Room} {s : State} {m : MethodId} {args : Array Value} {below : List Frame} {meth : Method} {c : Code} {H : Heap} {locs : List Loc} {cells slots mc0 ms0 : Nat} {cc : ByteArray} {pc : Nat} {ls : Array Slot} {rest st0 As : List Value} {D : va_G} {A A1 : Nat → Prop} {tys : List (ClassId × FieldType)} {w : va_W} {y : MethodName} {bytes : ByteArray} {maxL nL n index : Nat} {ret : Option FieldType} {hh : List (Nat × Nat × Nat × Nat)} {ws Ts : List Cond} {rm : Room} {own : String} {Qc : Array Value → State → Outcome → State → Prop}
    (S : CallFix p m c cc nL s args Ts own) (hM : Met l y ws rm (PreL D tys w A1 As) Qc mc0 ms0 A1) (cw : vx_CSW R s args own index y bytes maxL ret hh ws rm mc0 ms0 n) (hP : va_P D vwCl w H) (hK : va_K D vwCl tys s) (hN : NW s) (hZ : XW A s) (hC : CTf s) (hAB : ∀ q, A1 q → A q) (hS : va_S A s.heap H locs) (hn : As.length = n) (hl : ls.size = nL) (hst : st0 = As.reverse ++ rest) (hW : (rest.map fun v => v.category).sum ≤ 8) (hdg : decode cc pc = .ok (.invokestatic index, 3)) (hcs : cells + mc0 ≤ R.cells ∧ slots + ms0 ≤ R.slots) :
    va_Run p l e R s m args below meth c H locs cells slots mc0 ms0 (F0 m pc ls st0) rest (Qc As.toArray) A1 :=
  vx_runSW S hM cw ⟨PreL.blind, fun _ hU hW => ⟨rfl, by rw [hU]; exact hP, va_K.moved hW.alike hK, NW.warm hW hN, hZ.go hAB hS hU hW, CTf.alike hW.alike hC⟩⟩ rfl hn hl hst (lv_room hW) hdg hcs
theorem and31 (x : Int32) : ∃ j : Nat, j < 32 ∧ x &&& nI 31 = nI j := pk_andE x 5 rfl
theorem tbn_ex12_tb12 {e : Nat} (h : ex12 e) : ¬ tb12 e = 0 := by rcases h with rfl | rfl <;> decide
theorem tbn_ex123_tb12 {e : Nat} (h : ex123 e) : ¬ tb12 e = 0 := by rcases h with rfl | rfl | rfl <;> decide
theorem tbn_ex1_tb12 {e : Nat} (h : ex1 e) : ¬ tb12 e = 0 := by rw [show e = 1 from h]; decide
theorem tbn_ex2_tb2 {e : Nat} (h : ex2 e) : ¬ tb2 e = 0 := by unfold tb2; decide
set_option maxHeartbeats 40000000 in
set_option maxRecDepth 100000 in
theorem law_loop {p : Program} {l : Launch} {e : Env} {s : State} {m : MethodId} {below : List Frame} {meth : Method} {c : Code} {D : va_G} {cyI cyJ cyZ : ClassId} {b L o : Nat} {xs : Nat → Int32} {ad bd : Nat → Nat} {I : Nat → St → St → Prop} (hfl : l.stackTraces = false) (hL : L ≤ 3072) (C0 : lw_At p s m meth c b L xs) (hI : ∀ k Sc Sr, I k Sc Sr → k < 512 → LawOK (I (k + 1)) Sc Sr) (hmono : ∀ k Sc Sr, I k Sc Sr → I (k + 1) Sc Sr)
    (hO : AdO ad o) (hM : AdOK 41 bd ∧ True) (hK : va_K D vwCl [(cyI, .int), (cyJ, .long), (cyZ, .boolean)] s) (hN : NW s) (hZ : XW (fun q : Nat => s.heap.size ≤ q) s) (hC : CTf s) (hgA : ∀ q, LA ad o q → s.heap.size ≤ q) (hgM : ∀ q, MA bd q → s.heap.size ≤ q)
    (hdM : ∀ {S : St} (k : Nat) (q : Nat × va_E), (mw cyI cyJ cyZ bd S)[k]? = some q → ¬ LA ad o q.1) (hdC : ∀ {S : St} {f : Nat → Int64} (k : Nat) (q : Nat × va_E), (cw cyI ad S ++ [oc cyJ o f])[k]? = some q → ¬ MA bd q.1) (hdO : ∀ {f : Nat → Int64} (k : Nat) (q : Nat × va_E), ([oc cyJ o f] : va_W)[k]? = some q → ¬ CA ad q.1) :
    ∀ (n k : Nat) (Sc Sr : St) (f : Nat → Int64) (cN sN : Nat), 6 * k ≤ L → L < 6 * k + 6 * n → I k Sc Sr → cN + 3 * (512 - k) ≤ 2000 → sN + 18 * (512 - k) ≤ 30000 → ∀ (H : Heap) (locs : List Loc) (ls : Array Slot), va_P D vwCl (cw cyI ad Sc ++ [oc cyJ o f]) H → va_P D vwCl (mw cyI cyJ cyZ bd Sr) H → va_S (fun q : Nat => s.heap.size ≤ q) s.heap H locs → lv_has ls 7 [(0, .ref b), (1, .ref (ad 30)), (2, .ref (bd 0)), (3, .ref o), (4, .int (nI (6 * k)))] → W p l e room_1 s m #[Value.ref b] below meth c H locs cN sN (lw_Z below #[Value.ref b] s) (F0 m 23 ls []) := by
  obtain ⟨hx, hb, hr, hml, hown, hts0, hX, hbl, hlocks, hgv⟩ := C0
  have hts : ∀ w ∈ wsL_law, w.before #[Value.ref b] s = true := fun w h => hts0 w (wsL_law_in w h)
  have hb : c.code = cL_law := hb
  have hown : s.vm.findClass RL = some m.cls := hown
  have hbA : ¬ (fun q : Nat => s.heap.size ≤ q) b := Nat.not_le.mpr hbl
  intro n
  induction n with
  | zero => intro k Sc Sr f cN sN h1 h2; omega
  | succ n ih =>
    intro k Sc Sr f cN sN h1 h2 hJ hcN hsN H locs ls hP hPm hS hl
    obtain ⟨i, hik⟩ : ∃ i, i = 6 * k := ⟨_, rfl⟩
    rw [← hik] at hl
    refine lv_iload hx hb dL_law_23 (lv_at hl 4 rfl) ?_
    refine lv_aload_n hx hb dL_law_25 rfl (lv_at hl 0 rfl) ?_
    refine va_slen hx hb hX hbl hbA hS dL_law_26 ?_
    refine lv_bipush (v := nI 6) hx hb dL_law_27 (by decide) ?_
    refine lv_isub hx hb dL_law_29 ?_
    have hsub : (Int32.ofNat L - nI 6).toInt = (L : Int) - 6 := pk_sub_toInt (a := L) (b := 6) (by omega) (by omega)
    have hiI : (nI i).toInt = (i : Int) := nI_toInt (by omega)
    refine lv_icmp_gt (tgt := 1386) hx hb dL_law_30 (by decide) (fun hc => ?_) (fun hc => ?_)
    · refine lv_iconst (v := 1) hx hb dL_law_1386 (by decide) ?_
      refine va_forget (fun q hq => hS.2.2 q hq) ?_
      refine W.widen (k := 601024) (n := 7293034) (by omega) (by omega) ?_
      exact lw_ret hx hb hr hlocks dL_law_1387
    · have hiL : i + 6 ≤ L := by
        have h3 : ¬ (Int32.ofNat L - nI 6).toInt < (nI i).toInt := fun q => hc (Int32.lt_iff_toInt_lt.mpr q)
        rw [hsub, hiI] at h3
        omega
      have hk : k < 512 := by omega
      refine lv_aload_n hx hb dL_law_33 rfl (lv_at hl 0 rfl) ?_
      refine lv_iload hx hb dL_law_34 (lv_at hl 4 rfl) ?_
      refine va_sld hx hb hX hbl hbA hS (vp_in_nI (by omega) (by omega)) dL_law_36 ?_
      refine lv_bipush (v := nI 31) hx hb dL_law_37 (by decide) ?_
      refine lv_iand hx hb dL_law_39 ?_
      refine lv_topi (fun sw esw => ?_)
      obtain ⟨j, hj, ej⟩ := and31 (xs (Int32.toNatClampNeg (nI i)))
      rw [ej] at esw
      subst esw
      rcases (show j = 0 ∨ j = 1 ∨ j = 2 ∨ j = 3 ∨ j = 4 ∨ j = 5 ∨ j = 6 ∨ j = 7 ∨ j = 8 ∨ j = 9 ∨ j = 10 ∨ j = 11 ∨ j = 12 ∨ j = 13 ∨ j = 14 ∨ j = 15 ∨ j = 16 ∨ j = 17 ∨ j = 18 ∨ j = 19 ∨ j = 20 ∨ j = 21 ∨ 22 ≤ j by omega) with rfl | rfl | rfl | rfl | rfl | rfl | rfl | rfl | rfl | rfl | rfl | rfl | rfl | rfl | rfl | rfl | rfl | rfl | rfl | rfl | rfl | rfl | hj22
      · refine lv_tableIn (off := 104) (tgt := 144) hx hb dL_law_40 (by decide) (by decide) rfl (by decide) ?_
        refine lv_aload_n hx hb dL_law_144 rfl (lv_at hl 1 rfl) ?_
        refine lv_aload_n hx hb dL_law_145 rfl (lv_at hl 0 rfl) ?_
        refine lv_iload hx hb dL_law_146 (lv_at hl 4 rfl) ?_
        refine lv_iconst (v := nI 1) hx hb dL_law_148 (by decide) ?_
        refine lv_iadd hx hb dL_law_149 ?_
        refine va_sld hx hb hX hbl hbA hS (by rw [nI_add]; exact vp_in_nI (by omega) (by omega)) dL_law_150 ?_
        refine lv_aload_n hx hb dL_law_151 rfl (lv_at hl 0 rfl) ?_
        refine lv_iload hx hb dL_law_152 (lv_at hl 4 rfl) ?_
        refine lv_iconst (v := nI 2) hx hb dL_law_154 (by decide) ?_
        refine lv_iadd hx hb dL_law_155 ?_
        refine va_sld hx hb hX hbl hbA hS (by rw [nI_add]; exact vp_in_nI (by omega) (by omega)) dL_law_156 ?_
        refine lv_aload_n hx hb dL_law_157 rfl (lv_at hl 3 rfl) ?_
        have hok := (hI k Sc Sr hJ hk).1
        obtain ⟨res, bb, Sq, hres, hq, hinl, hinr⟩ := hok (xs (Int32.toNatClampNeg ((nI i) + (nI 1)))) (xs (Int32.toNatClampNeg ((nI i) + (nI 2))))
        refine va_calli (rnW (As := [.ref (ad 30), .int (xs (Int32.toNatClampNeg ((nI i) + (nI 1)))), .int (xs (Int32.toNatClampNeg ((nI i) + (nI 2)))), .ref o]) (rest := []) ⟨hx, hb, hml, hown, hts⟩ (c_L_write hfl hO hres (fun e he => (hinl e he).1)) (vx_cwSW 4 hts gL_law_L_write rfl rfl rfl cdS_L_write ⟨(Nat.le_of_ble_eq_true rfl), (Nat.le_of_ble_eq_true rfl)⟩) hP hK hN hZ hC hgA hS rfl hl.1 rfl (Nat.le_of_ble_eq_true rfl) dL_law_158 ⟨by show cN + 1 ≤ 601024; omega, by show sN + 6 ≤ 7293034; omega⟩) hS (fun q _ h => hgA q h) (fun q h => hgA q h) (fun r9 u9 t H locs ht _ hw hB _ hkH hS => ?_)
        replace hP : va_P D vwCl (cw cyI ad u9.1 ++ [oc cyJ o u9.2]) H := by rw [← ht]; exact hB
        replace hPm : va_P D vwCl (mw cyI cyJ cyZ bd Sr) H := P_kept hPm hkH hdM
        obtain ⟨Su, fu⟩ := u9
        rcases res with e9 | ⟨v9, Sd⟩
        · obtain ⟨hw1, hw2⟩ := hw
          have hw2 : Su = Sc := hw2
          subst hw2
          obtain ⟨hex, h47, hJ⟩ := hinl e9 rfl
          have hr0 : ¬ r9 = 0 := by rw [hw1]; exact tbn_ex12_tb12 hex
          have h47 : rs Sq 47 = r9 := h47.trans hw1.symm
          refine lv_istore (lv' := [(5, .int r9), (0, .ref b), (1, .ref (ad 30)), (2, .ref (bd 0)), (3, .ref o), (4, .int (nI i))]) hx hb dL_law_161 hl (by decide) rfl (fun ls hl => ?_)
          refine lv_aload_n hx hb dL_law_163 rfl (lv_at hl 3 rfl) ?_
          refine lv_aload_n hx hb dL_law_164 rfl (lv_at hl 1 rfl) ?_
          refine lv_iload hx hb dL_law_165 (lv_at hl 5 rfl) ?_
          refine lv_iconst (v := nI 1) hx hb dL_law_167 (by decide) ?_
          refine lv_iadd hx hb dL_law_168 ?_
          refine va_sld hx hb hX hbl hbA hS (by rw [nI_add]; exact vp_in_nI (by omega) (by omega)) dL_law_169 ?_
          refine lv_aload_n hx hb dL_law_170 rfl (lv_at hl 1 rfl) ?_
          refine lv_iload hx hb dL_law_171 (lv_at hl 5 rfl) ?_
          refine lv_iconst (v := nI 2) hx hb dL_law_173 (by decide) ?_
          refine lv_iadd hx hb dL_law_174 ?_
          refine va_sld hx hb hX hbl hbA hS (by rw [nI_add]; exact vp_in_nI (by omega) (by omega)) dL_law_175 ?_
          refine va_calli (rnV (A := MA bd) (As := [.int (xs (Int32.toNatClampNeg ((nI i) + (nI 1)))), .int (xs (Int32.toNatClampNeg ((nI i) + (nI 2))))]) (rest := []) ⟨hx, hb, hml, hown, hts⟩ (c_X7_write hM.1 hq) (cwV 2 hts gL_law_X7_write rfl rfl rfl cdV_X7_write ⟨(Nat.le_of_ble_eq_true rfl), (Nat.le_of_ble_eq_true rfl)⟩) hPm hK hN mw_o rfl rfl hl.1 rfl (Nat.le_of_ble_eq_true rfl) dL_law_176 ⟨by show cN + 1 + 0 ≤ 601024; omega, by show sN + 6 + 0 ≤ 7293034; omega⟩) hS (fun q _ h => hgM q h) (fun q h => hgM q h) (fun r7 _ t H locs ht _ hw7 hB _ hkH hS => ?_)
          have hw7 : r7 = bb := hw7
          subst r7
          replace hPm : va_P D vwCl (mw cyI cyJ cyZ bd Sq) H := by rw [← ht]; exact hB
          replace hP : va_P D vwCl (cw cyI ad Su ++ [oc cyJ o fu]) H := P_kept hP hkH hdC
          refine lv_istore (lv' := [(6, .int bb), (5, .int r9), (0, .ref b), (1, .ref (ad 30)), (2, .ref (bd 0)), (3, .ref o), (4, .int (nI i))]) hx hb dL_law_179 hl (by decide) rfl (fun ls hl => ?_)
          refine lv_aload_n hx hb dL_law_181 rfl (lv_at hl 4 rfl) ?_
          refine va_calli (rnV (A := MA bd) (As := []) (rest := []) ⟨hx, hb, hml, hown, hts⟩ (c_X7_thrown hM.1 (show m_X7_thrown Sq = some (rs Sq 47) from rfl)) (cwV 0 hts gL_law_X7_thrown rfl rfl rfl cdV_X7_thrown ⟨(Nat.le_of_ble_eq_true rfl), (Nat.le_of_ble_eq_true rfl)⟩) hPm hK hN mw_o rfl rfl hl.1 rfl (Nat.le_of_ble_eq_true rfl) dL_law_182 ⟨by show cN + 1 + 0 ≤ 601024; omega, by show sN + 6 + 0 ≤ 7293034; omega⟩) hS (fun q _ h => hgM q h) (fun q h => hgM q h) (fun r7 _ t H locs ht _ hw7 hB _ hkH hS => ?_)
          have hw7 : r7 = (rs Sq 47) := hw7
          subst r7
          replace hPm : va_P D vwCl (mw cyI cyJ cyZ bd Sq) H := by rw [← ht]; exact hB
          replace hP : va_P D vwCl (cw cyI ad Su ++ [oc cyJ o fu]) H := P_kept hP hkH hdC
          refine lv_iload hx hb dL_law_185 (lv_at hl 1 rfl) ?_
          refine lv_icmp_eq (tgt := 192) hx hb dL_law_187 (by decide) (fun _ => ?_) (fun hq => absurd h47 hq)
          refine lv_iload hx hb dL_law_192 (lv_at hl 1 rfl) ?_
          refine lv_if_ne (tgt := 209) hx hb dL_law_194 (by decide) (fun _ => ?_) (fun hq => absurd hq hr0)
          refine lv_goto (tgt := 1380) hx hb dL_law_209 (by decide) ?_
          refine lv_iinc (v := nI (6 * (k + 1))) (lv' := [(4, .int (nI (6 * (k + 1)))), (6, .int bb), (5, .int r9), (0, .ref b), (1, .ref (ad 30)), (2, .ref (bd 0)), (3, .ref o)]) hx hb dL_law_1380 hl (k := 6) rfl (by rw [hik]; show nI (6 * k) + nI 6 = _; rw [nI_add]; congr 1) (by decide) rfl (fun ls hl => ?_)
          refine lv_goto (tgt := 23) hx hb dL_law_1383 (by decide) ?_
          exact ih (k + 1) Su Sq fu (cN + 1) (sN + 6) (by omega) (by omega) hJ (by omega) (by omega) _ _ _ hP hPm hS (lv_sub hl [3, 4, 5, 6, 0] rfl)
        · obtain ⟨hw1, hw2, hw3⟩ := hw
          have hw1 : r9 = 0 := hw1
          have hw2 : Su = Sd := hw2
          subst hw2
          obtain ⟨h47, hcv, hJ⟩ := hinr v9 Su rfl
          have h47 : rs Sq 47 = r9 := h47.trans hw1.symm
          have hcv : fu (Int32.toNatClampNeg (nI 0)) = Int32.toInt64 bb := hw3.trans hcv
          refine lv_istore (lv' := [(5, .int r9), (0, .ref b), (1, .ref (ad 30)), (2, .ref (bd 0)), (3, .ref o), (4, .int (nI i))]) hx hb dL_law_161 hl (by decide) rfl (fun ls hl => ?_)
          refine lv_aload_n hx hb dL_law_163 rfl (lv_at hl 3 rfl) ?_
          refine lv_aload_n hx hb dL_law_164 rfl (lv_at hl 1 rfl) ?_
          refine lv_iload hx hb dL_law_165 (lv_at hl 5 rfl) ?_
          refine lv_iconst (v := nI 1) hx hb dL_law_167 (by decide) ?_
          refine lv_iadd hx hb dL_law_168 ?_
          refine va_sld hx hb hX hbl hbA hS (by rw [nI_add]; exact vp_in_nI (by omega) (by omega)) dL_law_169 ?_
          refine lv_aload_n hx hb dL_law_170 rfl (lv_at hl 1 rfl) ?_
          refine lv_iload hx hb dL_law_171 (lv_at hl 5 rfl) ?_
          refine lv_iconst (v := nI 2) hx hb dL_law_173 (by decide) ?_
          refine lv_iadd hx hb dL_law_174 ?_
          refine va_sld hx hb hX hbl hbA hS (by rw [nI_add]; exact vp_in_nI (by omega) (by omega)) dL_law_175 ?_
          refine va_calli (rnV (A := MA bd) (As := [.int (xs (Int32.toNatClampNeg ((nI i) + (nI 1)))), .int (xs (Int32.toNatClampNeg ((nI i) + (nI 2))))]) (rest := []) ⟨hx, hb, hml, hown, hts⟩ (c_X7_write hM.1 hq) (cwV 2 hts gL_law_X7_write rfl rfl rfl cdV_X7_write ⟨(Nat.le_of_ble_eq_true rfl), (Nat.le_of_ble_eq_true rfl)⟩) hPm hK hN mw_o rfl rfl hl.1 rfl (Nat.le_of_ble_eq_true rfl) dL_law_176 ⟨by show cN + 1 + 0 ≤ 601024; omega, by show sN + 6 + 0 ≤ 7293034; omega⟩) hS (fun q _ h => hgM q h) (fun q h => hgM q h) (fun r7 _ t H locs ht _ hw7 hB _ hkH hS => ?_)
          have hw7 : r7 = bb := hw7
          subst r7
          replace hPm : va_P D vwCl (mw cyI cyJ cyZ bd Sq) H := by rw [← ht]; exact hB
          replace hP : va_P D vwCl (cw cyI ad Su ++ [oc cyJ o fu]) H := P_kept hP hkH hdC
          refine lv_istore (lv' := [(6, .int bb), (5, .int r9), (0, .ref b), (1, .ref (ad 30)), (2, .ref (bd 0)), (3, .ref o), (4, .int (nI i))]) hx hb dL_law_179 hl (by decide) rfl (fun ls hl => ?_)
          refine lv_aload_n hx hb dL_law_181 rfl (lv_at hl 4 rfl) ?_
          refine va_calli (rnV (A := MA bd) (As := []) (rest := []) ⟨hx, hb, hml, hown, hts⟩ (c_X7_thrown hM.1 (show m_X7_thrown Sq = some (rs Sq 47) from rfl)) (cwV 0 hts gL_law_X7_thrown rfl rfl rfl cdV_X7_thrown ⟨(Nat.le_of_ble_eq_true rfl), (Nat.le_of_ble_eq_true rfl)⟩) hPm hK hN mw_o rfl rfl hl.1 rfl (Nat.le_of_ble_eq_true rfl) dL_law_182 ⟨by show cN + 1 + 0 ≤ 601024; omega, by show sN + 6 + 0 ≤ 7293034; omega⟩) hS (fun q _ h => hgM q h) (fun q h => hgM q h) (fun r7 _ t H locs ht _ hw7 hB _ hkH hS => ?_)
          have hw7 : r7 = (rs Sq 47) := hw7
          subst r7
          replace hPm : va_P D vwCl (mw cyI cyJ cyZ bd Sq) H := by rw [← ht]; exact hB
          replace hP : va_P D vwCl (cw cyI ad Su ++ [oc cyJ o fu]) H := P_kept hP hkH hdC
          refine lv_iload hx hb dL_law_185 (lv_at hl 1 rfl) ?_
          refine lv_icmp_eq (tgt := 192) hx hb dL_law_187 (by decide) (fun _ => ?_) (fun hq => absurd h47 hq)
          refine lv_iload hx hb dL_law_192 (lv_at hl 1 rfl) ?_
          refine lv_if_ne (tgt := 209) hx hb dL_law_194 (by decide) (fun hq => absurd hw1 hq) (fun _ => ?_)
          refine lv_aload_n hx hb dL_law_197 rfl (lv_at hl 5 rfl) ?_
          refine lv_iconst (v := nI 0) hx hb dL_law_198 (by decide) ?_
          refine va_lald hx hb hK (P_right hP) 0 1 (f := fu) rfl rfl (vp_in_nI (by decide) (by decide)) dL_law_199 ?_
          refine lv_iload hx hb dL_law_200 (lv_at hl 0 rfl) ?_
          refine lv_i2l hx hb dL_law_202 rfl ?_
          refine W.lcmp hx hb dL_law_203 ?_
          refine lv_if_eq (tgt := 209) hx hb dL_law_204 (by decide) (fun _ => ?_) (fun hq => absurd (lg_self hcv) hq)
          refine lv_goto (tgt := 1380) hx hb dL_law_209 (by decide) ?_
          refine lv_iinc (v := nI (6 * (k + 1))) (lv' := [(4, .int (nI (6 * (k + 1)))), (6, .int bb), (5, .int r9), (0, .ref b), (1, .ref (ad 30)), (2, .ref (bd 0)), (3, .ref o)]) hx hb dL_law_1380 hl (k := 6) rfl (by rw [hik]; show nI (6 * k) + nI 6 = _; rw [nI_add]; congr 1) (by decide) rfl (fun ls hl => ?_)
          refine lv_goto (tgt := 23) hx hb dL_law_1383 (by decide) ?_
          exact ih (k + 1) Su Sq fu (cN + 1) (sN + 6) (by omega) (by omega) hJ (by omega) (by omega) _ _ _ hP hPm hS (lv_sub hl [3, 4, 5, 6, 0] rfl)
      · refine lv_tableIn (off := 172) (tgt := 212) hx hb dL_law_40 (by decide) (by decide) rfl (by decide) ?_
        refine lv_aload_n hx hb dL_law_212 rfl (lv_at hl 1 rfl) ?_
        refine lv_aload_n hx hb dL_law_213 rfl (lv_at hl 0 rfl) ?_
        refine lv_iload hx hb dL_law_214 (lv_at hl 4 rfl) ?_
        refine lv_iconst (v := nI 1) hx hb dL_law_216 (by decide) ?_
        refine lv_iadd hx hb dL_law_217 ?_
        refine va_sld hx hb hX hbl hbA hS (by rw [nI_add]; exact vp_in_nI (by omega) (by omega)) dL_law_218 ?_
        refine lv_aload_n hx hb dL_law_219 rfl (lv_at hl 0 rfl) ?_
        refine lv_iload hx hb dL_law_220 (lv_at hl 4 rfl) ?_
        refine lv_iconst (v := nI 2) hx hb dL_law_222 (by decide) ?_
        refine lv_iadd hx hb dL_law_223 ?_
        refine va_sld hx hb hX hbl hbA hS (by rw [nI_add]; exact vp_in_nI (by omega) (by omega)) dL_law_224 ?_
        refine lv_aload_n hx hb dL_law_225 rfl (lv_at hl 0 rfl) ?_
        refine lv_iload hx hb dL_law_226 (lv_at hl 4 rfl) ?_
        refine lv_iconst (v := nI 3) hx hb dL_law_228 (by decide) ?_
        refine lv_iadd hx hb dL_law_229 ?_
        refine va_sld hx hb hX hbl hbA hS (by rw [nI_add]; exact vp_in_nI (by omega) (by omega)) dL_law_230 ?_
        refine lv_aload_n hx hb dL_law_231 rfl (lv_at hl 0 rfl) ?_
        refine lv_iload hx hb dL_law_232 (lv_at hl 4 rfl) ?_
        refine lv_iconst (v := nI 4) hx hb dL_law_234 (by decide) ?_
        refine lv_iadd hx hb dL_law_235 ?_
        refine va_sld hx hb hX hbl hbA hS (by rw [nI_add]; exact vp_in_nI (by omega) (by omega)) dL_law_236 ?_
        refine lv_aload_n hx hb dL_law_237 rfl (lv_at hl 0 rfl) ?_
        refine lv_iload hx hb dL_law_238 (lv_at hl 4 rfl) ?_
        refine lv_iconst (v := nI 5) hx hb dL_law_240 (by decide) ?_
        refine lv_iadd hx hb dL_law_241 ?_
        refine va_sld hx hb hX hbl hbA hS (by rw [nI_add]; exact vp_in_nI (by omega) (by omega)) dL_law_242 ?_
        refine lv_aload_n hx hb dL_law_243 rfl (lv_at hl 3 rfl) ?_
        have hok := (hI k Sc Sr hJ hk).2.1
        obtain ⟨res, bb, Sq, hres, hq, hinl, hinr⟩ := hok (xs (Int32.toNatClampNeg ((nI i) + (nI 1)))) (xs (Int32.toNatClampNeg ((nI i) + (nI 2)))) (xs (Int32.toNatClampNeg ((nI i) + (nI 3)))) (xs (Int32.toNatClampNeg ((nI i) + (nI 4)))) (xs (Int32.toNatClampNeg ((nI i) + (nI 5))))
        refine va_calli (rnW (As := [.ref (ad 30), .int (xs (Int32.toNatClampNeg ((nI i) + (nI 1)))), .int (xs (Int32.toNatClampNeg ((nI i) + (nI 2)))), .int (xs (Int32.toNatClampNeg ((nI i) + (nI 3)))), .int (xs (Int32.toNatClampNeg ((nI i) + (nI 4)))), .int (xs (Int32.toNatClampNeg ((nI i) + (nI 5)))), .ref o]) (rest := []) ⟨hx, hb, hml, hown, hts⟩ (c_L_rule hfl hO hres (fun e he => (hinl e he).1)) (vx_cwSW 7 hts gL_law_L_rule rfl rfl rfl cdS_L_rule ⟨(Nat.le_of_ble_eq_true rfl), (Nat.le_of_ble_eq_true rfl)⟩) hP hK hN hZ hC hgA hS rfl hl.1 rfl (Nat.le_of_ble_eq_true rfl) dL_law_244 ⟨by show cN + 2 ≤ 601024; omega, by show sN + 12 ≤ 7293034; omega⟩) hS (fun q _ h => hgA q h) (fun q h => hgA q h) (fun r9 u9 t H locs ht _ hw hB _ hkH hS => ?_)
        replace hP : va_P D vwCl (cw cyI ad u9.1 ++ [oc cyJ o u9.2]) H := by rw [← ht]; exact hB
        replace hPm : va_P D vwCl (mw cyI cyJ cyZ bd Sr) H := P_kept hPm hkH hdM
        obtain ⟨Su, fu⟩ := u9
        rcases res with e9 | ⟨v9, Sd⟩
        · obtain ⟨hw1, hw2⟩ := hw
          have hw2 : Su = Sc := hw2
          subst hw2
          obtain ⟨hex, h47, hJ⟩ := hinl e9 rfl
          have hr0 : ¬ r9 = 0 := by rw [hw1]; exact tbn_ex12_tb12 hex
          have h47 : rs Sq 47 = r9 := h47.trans hw1.symm
          refine lv_istore (lv' := [(5, .int r9), (0, .ref b), (1, .ref (ad 30)), (2, .ref (bd 0)), (3, .ref o), (4, .int (nI i))]) hx hb dL_law_247 hl (by decide) rfl (fun ls hl => ?_)
          refine lv_aload_n hx hb dL_law_249 rfl (lv_at hl 3 rfl) ?_
          refine lv_aload_n hx hb dL_law_250 rfl (lv_at hl 1 rfl) ?_
          refine lv_iload hx hb dL_law_251 (lv_at hl 5 rfl) ?_
          refine lv_iconst (v := nI 1) hx hb dL_law_253 (by decide) ?_
          refine lv_iadd hx hb dL_law_254 ?_
          refine va_sld hx hb hX hbl hbA hS (by rw [nI_add]; exact vp_in_nI (by omega) (by omega)) dL_law_255 ?_
          refine lv_aload_n hx hb dL_law_256 rfl (lv_at hl 1 rfl) ?_
          refine lv_iload hx hb dL_law_257 (lv_at hl 5 rfl) ?_
          refine lv_iconst (v := nI 2) hx hb dL_law_259 (by decide) ?_
          refine lv_iadd hx hb dL_law_260 ?_
          refine va_sld hx hb hX hbl hbA hS (by rw [nI_add]; exact vp_in_nI (by omega) (by omega)) dL_law_261 ?_
          refine lv_aload_n hx hb dL_law_262 rfl (lv_at hl 1 rfl) ?_
          refine lv_iload hx hb dL_law_263 (lv_at hl 5 rfl) ?_
          refine lv_iconst (v := nI 3) hx hb dL_law_265 (by decide) ?_
          refine lv_iadd hx hb dL_law_266 ?_
          refine va_sld hx hb hX hbl hbA hS (by rw [nI_add]; exact vp_in_nI (by omega) (by omega)) dL_law_267 ?_
          refine lv_aload_n hx hb dL_law_268 rfl (lv_at hl 1 rfl) ?_
          refine lv_iload hx hb dL_law_269 (lv_at hl 5 rfl) ?_
          refine lv_iconst (v := nI 4) hx hb dL_law_271 (by decide) ?_
          refine lv_iadd hx hb dL_law_272 ?_
          refine va_sld hx hb hX hbl hbA hS (by rw [nI_add]; exact vp_in_nI (by omega) (by omega)) dL_law_273 ?_
          refine lv_aload_n hx hb dL_law_274 rfl (lv_at hl 1 rfl) ?_
          refine lv_iload hx hb dL_law_275 (lv_at hl 5 rfl) ?_
          refine lv_iconst (v := nI 5) hx hb dL_law_277 (by decide) ?_
          refine lv_iadd hx hb dL_law_278 ?_
          refine va_sld hx hb hX hbl hbA hS (by rw [nI_add]; exact vp_in_nI (by omega) (by omega)) dL_law_279 ?_
          refine va_calli (rnV (A := MA bd) (As := [.int (xs (Int32.toNatClampNeg ((nI i) + (nI 1)))), .int (xs (Int32.toNatClampNeg ((nI i) + (nI 2)))), .int (xs (Int32.toNatClampNeg ((nI i) + (nI 3)))), .int (xs (Int32.toNatClampNeg ((nI i) + (nI 4)))), .int (xs (Int32.toNatClampNeg ((nI i) + (nI 5))))]) (rest := []) ⟨hx, hb, hml, hown, hts⟩ (c_X7_rule hM.1 hq) (cwV 5 hts gL_law_X7_rule rfl rfl rfl cdV_X7_rule ⟨(Nat.le_of_ble_eq_true rfl), (Nat.le_of_ble_eq_true rfl)⟩) hPm hK hN mw_o rfl rfl hl.1 rfl (Nat.le_of_ble_eq_true rfl) dL_law_280 ⟨by show cN + 2 + 0 ≤ 601024; omega, by show sN + 12 + 0 ≤ 7293034; omega⟩) hS (fun q _ h => hgM q h) (fun q h => hgM q h) (fun r7 _ t H locs ht _ hw7 hB _ hkH hS => ?_)
          have hw7 : r7 = bb := hw7
          subst r7
          replace hPm : va_P D vwCl (mw cyI cyJ cyZ bd Sq) H := by rw [← ht]; exact hB
          replace hP : va_P D vwCl (cw cyI ad Su ++ [oc cyJ o fu]) H := P_kept hP hkH hdC
          refine lv_istore (lv' := [(6, .int bb), (5, .int r9), (0, .ref b), (1, .ref (ad 30)), (2, .ref (bd 0)), (3, .ref o), (4, .int (nI i))]) hx hb dL_law_283 hl (by decide) rfl (fun ls hl => ?_)
          refine lv_aload_n hx hb dL_law_285 rfl (lv_at hl 4 rfl) ?_
          refine va_calli (rnV (A := MA bd) (As := []) (rest := []) ⟨hx, hb, hml, hown, hts⟩ (c_X7_thrown hM.1 (show m_X7_thrown Sq = some (rs Sq 47) from rfl)) (cwV 0 hts gL_law_X7_thrown rfl rfl rfl cdV_X7_thrown ⟨(Nat.le_of_ble_eq_true rfl), (Nat.le_of_ble_eq_true rfl)⟩) hPm hK hN mw_o rfl rfl hl.1 rfl (Nat.le_of_ble_eq_true rfl) dL_law_286 ⟨by show cN + 2 + 0 ≤ 601024; omega, by show sN + 12 + 0 ≤ 7293034; omega⟩) hS (fun q _ h => hgM q h) (fun q h => hgM q h) (fun r7 _ t H locs ht _ hw7 hB _ hkH hS => ?_)
          have hw7 : r7 = (rs Sq 47) := hw7
          subst r7
          replace hPm : va_P D vwCl (mw cyI cyJ cyZ bd Sq) H := by rw [← ht]; exact hB
          replace hP : va_P D vwCl (cw cyI ad Su ++ [oc cyJ o fu]) H := P_kept hP hkH hdC
          refine lv_iload hx hb dL_law_289 (lv_at hl 1 rfl) ?_
          refine lv_icmp_eq (tgt := 296) hx hb dL_law_291 (by decide) (fun _ => ?_) (fun hq => absurd h47 hq)
          refine lv_iload hx hb dL_law_296 (lv_at hl 1 rfl) ?_
          refine lv_if_ne (tgt := 320) hx hb dL_law_298 (by decide) (fun _ => ?_) (fun hq => absurd hq hr0)
          refine lv_goto (tgt := 1380) hx hb dL_law_320 (by decide) ?_
          refine lv_iinc (v := nI (6 * (k + 1))) (lv' := [(4, .int (nI (6 * (k + 1)))), (6, .int bb), (5, .int r9), (0, .ref b), (1, .ref (ad 30)), (2, .ref (bd 0)), (3, .ref o)]) hx hb dL_law_1380 hl (k := 6) rfl (by rw [hik]; show nI (6 * k) + nI 6 = _; rw [nI_add]; congr 1) (by decide) rfl (fun ls hl => ?_)
          refine lv_goto (tgt := 23) hx hb dL_law_1383 (by decide) ?_
          exact ih (k + 1) Su Sq fu (cN + 2) (sN + 12) (by omega) (by omega) hJ (by omega) (by omega) _ _ _ hP hPm hS (lv_sub hl [3, 4, 5, 6, 0] rfl)
        · obtain ⟨hw1, hw2, hw3⟩ := hw
          have hw1 : r9 = 0 := hw1
          have hw2 : Su = Sd := hw2
          subst hw2
          obtain ⟨h47, hcv, hJ⟩ := hinr v9 Su rfl
          have h47 : rs Sq 47 = r9 := h47.trans hw1.symm
          have hcv : fu (Int32.toNatClampNeg (nI 0)) = cvZ bb := hw3.trans hcv
          refine lv_istore (lv' := [(5, .int r9), (0, .ref b), (1, .ref (ad 30)), (2, .ref (bd 0)), (3, .ref o), (4, .int (nI i))]) hx hb dL_law_247 hl (by decide) rfl (fun ls hl => ?_)
          refine lv_aload_n hx hb dL_law_249 rfl (lv_at hl 3 rfl) ?_
          refine lv_aload_n hx hb dL_law_250 rfl (lv_at hl 1 rfl) ?_
          refine lv_iload hx hb dL_law_251 (lv_at hl 5 rfl) ?_
          refine lv_iconst (v := nI 1) hx hb dL_law_253 (by decide) ?_
          refine lv_iadd hx hb dL_law_254 ?_
          refine va_sld hx hb hX hbl hbA hS (by rw [nI_add]; exact vp_in_nI (by omega) (by omega)) dL_law_255 ?_
          refine lv_aload_n hx hb dL_law_256 rfl (lv_at hl 1 rfl) ?_
          refine lv_iload hx hb dL_law_257 (lv_at hl 5 rfl) ?_
          refine lv_iconst (v := nI 2) hx hb dL_law_259 (by decide) ?_
          refine lv_iadd hx hb dL_law_260 ?_
          refine va_sld hx hb hX hbl hbA hS (by rw [nI_add]; exact vp_in_nI (by omega) (by omega)) dL_law_261 ?_
          refine lv_aload_n hx hb dL_law_262 rfl (lv_at hl 1 rfl) ?_
          refine lv_iload hx hb dL_law_263 (lv_at hl 5 rfl) ?_
          refine lv_iconst (v := nI 3) hx hb dL_law_265 (by decide) ?_
          refine lv_iadd hx hb dL_law_266 ?_
          refine va_sld hx hb hX hbl hbA hS (by rw [nI_add]; exact vp_in_nI (by omega) (by omega)) dL_law_267 ?_
          refine lv_aload_n hx hb dL_law_268 rfl (lv_at hl 1 rfl) ?_
          refine lv_iload hx hb dL_law_269 (lv_at hl 5 rfl) ?_
          refine lv_iconst (v := nI 4) hx hb dL_law_271 (by decide) ?_
          refine lv_iadd hx hb dL_law_272 ?_
          refine va_sld hx hb hX hbl hbA hS (by rw [nI_add]; exact vp_in_nI (by omega) (by omega)) dL_law_273 ?_
          refine lv_aload_n hx hb dL_law_274 rfl (lv_at hl 1 rfl) ?_
          refine lv_iload hx hb dL_law_275 (lv_at hl 5 rfl) ?_
          refine lv_iconst (v := nI 5) hx hb dL_law_277 (by decide) ?_
          refine lv_iadd hx hb dL_law_278 ?_
          refine va_sld hx hb hX hbl hbA hS (by rw [nI_add]; exact vp_in_nI (by omega) (by omega)) dL_law_279 ?_
          refine va_calli (rnV (A := MA bd) (As := [.int (xs (Int32.toNatClampNeg ((nI i) + (nI 1)))), .int (xs (Int32.toNatClampNeg ((nI i) + (nI 2)))), .int (xs (Int32.toNatClampNeg ((nI i) + (nI 3)))), .int (xs (Int32.toNatClampNeg ((nI i) + (nI 4)))), .int (xs (Int32.toNatClampNeg ((nI i) + (nI 5))))]) (rest := []) ⟨hx, hb, hml, hown, hts⟩ (c_X7_rule hM.1 hq) (cwV 5 hts gL_law_X7_rule rfl rfl rfl cdV_X7_rule ⟨(Nat.le_of_ble_eq_true rfl), (Nat.le_of_ble_eq_true rfl)⟩) hPm hK hN mw_o rfl rfl hl.1 rfl (Nat.le_of_ble_eq_true rfl) dL_law_280 ⟨by show cN + 2 + 0 ≤ 601024; omega, by show sN + 12 + 0 ≤ 7293034; omega⟩) hS (fun q _ h => hgM q h) (fun q h => hgM q h) (fun r7 _ t H locs ht _ hw7 hB _ hkH hS => ?_)
          have hw7 : r7 = bb := hw7
          subst r7
          replace hPm : va_P D vwCl (mw cyI cyJ cyZ bd Sq) H := by rw [← ht]; exact hB
          replace hP : va_P D vwCl (cw cyI ad Su ++ [oc cyJ o fu]) H := P_kept hP hkH hdC
          refine lv_istore (lv' := [(6, .int bb), (5, .int r9), (0, .ref b), (1, .ref (ad 30)), (2, .ref (bd 0)), (3, .ref o), (4, .int (nI i))]) hx hb dL_law_283 hl (by decide) rfl (fun ls hl => ?_)
          refine lv_aload_n hx hb dL_law_285 rfl (lv_at hl 4 rfl) ?_
          refine va_calli (rnV (A := MA bd) (As := []) (rest := []) ⟨hx, hb, hml, hown, hts⟩ (c_X7_thrown hM.1 (show m_X7_thrown Sq = some (rs Sq 47) from rfl)) (cwV 0 hts gL_law_X7_thrown rfl rfl rfl cdV_X7_thrown ⟨(Nat.le_of_ble_eq_true rfl), (Nat.le_of_ble_eq_true rfl)⟩) hPm hK hN mw_o rfl rfl hl.1 rfl (Nat.le_of_ble_eq_true rfl) dL_law_286 ⟨by show cN + 2 + 0 ≤ 601024; omega, by show sN + 12 + 0 ≤ 7293034; omega⟩) hS (fun q _ h => hgM q h) (fun q h => hgM q h) (fun r7 _ t H locs ht _ hw7 hB _ hkH hS => ?_)
          have hw7 : r7 = (rs Sq 47) := hw7
          subst r7
          replace hPm : va_P D vwCl (mw cyI cyJ cyZ bd Sq) H := by rw [← ht]; exact hB
          replace hP : va_P D vwCl (cw cyI ad Su ++ [oc cyJ o fu]) H := P_kept hP hkH hdC
          refine lv_iload hx hb dL_law_289 (lv_at hl 1 rfl) ?_
          refine lv_icmp_eq (tgt := 296) hx hb dL_law_291 (by decide) (fun _ => ?_) (fun hq => absurd h47 hq)
          refine lv_iload hx hb dL_law_296 (lv_at hl 1 rfl) ?_
          refine lv_if_ne (tgt := 320) hx hb dL_law_298 (by decide) (fun hq => absurd hw1 hq) (fun _ => ?_)
          refine lv_aload_n hx hb dL_law_301 rfl (lv_at hl 5 rfl) ?_
          refine lv_iconst (v := nI 0) hx hb dL_law_302 (by decide) ?_
          refine va_lald hx hb hK (P_right hP) 0 1 (f := fu) rfl rfl (vp_in_nI (by decide) (by decide)) dL_law_303 ?_
          refine lv_iload hx hb dL_law_304 (lv_at hl 0 rfl) ?_
          refine lv_if_eq (tgt := 313) hx hb dL_law_306 (by decide) (fun hz0 => ?_) (fun hz0 => ?_)
          · refine lv_lconst (v := 0) hx hb dL_law_313 rfl ?_
            refine W.lcmp hx hb dL_law_314 ?_
            refine lv_if_eq (tgt := 320) hx hb dL_law_315 (by decide) (fun _ => ?_) (fun hq => absurd (lg_self (hcv.trans (if_pos hz0))) hq)
            refine lv_goto (tgt := 1380) hx hb dL_law_320 (by decide) ?_
            refine lv_iinc (v := nI (6 * (k + 1))) (lv' := [(4, .int (nI (6 * (k + 1)))), (6, .int bb), (5, .int r9), (0, .ref b), (1, .ref (ad 30)), (2, .ref (bd 0)), (3, .ref o)]) hx hb dL_law_1380 hl (k := 6) rfl (by rw [hik]; show nI (6 * k) + nI 6 = _; rw [nI_add]; congr 1) (by decide) rfl (fun ls hl => ?_)
            refine lv_goto (tgt := 23) hx hb dL_law_1383 (by decide) ?_
            exact ih (k + 1) Su Sq fu (cN + 2) (sN + 12) (by omega) (by omega) hJ (by omega) (by omega) _ _ _ hP hPm hS (lv_sub hl [3, 4, 5, 6, 0] rfl)
          · refine lv_lconst (v := 1) hx hb dL_law_309 rfl ?_
            refine lv_goto (tgt := 314) hx hb dL_law_310 (by decide) ?_
            refine W.lcmp hx hb dL_law_314 ?_
            refine lv_if_eq (tgt := 320) hx hb dL_law_315 (by decide) (fun _ => ?_) (fun hq => absurd (lg_self (hcv.trans (if_neg hz0))) hq)
            refine lv_goto (tgt := 1380) hx hb dL_law_320 (by decide) ?_
            refine lv_iinc (v := nI (6 * (k + 1))) (lv' := [(4, .int (nI (6 * (k + 1)))), (6, .int bb), (5, .int r9), (0, .ref b), (1, .ref (ad 30)), (2, .ref (bd 0)), (3, .ref o)]) hx hb dL_law_1380 hl (k := 6) rfl (by rw [hik]; show nI (6 * k) + nI 6 = _; rw [nI_add]; congr 1) (by decide) rfl (fun ls hl => ?_)
            refine lv_goto (tgt := 23) hx hb dL_law_1383 (by decide) ?_
            exact ih (k + 1) Su Sq fu (cN + 2) (sN + 12) (by omega) (by omega) hJ (by omega) (by omega) _ _ _ hP hPm hS (lv_sub hl [3, 4, 5, 6, 0] rfl)
      · refine lv_tableIn (off := 283) (tgt := 323) hx hb dL_law_40 (by decide) (by decide) rfl (by decide) ?_
        refine lv_aload_n hx hb dL_law_323 rfl (lv_at hl 1 rfl) ?_
        refine lv_aload_n hx hb dL_law_324 rfl (lv_at hl 0 rfl) ?_
        refine lv_iload hx hb dL_law_325 (lv_at hl 4 rfl) ?_
        refine lv_iconst (v := nI 1) hx hb dL_law_327 (by decide) ?_
        refine lv_iadd hx hb dL_law_328 ?_
        refine va_sld hx hb hX hbl hbA hS (by rw [nI_add]; exact vp_in_nI (by omega) (by omega)) dL_law_329 ?_
        refine lv_aload_n hx hb dL_law_330 rfl (lv_at hl 0 rfl) ?_
        refine lv_iload hx hb dL_law_331 (lv_at hl 4 rfl) ?_
        refine lv_iconst (v := nI 2) hx hb dL_law_333 (by decide) ?_
        refine lv_iadd hx hb dL_law_334 ?_
        refine va_sld hx hb hX hbl hbA hS (by rw [nI_add]; exact vp_in_nI (by omega) (by omega)) dL_law_335 ?_
        refine lv_aload_n hx hb dL_law_336 rfl (lv_at hl 0 rfl) ?_
        refine lv_iload hx hb dL_law_337 (lv_at hl 4 rfl) ?_
        refine lv_iconst (v := nI 3) hx hb dL_law_339 (by decide) ?_
        refine lv_iadd hx hb dL_law_340 ?_
        refine va_sld hx hb hX hbl hbA hS (by rw [nI_add]; exact vp_in_nI (by omega) (by omega)) dL_law_341 ?_
        refine lv_aload_n hx hb dL_law_342 rfl (lv_at hl 3 rfl) ?_
        have hok := (hI k Sc Sr hJ hk).2.2.1
        obtain ⟨res, bb, Sq, hres, hq, hinl, hinr⟩ := hok (xs (Int32.toNatClampNeg ((nI i) + (nI 1)))) (xs (Int32.toNatClampNeg ((nI i) + (nI 2)))) (xs (Int32.toNatClampNeg ((nI i) + (nI 3))))
        refine va_calli (rnW (As := [.ref (ad 30), .int (xs (Int32.toNatClampNeg ((nI i) + (nI 1)))), .int (xs (Int32.toNatClampNeg ((nI i) + (nI 2)))), .int (xs (Int32.toNatClampNeg ((nI i) + (nI 3)))), .ref o]) (rest := []) ⟨hx, hb, hml, hown, hts⟩ (c_L_input hfl hO hres (fun e he => (hinl e he).1)) (vx_cwSW 5 hts gL_law_L_input rfl rfl rfl cdS_L_input ⟨(Nat.le_of_ble_eq_true rfl), (Nat.le_of_ble_eq_true rfl)⟩) hP hK hN hZ hC hgA hS rfl hl.1 rfl (Nat.le_of_ble_eq_true rfl) dL_law_343 ⟨by show cN + 2 ≤ 601024; omega, by show sN + 12 ≤ 7293034; omega⟩) hS (fun q _ h => hgA q h) (fun q h => hgA q h) (fun r9 u9 t H locs ht _ hw hB _ hkH hS => ?_)
        replace hP : va_P D vwCl (cw cyI ad u9.1 ++ [oc cyJ o u9.2]) H := by rw [← ht]; exact hB
        replace hPm : va_P D vwCl (mw cyI cyJ cyZ bd Sr) H := P_kept hPm hkH hdM
        obtain ⟨Su, fu⟩ := u9
        rcases res with e9 | ⟨v9, Sd⟩
        · obtain ⟨hw1, hw2⟩ := hw
          have hw2 : Su = Sc := hw2
          subst hw2
          obtain ⟨hex, h47, hJ⟩ := hinl e9 rfl
          have hr0 : ¬ r9 = 0 := by rw [hw1]; exact tbn_ex123_tb12 hex
          have h47 : rs Sq 47 = r9 := h47.trans hw1.symm
          refine lv_istore (lv' := [(5, .int r9), (0, .ref b), (1, .ref (ad 30)), (2, .ref (bd 0)), (3, .ref o), (4, .int (nI i))]) hx hb dL_law_346 hl (by decide) rfl (fun ls hl => ?_)
          refine lv_aload_n hx hb dL_law_348 rfl (lv_at hl 3 rfl) ?_
          refine lv_aload_n hx hb dL_law_349 rfl (lv_at hl 1 rfl) ?_
          refine lv_iload hx hb dL_law_350 (lv_at hl 5 rfl) ?_
          refine lv_iconst (v := nI 1) hx hb dL_law_352 (by decide) ?_
          refine lv_iadd hx hb dL_law_353 ?_
          refine va_sld hx hb hX hbl hbA hS (by rw [nI_add]; exact vp_in_nI (by omega) (by omega)) dL_law_354 ?_
          refine lv_aload_n hx hb dL_law_355 rfl (lv_at hl 1 rfl) ?_
          refine lv_iload hx hb dL_law_356 (lv_at hl 5 rfl) ?_
          refine lv_iconst (v := nI 2) hx hb dL_law_358 (by decide) ?_
          refine lv_iadd hx hb dL_law_359 ?_
          refine va_sld hx hb hX hbl hbA hS (by rw [nI_add]; exact vp_in_nI (by omega) (by omega)) dL_law_360 ?_
          refine lv_aload_n hx hb dL_law_361 rfl (lv_at hl 1 rfl) ?_
          refine lv_iload hx hb dL_law_362 (lv_at hl 5 rfl) ?_
          refine lv_iconst (v := nI 3) hx hb dL_law_364 (by decide) ?_
          refine lv_iadd hx hb dL_law_365 ?_
          refine va_sld hx hb hX hbl hbA hS (by rw [nI_add]; exact vp_in_nI (by omega) (by omega)) dL_law_366 ?_
          refine va_calli (rnV (A := MA bd) (As := [.int (xs (Int32.toNatClampNeg ((nI i) + (nI 1)))), .int (xs (Int32.toNatClampNeg ((nI i) + (nI 2)))), .int (xs (Int32.toNatClampNeg ((nI i) + (nI 3))))]) (rest := []) ⟨hx, hb, hml, hown, hts⟩ (c_X7_input hM.1 hq) (cwV 3 hts gL_law_X7_input rfl rfl rfl cdV_X7_input ⟨(Nat.le_of_ble_eq_true rfl), (Nat.le_of_ble_eq_true rfl)⟩) hPm hK hN mw_o rfl rfl hl.1 rfl (Nat.le_of_ble_eq_true rfl) dL_law_367 ⟨by show cN + 2 + 0 ≤ 601024; omega, by show sN + 12 + 0 ≤ 7293034; omega⟩) hS (fun q _ h => hgM q h) (fun q h => hgM q h) (fun r7 _ t H locs ht _ hw7 hB _ hkH hS => ?_)
          have hw7 : r7 = bb := hw7
          subst r7
          replace hPm : va_P D vwCl (mw cyI cyJ cyZ bd Sq) H := by rw [← ht]; exact hB
          replace hP : va_P D vwCl (cw cyI ad Su ++ [oc cyJ o fu]) H := P_kept hP hkH hdC
          refine lv_istore (lv' := [(6, .int bb), (5, .int r9), (0, .ref b), (1, .ref (ad 30)), (2, .ref (bd 0)), (3, .ref o), (4, .int (nI i))]) hx hb dL_law_370 hl (by decide) rfl (fun ls hl => ?_)
          refine lv_aload_n hx hb dL_law_372 rfl (lv_at hl 4 rfl) ?_
          refine va_calli (rnV (A := MA bd) (As := []) (rest := []) ⟨hx, hb, hml, hown, hts⟩ (c_X7_thrown hM.1 (show m_X7_thrown Sq = some (rs Sq 47) from rfl)) (cwV 0 hts gL_law_X7_thrown rfl rfl rfl cdV_X7_thrown ⟨(Nat.le_of_ble_eq_true rfl), (Nat.le_of_ble_eq_true rfl)⟩) hPm hK hN mw_o rfl rfl hl.1 rfl (Nat.le_of_ble_eq_true rfl) dL_law_373 ⟨by show cN + 2 + 0 ≤ 601024; omega, by show sN + 12 + 0 ≤ 7293034; omega⟩) hS (fun q _ h => hgM q h) (fun q h => hgM q h) (fun r7 _ t H locs ht _ hw7 hB _ hkH hS => ?_)
          have hw7 : r7 = (rs Sq 47) := hw7
          subst r7
          replace hPm : va_P D vwCl (mw cyI cyJ cyZ bd Sq) H := by rw [← ht]; exact hB
          replace hP : va_P D vwCl (cw cyI ad Su ++ [oc cyJ o fu]) H := P_kept hP hkH hdC
          refine lv_iload hx hb dL_law_376 (lv_at hl 1 rfl) ?_
          refine lv_icmp_eq (tgt := 383) hx hb dL_law_378 (by decide) (fun _ => ?_) (fun hq => absurd h47 hq)
          refine lv_iload hx hb dL_law_383 (lv_at hl 1 rfl) ?_
          refine lv_if_ne (tgt := 400) hx hb dL_law_385 (by decide) (fun _ => ?_) (fun hq => absurd hq hr0)
          refine lv_goto (tgt := 1380) hx hb dL_law_400 (by decide) ?_
          refine lv_iinc (v := nI (6 * (k + 1))) (lv' := [(4, .int (nI (6 * (k + 1)))), (6, .int bb), (5, .int r9), (0, .ref b), (1, .ref (ad 30)), (2, .ref (bd 0)), (3, .ref o)]) hx hb dL_law_1380 hl (k := 6) rfl (by rw [hik]; show nI (6 * k) + nI 6 = _; rw [nI_add]; congr 1) (by decide) rfl (fun ls hl => ?_)
          refine lv_goto (tgt := 23) hx hb dL_law_1383 (by decide) ?_
          exact ih (k + 1) Su Sq fu (cN + 2) (sN + 12) (by omega) (by omega) hJ (by omega) (by omega) _ _ _ hP hPm hS (lv_sub hl [3, 4, 5, 6, 0] rfl)
        · obtain ⟨hw1, hw2, hw3⟩ := hw
          have hw1 : r9 = 0 := hw1
          have hw2 : Su = Sd := hw2
          subst hw2
          obtain ⟨h47, hcv, hJ⟩ := hinr v9 Su rfl
          have h47 : rs Sq 47 = r9 := h47.trans hw1.symm
          have hcv : fu (Int32.toNatClampNeg (nI 0)) = Int32.toInt64 bb := hw3.trans hcv
          refine lv_istore (lv' := [(5, .int r9), (0, .ref b), (1, .ref (ad 30)), (2, .ref (bd 0)), (3, .ref o), (4, .int (nI i))]) hx hb dL_law_346 hl (by decide) rfl (fun ls hl => ?_)
          refine lv_aload_n hx hb dL_law_348 rfl (lv_at hl 3 rfl) ?_
          refine lv_aload_n hx hb dL_law_349 rfl (lv_at hl 1 rfl) ?_
          refine lv_iload hx hb dL_law_350 (lv_at hl 5 rfl) ?_
          refine lv_iconst (v := nI 1) hx hb dL_law_352 (by decide) ?_
          refine lv_iadd hx hb dL_law_353 ?_
          refine va_sld hx hb hX hbl hbA hS (by rw [nI_add]; exact vp_in_nI (by omega) (by omega)) dL_law_354 ?_
          refine lv_aload_n hx hb dL_law_355 rfl (lv_at hl 1 rfl) ?_
          refine lv_iload hx hb dL_law_356 (lv_at hl 5 rfl) ?_
          refine lv_iconst (v := nI 2) hx hb dL_law_358 (by decide) ?_
          refine lv_iadd hx hb dL_law_359 ?_
          refine va_sld hx hb hX hbl hbA hS (by rw [nI_add]; exact vp_in_nI (by omega) (by omega)) dL_law_360 ?_
          refine lv_aload_n hx hb dL_law_361 rfl (lv_at hl 1 rfl) ?_
          refine lv_iload hx hb dL_law_362 (lv_at hl 5 rfl) ?_
          refine lv_iconst (v := nI 3) hx hb dL_law_364 (by decide) ?_
          refine lv_iadd hx hb dL_law_365 ?_
          refine va_sld hx hb hX hbl hbA hS (by rw [nI_add]; exact vp_in_nI (by omega) (by omega)) dL_law_366 ?_
          refine va_calli (rnV (A := MA bd) (As := [.int (xs (Int32.toNatClampNeg ((nI i) + (nI 1)))), .int (xs (Int32.toNatClampNeg ((nI i) + (nI 2)))), .int (xs (Int32.toNatClampNeg ((nI i) + (nI 3))))]) (rest := []) ⟨hx, hb, hml, hown, hts⟩ (c_X7_input hM.1 hq) (cwV 3 hts gL_law_X7_input rfl rfl rfl cdV_X7_input ⟨(Nat.le_of_ble_eq_true rfl), (Nat.le_of_ble_eq_true rfl)⟩) hPm hK hN mw_o rfl rfl hl.1 rfl (Nat.le_of_ble_eq_true rfl) dL_law_367 ⟨by show cN + 2 + 0 ≤ 601024; omega, by show sN + 12 + 0 ≤ 7293034; omega⟩) hS (fun q _ h => hgM q h) (fun q h => hgM q h) (fun r7 _ t H locs ht _ hw7 hB _ hkH hS => ?_)
          have hw7 : r7 = bb := hw7
          subst r7
          replace hPm : va_P D vwCl (mw cyI cyJ cyZ bd Sq) H := by rw [← ht]; exact hB
          replace hP : va_P D vwCl (cw cyI ad Su ++ [oc cyJ o fu]) H := P_kept hP hkH hdC
          refine lv_istore (lv' := [(6, .int bb), (5, .int r9), (0, .ref b), (1, .ref (ad 30)), (2, .ref (bd 0)), (3, .ref o), (4, .int (nI i))]) hx hb dL_law_370 hl (by decide) rfl (fun ls hl => ?_)
          refine lv_aload_n hx hb dL_law_372 rfl (lv_at hl 4 rfl) ?_
          refine va_calli (rnV (A := MA bd) (As := []) (rest := []) ⟨hx, hb, hml, hown, hts⟩ (c_X7_thrown hM.1 (show m_X7_thrown Sq = some (rs Sq 47) from rfl)) (cwV 0 hts gL_law_X7_thrown rfl rfl rfl cdV_X7_thrown ⟨(Nat.le_of_ble_eq_true rfl), (Nat.le_of_ble_eq_true rfl)⟩) hPm hK hN mw_o rfl rfl hl.1 rfl (Nat.le_of_ble_eq_true rfl) dL_law_373 ⟨by show cN + 2 + 0 ≤ 601024; omega, by show sN + 12 + 0 ≤ 7293034; omega⟩) hS (fun q _ h => hgM q h) (fun q h => hgM q h) (fun r7 _ t H locs ht _ hw7 hB _ hkH hS => ?_)
          have hw7 : r7 = (rs Sq 47) := hw7
          subst r7
          replace hPm : va_P D vwCl (mw cyI cyJ cyZ bd Sq) H := by rw [← ht]; exact hB
          replace hP : va_P D vwCl (cw cyI ad Su ++ [oc cyJ o fu]) H := P_kept hP hkH hdC
          refine lv_iload hx hb dL_law_376 (lv_at hl 1 rfl) ?_
          refine lv_icmp_eq (tgt := 383) hx hb dL_law_378 (by decide) (fun _ => ?_) (fun hq => absurd h47 hq)
          refine lv_iload hx hb dL_law_383 (lv_at hl 1 rfl) ?_
          refine lv_if_ne (tgt := 400) hx hb dL_law_385 (by decide) (fun hq => absurd hw1 hq) (fun _ => ?_)
          refine lv_aload_n hx hb dL_law_388 rfl (lv_at hl 5 rfl) ?_
          refine lv_iconst (v := nI 0) hx hb dL_law_389 (by decide) ?_
          refine va_lald hx hb hK (P_right hP) 0 1 (f := fu) rfl rfl (vp_in_nI (by decide) (by decide)) dL_law_390 ?_
          refine lv_iload hx hb dL_law_391 (lv_at hl 0 rfl) ?_
          refine lv_i2l hx hb dL_law_393 rfl ?_
          refine W.lcmp hx hb dL_law_394 ?_
          refine lv_if_eq (tgt := 400) hx hb dL_law_395 (by decide) (fun _ => ?_) (fun hq => absurd (lg_self hcv) hq)
          refine lv_goto (tgt := 1380) hx hb dL_law_400 (by decide) ?_
          refine lv_iinc (v := nI (6 * (k + 1))) (lv' := [(4, .int (nI (6 * (k + 1)))), (6, .int bb), (5, .int r9), (0, .ref b), (1, .ref (ad 30)), (2, .ref (bd 0)), (3, .ref o)]) hx hb dL_law_1380 hl (k := 6) rfl (by rw [hik]; show nI (6 * k) + nI 6 = _; rw [nI_add]; congr 1) (by decide) rfl (fun ls hl => ?_)
          refine lv_goto (tgt := 23) hx hb dL_law_1383 (by decide) ?_
          exact ih (k + 1) Su Sq fu (cN + 2) (sN + 12) (by omega) (by omega) hJ (by omega) (by omega) _ _ _ hP hPm hS (lv_sub hl [3, 4, 5, 6, 0] rfl)
      · refine lv_tableIn (off := 363) (tgt := 403) hx hb dL_law_40 (by decide) (by decide) rfl (by decide) ?_
        refine lv_aload_n hx hb dL_law_403 rfl (lv_at hl 1 rfl) ?_
        refine lv_aload_n hx hb dL_law_404 rfl (lv_at hl 0 rfl) ?_
        refine lv_iload hx hb dL_law_405 (lv_at hl 4 rfl) ?_
        refine lv_iconst (v := nI 1) hx hb dL_law_407 (by decide) ?_
        refine lv_iadd hx hb dL_law_408 ?_
        refine va_sld hx hb hX hbl hbA hS (by rw [nI_add]; exact vp_in_nI (by omega) (by omega)) dL_law_409 ?_
        refine lv_aload_n hx hb dL_law_410 rfl (lv_at hl 0 rfl) ?_
        refine lv_iload hx hb dL_law_411 (lv_at hl 4 rfl) ?_
        refine lv_iconst (v := nI 2) hx hb dL_law_413 (by decide) ?_
        refine lv_iadd hx hb dL_law_414 ?_
        refine va_sld hx hb hX hbl hbA hS (by rw [nI_add]; exact vp_in_nI (by omega) (by omega)) dL_law_415 ?_
        refine lv_aload_n hx hb dL_law_416 rfl (lv_at hl 3 rfl) ?_
        have hok := (hI k Sc Sr hJ hk).2.2.2.1
        obtain ⟨res, bb, Sq, hres, hq, hinl, hinr⟩ := hok (xs (Int32.toNatClampNeg ((nI i) + (nI 1)))) (xs (Int32.toNatClampNeg ((nI i) + (nI 2))))
        refine va_calli (rnW (As := [.ref (ad 30), .int (xs (Int32.toNatClampNeg ((nI i) + (nI 1)))), .int (xs (Int32.toNatClampNeg ((nI i) + (nI 2)))), .ref o]) (rest := []) ⟨hx, hb, hml, hown, hts⟩ (c_L_fails hfl hO hres (fun e he => (hinl e he).1)) (vx_cwSW 4 hts gL_law_L_fails rfl rfl rfl cdS_L_fails ⟨(Nat.le_of_ble_eq_true rfl), (Nat.le_of_ble_eq_true rfl)⟩) hP hK hN hZ hC hgA hS rfl hl.1 rfl (Nat.le_of_ble_eq_true rfl) dL_law_417 ⟨by show cN + 2 ≤ 601024; omega, by show sN + 12 ≤ 7293034; omega⟩) hS (fun q _ h => hgA q h) (fun q h => hgA q h) (fun r9 u9 t H locs ht _ hw hB _ hkH hS => ?_)
        replace hP : va_P D vwCl (cw cyI ad u9.1 ++ [oc cyJ o u9.2]) H := by rw [← ht]; exact hB
        replace hPm : va_P D vwCl (mw cyI cyJ cyZ bd Sr) H := P_kept hPm hkH hdM
        obtain ⟨Su, fu⟩ := u9
        rcases res with e9 | ⟨v9, Sd⟩
        · obtain ⟨hw1, hw2⟩ := hw
          have hw2 : Su = Sc := hw2
          subst hw2
          obtain ⟨hex, h47, hJ⟩ := hinl e9 rfl
          have hr0 : ¬ r9 = 0 := by rw [hw1]; exact tbn_ex12_tb12 hex
          have h47 : rs Sq 47 = r9 := h47.trans hw1.symm
          refine lv_istore (lv' := [(5, .int r9), (0, .ref b), (1, .ref (ad 30)), (2, .ref (bd 0)), (3, .ref o), (4, .int (nI i))]) hx hb dL_law_420 hl (by decide) rfl (fun ls hl => ?_)
          refine lv_aload_n hx hb dL_law_422 rfl (lv_at hl 3 rfl) ?_
          refine lv_aload_n hx hb dL_law_423 rfl (lv_at hl 1 rfl) ?_
          refine lv_iload hx hb dL_law_424 (lv_at hl 5 rfl) ?_
          refine lv_iconst (v := nI 1) hx hb dL_law_426 (by decide) ?_
          refine lv_iadd hx hb dL_law_427 ?_
          refine va_sld hx hb hX hbl hbA hS (by rw [nI_add]; exact vp_in_nI (by omega) (by omega)) dL_law_428 ?_
          refine lv_aload_n hx hb dL_law_429 rfl (lv_at hl 1 rfl) ?_
          refine lv_iload hx hb dL_law_430 (lv_at hl 5 rfl) ?_
          refine lv_iconst (v := nI 2) hx hb dL_law_432 (by decide) ?_
          refine lv_iadd hx hb dL_law_433 ?_
          refine va_sld hx hb hX hbl hbA hS (by rw [nI_add]; exact vp_in_nI (by omega) (by omega)) dL_law_434 ?_
          refine va_calli (rnV (A := MA bd) (As := [.int (xs (Int32.toNatClampNeg ((nI i) + (nI 1)))), .int (xs (Int32.toNatClampNeg ((nI i) + (nI 2))))]) (rest := []) ⟨hx, hb, hml, hown, hts⟩ (c_X7_fails hM.1 hq) (cwV 2 hts gL_law_X7_fails rfl rfl rfl cdV_X7_fails ⟨(Nat.le_of_ble_eq_true rfl), (Nat.le_of_ble_eq_true rfl)⟩) hPm hK hN mw_o rfl rfl hl.1 rfl (Nat.le_of_ble_eq_true rfl) dL_law_435 ⟨by show cN + 2 + 0 ≤ 601024; omega, by show sN + 12 + 0 ≤ 7293034; omega⟩) hS (fun q _ h => hgM q h) (fun q h => hgM q h) (fun r7 _ t H locs ht _ hw7 hB _ hkH hS => ?_)
          have hw7 : r7 = bb := hw7
          subst r7
          replace hPm : va_P D vwCl (mw cyI cyJ cyZ bd Sq) H := by rw [← ht]; exact hB
          replace hP : va_P D vwCl (cw cyI ad Su ++ [oc cyJ o fu]) H := P_kept hP hkH hdC
          refine lv_istore (lv' := [(6, .int bb), (5, .int r9), (0, .ref b), (1, .ref (ad 30)), (2, .ref (bd 0)), (3, .ref o), (4, .int (nI i))]) hx hb dL_law_438 hl (by decide) rfl (fun ls hl => ?_)
          refine lv_aload_n hx hb dL_law_440 rfl (lv_at hl 4 rfl) ?_
          refine va_calli (rnV (A := MA bd) (As := []) (rest := []) ⟨hx, hb, hml, hown, hts⟩ (c_X7_thrown hM.1 (show m_X7_thrown Sq = some (rs Sq 47) from rfl)) (cwV 0 hts gL_law_X7_thrown rfl rfl rfl cdV_X7_thrown ⟨(Nat.le_of_ble_eq_true rfl), (Nat.le_of_ble_eq_true rfl)⟩) hPm hK hN mw_o rfl rfl hl.1 rfl (Nat.le_of_ble_eq_true rfl) dL_law_441 ⟨by show cN + 2 + 0 ≤ 601024; omega, by show sN + 12 + 0 ≤ 7293034; omega⟩) hS (fun q _ h => hgM q h) (fun q h => hgM q h) (fun r7 _ t H locs ht _ hw7 hB _ hkH hS => ?_)
          have hw7 : r7 = (rs Sq 47) := hw7
          subst r7
          replace hPm : va_P D vwCl (mw cyI cyJ cyZ bd Sq) H := by rw [← ht]; exact hB
          replace hP : va_P D vwCl (cw cyI ad Su ++ [oc cyJ o fu]) H := P_kept hP hkH hdC
          refine lv_iload hx hb dL_law_444 (lv_at hl 1 rfl) ?_
          refine lv_icmp_eq (tgt := 451) hx hb dL_law_446 (by decide) (fun _ => ?_) (fun hq => absurd h47 hq)
          refine lv_iload hx hb dL_law_451 (lv_at hl 1 rfl) ?_
          refine lv_if_ne (tgt := 468) hx hb dL_law_453 (by decide) (fun _ => ?_) (fun hq => absurd hq hr0)
          refine lv_goto (tgt := 1380) hx hb dL_law_468 (by decide) ?_
          refine lv_iinc (v := nI (6 * (k + 1))) (lv' := [(4, .int (nI (6 * (k + 1)))), (6, .int bb), (5, .int r9), (0, .ref b), (1, .ref (ad 30)), (2, .ref (bd 0)), (3, .ref o)]) hx hb dL_law_1380 hl (k := 6) rfl (by rw [hik]; show nI (6 * k) + nI 6 = _; rw [nI_add]; congr 1) (by decide) rfl (fun ls hl => ?_)
          refine lv_goto (tgt := 23) hx hb dL_law_1383 (by decide) ?_
          exact ih (k + 1) Su Sq fu (cN + 2) (sN + 12) (by omega) (by omega) hJ (by omega) (by omega) _ _ _ hP hPm hS (lv_sub hl [3, 4, 5, 6, 0] rfl)
        · obtain ⟨hw1, hw2, hw3⟩ := hw
          have hw1 : r9 = 0 := hw1
          have hw2 : Su = Sd := hw2
          subst hw2
          obtain ⟨h47, hcv, hJ⟩ := hinr v9 Su rfl
          have h47 : rs Sq 47 = r9 := h47.trans hw1.symm
          have hcv : fu (Int32.toNatClampNeg (nI 0)) = Int32.toInt64 bb := hw3.trans hcv
          refine lv_istore (lv' := [(5, .int r9), (0, .ref b), (1, .ref (ad 30)), (2, .ref (bd 0)), (3, .ref o), (4, .int (nI i))]) hx hb dL_law_420 hl (by decide) rfl (fun ls hl => ?_)
          refine lv_aload_n hx hb dL_law_422 rfl (lv_at hl 3 rfl) ?_
          refine lv_aload_n hx hb dL_law_423 rfl (lv_at hl 1 rfl) ?_
          refine lv_iload hx hb dL_law_424 (lv_at hl 5 rfl) ?_
          refine lv_iconst (v := nI 1) hx hb dL_law_426 (by decide) ?_
          refine lv_iadd hx hb dL_law_427 ?_
          refine va_sld hx hb hX hbl hbA hS (by rw [nI_add]; exact vp_in_nI (by omega) (by omega)) dL_law_428 ?_
          refine lv_aload_n hx hb dL_law_429 rfl (lv_at hl 1 rfl) ?_
          refine lv_iload hx hb dL_law_430 (lv_at hl 5 rfl) ?_
          refine lv_iconst (v := nI 2) hx hb dL_law_432 (by decide) ?_
          refine lv_iadd hx hb dL_law_433 ?_
          refine va_sld hx hb hX hbl hbA hS (by rw [nI_add]; exact vp_in_nI (by omega) (by omega)) dL_law_434 ?_
          refine va_calli (rnV (A := MA bd) (As := [.int (xs (Int32.toNatClampNeg ((nI i) + (nI 1)))), .int (xs (Int32.toNatClampNeg ((nI i) + (nI 2))))]) (rest := []) ⟨hx, hb, hml, hown, hts⟩ (c_X7_fails hM.1 hq) (cwV 2 hts gL_law_X7_fails rfl rfl rfl cdV_X7_fails ⟨(Nat.le_of_ble_eq_true rfl), (Nat.le_of_ble_eq_true rfl)⟩) hPm hK hN mw_o rfl rfl hl.1 rfl (Nat.le_of_ble_eq_true rfl) dL_law_435 ⟨by show cN + 2 + 0 ≤ 601024; omega, by show sN + 12 + 0 ≤ 7293034; omega⟩) hS (fun q _ h => hgM q h) (fun q h => hgM q h) (fun r7 _ t H locs ht _ hw7 hB _ hkH hS => ?_)
          have hw7 : r7 = bb := hw7
          subst r7
          replace hPm : va_P D vwCl (mw cyI cyJ cyZ bd Sq) H := by rw [← ht]; exact hB
          replace hP : va_P D vwCl (cw cyI ad Su ++ [oc cyJ o fu]) H := P_kept hP hkH hdC
          refine lv_istore (lv' := [(6, .int bb), (5, .int r9), (0, .ref b), (1, .ref (ad 30)), (2, .ref (bd 0)), (3, .ref o), (4, .int (nI i))]) hx hb dL_law_438 hl (by decide) rfl (fun ls hl => ?_)
          refine lv_aload_n hx hb dL_law_440 rfl (lv_at hl 4 rfl) ?_
          refine va_calli (rnV (A := MA bd) (As := []) (rest := []) ⟨hx, hb, hml, hown, hts⟩ (c_X7_thrown hM.1 (show m_X7_thrown Sq = some (rs Sq 47) from rfl)) (cwV 0 hts gL_law_X7_thrown rfl rfl rfl cdV_X7_thrown ⟨(Nat.le_of_ble_eq_true rfl), (Nat.le_of_ble_eq_true rfl)⟩) hPm hK hN mw_o rfl rfl hl.1 rfl (Nat.le_of_ble_eq_true rfl) dL_law_441 ⟨by show cN + 2 + 0 ≤ 601024; omega, by show sN + 12 + 0 ≤ 7293034; omega⟩) hS (fun q _ h => hgM q h) (fun q h => hgM q h) (fun r7 _ t H locs ht _ hw7 hB _ hkH hS => ?_)
          have hw7 : r7 = (rs Sq 47) := hw7
          subst r7
          replace hPm : va_P D vwCl (mw cyI cyJ cyZ bd Sq) H := by rw [← ht]; exact hB
          replace hP : va_P D vwCl (cw cyI ad Su ++ [oc cyJ o fu]) H := P_kept hP hkH hdC
          refine lv_iload hx hb dL_law_444 (lv_at hl 1 rfl) ?_
          refine lv_icmp_eq (tgt := 451) hx hb dL_law_446 (by decide) (fun _ => ?_) (fun hq => absurd h47 hq)
          refine lv_iload hx hb dL_law_451 (lv_at hl 1 rfl) ?_
          refine lv_if_ne (tgt := 468) hx hb dL_law_453 (by decide) (fun hq => absurd hw1 hq) (fun _ => ?_)
          refine lv_aload_n hx hb dL_law_456 rfl (lv_at hl 5 rfl) ?_
          refine lv_iconst (v := nI 0) hx hb dL_law_457 (by decide) ?_
          refine va_lald hx hb hK (P_right hP) 0 1 (f := fu) rfl rfl (vp_in_nI (by decide) (by decide)) dL_law_458 ?_
          refine lv_iload hx hb dL_law_459 (lv_at hl 0 rfl) ?_
          refine lv_i2l hx hb dL_law_461 rfl ?_
          refine W.lcmp hx hb dL_law_462 ?_
          refine lv_if_eq (tgt := 468) hx hb dL_law_463 (by decide) (fun _ => ?_) (fun hq => absurd (lg_self hcv) hq)
          refine lv_goto (tgt := 1380) hx hb dL_law_468 (by decide) ?_
          refine lv_iinc (v := nI (6 * (k + 1))) (lv' := [(4, .int (nI (6 * (k + 1)))), (6, .int bb), (5, .int r9), (0, .ref b), (1, .ref (ad 30)), (2, .ref (bd 0)), (3, .ref o)]) hx hb dL_law_1380 hl (k := 6) rfl (by rw [hik]; show nI (6 * k) + nI 6 = _; rw [nI_add]; congr 1) (by decide) rfl (fun ls hl => ?_)
          refine lv_goto (tgt := 23) hx hb dL_law_1383 (by decide) ?_
          exact ih (k + 1) Su Sq fu (cN + 2) (sN + 12) (by omega) (by omega) hJ (by omega) (by omega) _ _ _ hP hPm hS (lv_sub hl [3, 4, 5, 6, 0] rfl)
      · refine lv_tableIn (off := 431) (tgt := 471) hx hb dL_law_40 (by decide) (by decide) rfl (by decide) ?_
        refine lv_aload_n hx hb dL_law_471 rfl (lv_at hl 1 rfl) ?_
        refine lv_aload_n hx hb dL_law_472 rfl (lv_at hl 0 rfl) ?_
        refine lv_iload hx hb dL_law_473 (lv_at hl 4 rfl) ?_
        refine lv_iconst (v := nI 1) hx hb dL_law_475 (by decide) ?_
        refine lv_iadd hx hb dL_law_476 ?_
        refine va_sld hx hb hX hbl hbA hS (by rw [nI_add]; exact vp_in_nI (by omega) (by omega)) dL_law_477 ?_
        refine lv_aload_n hx hb dL_law_478 rfl (lv_at hl 0 rfl) ?_
        refine lv_iload hx hb dL_law_479 (lv_at hl 4 rfl) ?_
        refine lv_iconst (v := nI 2) hx hb dL_law_481 (by decide) ?_
        refine lv_iadd hx hb dL_law_482 ?_
        refine va_sld hx hb hX hbl hbA hS (by rw [nI_add]; exact vp_in_nI (by omega) (by omega)) dL_law_483 ?_
        refine lv_if_eq (tgt := 491) hx hb dL_law_484 (by decide) (fun hz1 => ?_) (fun hz1 => ?_)
        · refine lv_iconst (v := nI 0) hx hb dL_law_491 (by decide) ?_
          refine lv_aload_n hx hb dL_law_492 rfl (lv_at hl 3 rfl) ?_
          have hok := (hI k Sc Sr hJ hk).2.2.2.2.1
          obtain ⟨res, bb, Sq, hres, hq, hinl, hinr⟩ := hok (xs (Int32.toNatClampNeg ((nI i) + (nI 1)))) (nI 0) (by decide)
          refine va_calli (rnW (As := [.ref (ad 30), .int (xs (Int32.toNatClampNeg ((nI i) + (nI 1)))), .int (nI 0), .ref o]) (rest := []) ⟨hx, hb, hml, hown, hts⟩ (c_L_poison hfl hO hres (fun e he => (hinl e he).1)) (vx_cwSW 4 hts gL_law_L_poison rfl rfl rfl cdS_L_poison ⟨(Nat.le_of_ble_eq_true rfl), (Nat.le_of_ble_eq_true rfl)⟩) hP hK hN hZ hC hgA hS rfl hl.1 rfl (Nat.le_of_ble_eq_true rfl) dL_law_493 ⟨by show cN + 1 ≤ 601024; omega, by show sN + 6 ≤ 7293034; omega⟩) hS (fun q _ h => hgA q h) (fun q h => hgA q h) (fun r9 u9 t H locs ht _ hw hB _ hkH hS => ?_)
          replace hP : va_P D vwCl (cw cyI ad u9.1 ++ [oc cyJ o u9.2]) H := by rw [← ht]; exact hB
          replace hPm : va_P D vwCl (mw cyI cyJ cyZ bd Sr) H := P_kept hPm hkH hdM
          obtain ⟨Su, fu⟩ := u9
          rcases res with e9 | ⟨v9, Sd⟩
          · obtain ⟨hw1, hw2⟩ := hw
            have hw2 : Su = Sc := hw2
            subst hw2
            obtain ⟨hex, h47, hJ⟩ := hinl e9 rfl
            have hr0 : ¬ r9 = 0 := by rw [hw1]; exact tbn_ex1_tb12 hex
            have h47 : rs Sq 47 = r9 := h47.trans hw1.symm
            refine lv_istore (lv' := [(5, .int r9), (0, .ref b), (1, .ref (ad 30)), (2, .ref (bd 0)), (3, .ref o), (4, .int (nI i))]) hx hb dL_law_496 hl (by decide) rfl (fun ls hl => ?_)
            refine lv_aload_n hx hb dL_law_498 rfl (lv_at hl 3 rfl) ?_
            refine lv_aload_n hx hb dL_law_499 rfl (lv_at hl 1 rfl) ?_
            refine lv_iload hx hb dL_law_500 (lv_at hl 5 rfl) ?_
            refine lv_iconst (v := nI 1) hx hb dL_law_502 (by decide) ?_
            refine lv_iadd hx hb dL_law_503 ?_
            refine va_sld hx hb hX hbl hbA hS (by rw [nI_add]; exact vp_in_nI (by omega) (by omega)) dL_law_504 ?_
            refine lv_aload_n hx hb dL_law_505 rfl (lv_at hl 1 rfl) ?_
            refine lv_iload hx hb dL_law_506 (lv_at hl 5 rfl) ?_
            refine lv_iconst (v := nI 2) hx hb dL_law_508 (by decide) ?_
            refine lv_iadd hx hb dL_law_509 ?_
            refine va_sld hx hb hX hbl hbA hS (by rw [nI_add]; exact vp_in_nI (by omega) (by omega)) dL_law_510 ?_
            refine lv_if_eq (tgt := 518) hx hb dL_law_511 (by decide) (fun _ => ?_) (fun hq => absurd hz1 hq)
            refine lv_iconst (v := nI 0) hx hb dL_law_518 (by decide) ?_
            refine va_calli (rnV (A := MA bd) (As := [.int (xs (Int32.toNatClampNeg ((nI i) + (nI 1)))), .int (nI 0)]) (rest := []) ⟨hx, hb, hml, hown, hts⟩ (c_X7_poison hM.1 hq) (cwV 2 hts gL_law_X7_poison rfl rfl rfl cdV_X7_poison ⟨(Nat.le_of_ble_eq_true rfl), (Nat.le_of_ble_eq_true rfl)⟩) hPm hK hN mw_o rfl rfl hl.1 rfl (Nat.le_of_ble_eq_true rfl) dL_law_519 ⟨by show cN + 1 + 0 ≤ 601024; omega, by show sN + 6 + 0 ≤ 7293034; omega⟩) hS (fun q _ h => hgM q h) (fun q h => hgM q h) (fun r7 _ t H locs ht _ hw7 hB _ hkH hS => ?_)
            have hw7 : r7 = bb := hw7
            subst r7
            replace hPm : va_P D vwCl (mw cyI cyJ cyZ bd Sq) H := by rw [← ht]; exact hB
            replace hP : va_P D vwCl (cw cyI ad Su ++ [oc cyJ o fu]) H := P_kept hP hkH hdC
            refine lv_istore (lv' := [(6, .int bb), (5, .int r9), (0, .ref b), (1, .ref (ad 30)), (2, .ref (bd 0)), (3, .ref o), (4, .int (nI i))]) hx hb dL_law_522 hl (by decide) rfl (fun ls hl => ?_)
            refine lv_aload_n hx hb dL_law_524 rfl (lv_at hl 4 rfl) ?_
            refine va_calli (rnV (A := MA bd) (As := []) (rest := []) ⟨hx, hb, hml, hown, hts⟩ (c_X7_thrown hM.1 (show m_X7_thrown Sq = some (rs Sq 47) from rfl)) (cwV 0 hts gL_law_X7_thrown rfl rfl rfl cdV_X7_thrown ⟨(Nat.le_of_ble_eq_true rfl), (Nat.le_of_ble_eq_true rfl)⟩) hPm hK hN mw_o rfl rfl hl.1 rfl (Nat.le_of_ble_eq_true rfl) dL_law_525 ⟨by show cN + 1 + 0 ≤ 601024; omega, by show sN + 6 + 0 ≤ 7293034; omega⟩) hS (fun q _ h => hgM q h) (fun q h => hgM q h) (fun r7 _ t H locs ht _ hw7 hB _ hkH hS => ?_)
            have hw7 : r7 = (rs Sq 47) := hw7
            subst r7
            replace hPm : va_P D vwCl (mw cyI cyJ cyZ bd Sq) H := by rw [← ht]; exact hB
            replace hP : va_P D vwCl (cw cyI ad Su ++ [oc cyJ o fu]) H := P_kept hP hkH hdC
            refine lv_iload hx hb dL_law_528 (lv_at hl 1 rfl) ?_
            refine lv_icmp_eq (tgt := 535) hx hb dL_law_530 (by decide) (fun _ => ?_) (fun hq => absurd h47 hq)
            refine lv_iload hx hb dL_law_535 (lv_at hl 1 rfl) ?_
            refine lv_if_ne (tgt := 559) hx hb dL_law_537 (by decide) (fun _ => ?_) (fun hq => absurd hq hr0)
            refine lv_goto (tgt := 1380) hx hb dL_law_559 (by decide) ?_
            refine lv_iinc (v := nI (6 * (k + 1))) (lv' := [(4, .int (nI (6 * (k + 1)))), (6, .int bb), (5, .int r9), (0, .ref b), (1, .ref (ad 30)), (2, .ref (bd 0)), (3, .ref o)]) hx hb dL_law_1380 hl (k := 6) rfl (by rw [hik]; show nI (6 * k) + nI 6 = _; rw [nI_add]; congr 1) (by decide) rfl (fun ls hl => ?_)
            refine lv_goto (tgt := 23) hx hb dL_law_1383 (by decide) ?_
            exact ih (k + 1) Su Sq fu (cN + 1) (sN + 6) (by omega) (by omega) hJ (by omega) (by omega) _ _ _ hP hPm hS (lv_sub hl [3, 4, 5, 6, 0] rfl)
          · obtain ⟨hw1, hw2, hw3⟩ := hw
            have hw1 : r9 = 0 := hw1
            have hw2 : Su = Sd := hw2
            subst hw2
            obtain ⟨h47, hcv, hJ⟩ := hinr v9 Su rfl
            have h47 : rs Sq 47 = r9 := h47.trans hw1.symm
            have hcv : fu (Int32.toNatClampNeg (nI 0)) = cvZ bb := hw3.trans hcv
            refine lv_istore (lv' := [(5, .int r9), (0, .ref b), (1, .ref (ad 30)), (2, .ref (bd 0)), (3, .ref o), (4, .int (nI i))]) hx hb dL_law_496 hl (by decide) rfl (fun ls hl => ?_)
            refine lv_aload_n hx hb dL_law_498 rfl (lv_at hl 3 rfl) ?_
            refine lv_aload_n hx hb dL_law_499 rfl (lv_at hl 1 rfl) ?_
            refine lv_iload hx hb dL_law_500 (lv_at hl 5 rfl) ?_
            refine lv_iconst (v := nI 1) hx hb dL_law_502 (by decide) ?_
            refine lv_iadd hx hb dL_law_503 ?_
            refine va_sld hx hb hX hbl hbA hS (by rw [nI_add]; exact vp_in_nI (by omega) (by omega)) dL_law_504 ?_
            refine lv_aload_n hx hb dL_law_505 rfl (lv_at hl 1 rfl) ?_
            refine lv_iload hx hb dL_law_506 (lv_at hl 5 rfl) ?_
            refine lv_iconst (v := nI 2) hx hb dL_law_508 (by decide) ?_
            refine lv_iadd hx hb dL_law_509 ?_
            refine va_sld hx hb hX hbl hbA hS (by rw [nI_add]; exact vp_in_nI (by omega) (by omega)) dL_law_510 ?_
            refine lv_if_eq (tgt := 518) hx hb dL_law_511 (by decide) (fun _ => ?_) (fun hq => absurd hz1 hq)
            refine lv_iconst (v := nI 0) hx hb dL_law_518 (by decide) ?_
            refine va_calli (rnV (A := MA bd) (As := [.int (xs (Int32.toNatClampNeg ((nI i) + (nI 1)))), .int (nI 0)]) (rest := []) ⟨hx, hb, hml, hown, hts⟩ (c_X7_poison hM.1 hq) (cwV 2 hts gL_law_X7_poison rfl rfl rfl cdV_X7_poison ⟨(Nat.le_of_ble_eq_true rfl), (Nat.le_of_ble_eq_true rfl)⟩) hPm hK hN mw_o rfl rfl hl.1 rfl (Nat.le_of_ble_eq_true rfl) dL_law_519 ⟨by show cN + 1 + 0 ≤ 601024; omega, by show sN + 6 + 0 ≤ 7293034; omega⟩) hS (fun q _ h => hgM q h) (fun q h => hgM q h) (fun r7 _ t H locs ht _ hw7 hB _ hkH hS => ?_)
            have hw7 : r7 = bb := hw7
            subst r7
            replace hPm : va_P D vwCl (mw cyI cyJ cyZ bd Sq) H := by rw [← ht]; exact hB
            replace hP : va_P D vwCl (cw cyI ad Su ++ [oc cyJ o fu]) H := P_kept hP hkH hdC
            refine lv_istore (lv' := [(6, .int bb), (5, .int r9), (0, .ref b), (1, .ref (ad 30)), (2, .ref (bd 0)), (3, .ref o), (4, .int (nI i))]) hx hb dL_law_522 hl (by decide) rfl (fun ls hl => ?_)
            refine lv_aload_n hx hb dL_law_524 rfl (lv_at hl 4 rfl) ?_
            refine va_calli (rnV (A := MA bd) (As := []) (rest := []) ⟨hx, hb, hml, hown, hts⟩ (c_X7_thrown hM.1 (show m_X7_thrown Sq = some (rs Sq 47) from rfl)) (cwV 0 hts gL_law_X7_thrown rfl rfl rfl cdV_X7_thrown ⟨(Nat.le_of_ble_eq_true rfl), (Nat.le_of_ble_eq_true rfl)⟩) hPm hK hN mw_o rfl rfl hl.1 rfl (Nat.le_of_ble_eq_true rfl) dL_law_525 ⟨by show cN + 1 + 0 ≤ 601024; omega, by show sN + 6 + 0 ≤ 7293034; omega⟩) hS (fun q _ h => hgM q h) (fun q h => hgM q h) (fun r7 _ t H locs ht _ hw7 hB _ hkH hS => ?_)
            have hw7 : r7 = (rs Sq 47) := hw7
            subst r7
            replace hPm : va_P D vwCl (mw cyI cyJ cyZ bd Sq) H := by rw [← ht]; exact hB
            replace hP : va_P D vwCl (cw cyI ad Su ++ [oc cyJ o fu]) H := P_kept hP hkH hdC
            refine lv_iload hx hb dL_law_528 (lv_at hl 1 rfl) ?_
            refine lv_icmp_eq (tgt := 535) hx hb dL_law_530 (by decide) (fun _ => ?_) (fun hq => absurd h47 hq)
            refine lv_iload hx hb dL_law_535 (lv_at hl 1 rfl) ?_
            refine lv_if_ne (tgt := 559) hx hb dL_law_537 (by decide) (fun hq => absurd hw1 hq) (fun _ => ?_)
            refine lv_aload_n hx hb dL_law_540 rfl (lv_at hl 5 rfl) ?_
            refine lv_iconst (v := nI 0) hx hb dL_law_541 (by decide) ?_
            refine va_lald hx hb hK (P_right hP) 0 1 (f := fu) rfl rfl (vp_in_nI (by decide) (by decide)) dL_law_542 ?_
            refine lv_iload hx hb dL_law_543 (lv_at hl 0 rfl) ?_
            refine lv_if_eq (tgt := 552) hx hb dL_law_545 (by decide) (fun hz2 => ?_) (fun hz2 => ?_)
            · refine lv_lconst (v := 0) hx hb dL_law_552 rfl ?_
              refine W.lcmp hx hb dL_law_553 ?_
              refine lv_if_eq (tgt := 559) hx hb dL_law_554 (by decide) (fun _ => ?_) (fun hq => absurd (lg_self (hcv.trans (if_pos hz2))) hq)
              refine lv_goto (tgt := 1380) hx hb dL_law_559 (by decide) ?_
              refine lv_iinc (v := nI (6 * (k + 1))) (lv' := [(4, .int (nI (6 * (k + 1)))), (6, .int bb), (5, .int r9), (0, .ref b), (1, .ref (ad 30)), (2, .ref (bd 0)), (3, .ref o)]) hx hb dL_law_1380 hl (k := 6) rfl (by rw [hik]; show nI (6 * k) + nI 6 = _; rw [nI_add]; congr 1) (by decide) rfl (fun ls hl => ?_)
              refine lv_goto (tgt := 23) hx hb dL_law_1383 (by decide) ?_
              exact ih (k + 1) Su Sq fu (cN + 1) (sN + 6) (by omega) (by omega) hJ (by omega) (by omega) _ _ _ hP hPm hS (lv_sub hl [3, 4, 5, 6, 0] rfl)
            · refine lv_lconst (v := 1) hx hb dL_law_548 rfl ?_
              refine lv_goto (tgt := 553) hx hb dL_law_549 (by decide) ?_
              refine W.lcmp hx hb dL_law_553 ?_
              refine lv_if_eq (tgt := 559) hx hb dL_law_554 (by decide) (fun _ => ?_) (fun hq => absurd (lg_self (hcv.trans (if_neg hz2))) hq)
              refine lv_goto (tgt := 1380) hx hb dL_law_559 (by decide) ?_
              refine lv_iinc (v := nI (6 * (k + 1))) (lv' := [(4, .int (nI (6 * (k + 1)))), (6, .int bb), (5, .int r9), (0, .ref b), (1, .ref (ad 30)), (2, .ref (bd 0)), (3, .ref o)]) hx hb dL_law_1380 hl (k := 6) rfl (by rw [hik]; show nI (6 * k) + nI 6 = _; rw [nI_add]; congr 1) (by decide) rfl (fun ls hl => ?_)
              refine lv_goto (tgt := 23) hx hb dL_law_1383 (by decide) ?_
              exact ih (k + 1) Su Sq fu (cN + 1) (sN + 6) (by omega) (by omega) hJ (by omega) (by omega) _ _ _ hP hPm hS (lv_sub hl [3, 4, 5, 6, 0] rfl)
        · refine lv_iconst (v := nI 1) hx hb dL_law_487 (by decide) ?_
          refine lv_goto (tgt := 492) hx hb dL_law_488 (by decide) ?_
          refine lv_aload_n hx hb dL_law_492 rfl (lv_at hl 3 rfl) ?_
          have hok := (hI k Sc Sr hJ hk).2.2.2.2.1
          obtain ⟨res, bb, Sq, hres, hq, hinl, hinr⟩ := hok (xs (Int32.toNatClampNeg ((nI i) + (nI 1)))) (nI 1) (by decide)
          refine va_calli (rnW (As := [.ref (ad 30), .int (xs (Int32.toNatClampNeg ((nI i) + (nI 1)))), .int (nI 1), .ref o]) (rest := []) ⟨hx, hb, hml, hown, hts⟩ (c_L_poison hfl hO hres (fun e he => (hinl e he).1)) (vx_cwSW 4 hts gL_law_L_poison rfl rfl rfl cdS_L_poison ⟨(Nat.le_of_ble_eq_true rfl), (Nat.le_of_ble_eq_true rfl)⟩) hP hK hN hZ hC hgA hS rfl hl.1 rfl (Nat.le_of_ble_eq_true rfl) dL_law_493 ⟨by show cN + 1 ≤ 601024; omega, by show sN + 6 ≤ 7293034; omega⟩) hS (fun q _ h => hgA q h) (fun q h => hgA q h) (fun r9 u9 t H locs ht _ hw hB _ hkH hS => ?_)
          replace hP : va_P D vwCl (cw cyI ad u9.1 ++ [oc cyJ o u9.2]) H := by rw [← ht]; exact hB
          replace hPm : va_P D vwCl (mw cyI cyJ cyZ bd Sr) H := P_kept hPm hkH hdM
          obtain ⟨Su, fu⟩ := u9
          rcases res with e9 | ⟨v9, Sd⟩
          · obtain ⟨hw1, hw2⟩ := hw
            have hw2 : Su = Sc := hw2
            subst hw2
            obtain ⟨hex, h47, hJ⟩ := hinl e9 rfl
            have hr0 : ¬ r9 = 0 := by rw [hw1]; exact tbn_ex1_tb12 hex
            have h47 : rs Sq 47 = r9 := h47.trans hw1.symm
            refine lv_istore (lv' := [(5, .int r9), (0, .ref b), (1, .ref (ad 30)), (2, .ref (bd 0)), (3, .ref o), (4, .int (nI i))]) hx hb dL_law_496 hl (by decide) rfl (fun ls hl => ?_)
            refine lv_aload_n hx hb dL_law_498 rfl (lv_at hl 3 rfl) ?_
            refine lv_aload_n hx hb dL_law_499 rfl (lv_at hl 1 rfl) ?_
            refine lv_iload hx hb dL_law_500 (lv_at hl 5 rfl) ?_
            refine lv_iconst (v := nI 1) hx hb dL_law_502 (by decide) ?_
            refine lv_iadd hx hb dL_law_503 ?_
            refine va_sld hx hb hX hbl hbA hS (by rw [nI_add]; exact vp_in_nI (by omega) (by omega)) dL_law_504 ?_
            refine lv_aload_n hx hb dL_law_505 rfl (lv_at hl 1 rfl) ?_
            refine lv_iload hx hb dL_law_506 (lv_at hl 5 rfl) ?_
            refine lv_iconst (v := nI 2) hx hb dL_law_508 (by decide) ?_
            refine lv_iadd hx hb dL_law_509 ?_
            refine va_sld hx hb hX hbl hbA hS (by rw [nI_add]; exact vp_in_nI (by omega) (by omega)) dL_law_510 ?_
            refine lv_if_eq (tgt := 518) hx hb dL_law_511 (by decide) (fun hq => absurd hq hz1) (fun _ => ?_)
            refine lv_iconst (v := nI 1) hx hb dL_law_514 (by decide) ?_
            refine lv_goto (tgt := 519) hx hb dL_law_515 (by decide) ?_
            refine va_calli (rnV (A := MA bd) (As := [.int (xs (Int32.toNatClampNeg ((nI i) + (nI 1)))), .int (nI 1)]) (rest := []) ⟨hx, hb, hml, hown, hts⟩ (c_X7_poison hM.1 hq) (cwV 2 hts gL_law_X7_poison rfl rfl rfl cdV_X7_poison ⟨(Nat.le_of_ble_eq_true rfl), (Nat.le_of_ble_eq_true rfl)⟩) hPm hK hN mw_o rfl rfl hl.1 rfl (Nat.le_of_ble_eq_true rfl) dL_law_519 ⟨by show cN + 1 + 0 ≤ 601024; omega, by show sN + 6 + 0 ≤ 7293034; omega⟩) hS (fun q _ h => hgM q h) (fun q h => hgM q h) (fun r7 _ t H locs ht _ hw7 hB _ hkH hS => ?_)
            have hw7 : r7 = bb := hw7
            subst r7
            replace hPm : va_P D vwCl (mw cyI cyJ cyZ bd Sq) H := by rw [← ht]; exact hB
            replace hP : va_P D vwCl (cw cyI ad Su ++ [oc cyJ o fu]) H := P_kept hP hkH hdC
            refine lv_istore (lv' := [(6, .int bb), (5, .int r9), (0, .ref b), (1, .ref (ad 30)), (2, .ref (bd 0)), (3, .ref o), (4, .int (nI i))]) hx hb dL_law_522 hl (by decide) rfl (fun ls hl => ?_)
            refine lv_aload_n hx hb dL_law_524 rfl (lv_at hl 4 rfl) ?_
            refine va_calli (rnV (A := MA bd) (As := []) (rest := []) ⟨hx, hb, hml, hown, hts⟩ (c_X7_thrown hM.1 (show m_X7_thrown Sq = some (rs Sq 47) from rfl)) (cwV 0 hts gL_law_X7_thrown rfl rfl rfl cdV_X7_thrown ⟨(Nat.le_of_ble_eq_true rfl), (Nat.le_of_ble_eq_true rfl)⟩) hPm hK hN mw_o rfl rfl hl.1 rfl (Nat.le_of_ble_eq_true rfl) dL_law_525 ⟨by show cN + 1 + 0 ≤ 601024; omega, by show sN + 6 + 0 ≤ 7293034; omega⟩) hS (fun q _ h => hgM q h) (fun q h => hgM q h) (fun r7 _ t H locs ht _ hw7 hB _ hkH hS => ?_)
            have hw7 : r7 = (rs Sq 47) := hw7
            subst r7
            replace hPm : va_P D vwCl (mw cyI cyJ cyZ bd Sq) H := by rw [← ht]; exact hB
            replace hP : va_P D vwCl (cw cyI ad Su ++ [oc cyJ o fu]) H := P_kept hP hkH hdC
            refine lv_iload hx hb dL_law_528 (lv_at hl 1 rfl) ?_
            refine lv_icmp_eq (tgt := 535) hx hb dL_law_530 (by decide) (fun _ => ?_) (fun hq => absurd h47 hq)
            refine lv_iload hx hb dL_law_535 (lv_at hl 1 rfl) ?_
            refine lv_if_ne (tgt := 559) hx hb dL_law_537 (by decide) (fun _ => ?_) (fun hq => absurd hq hr0)
            refine lv_goto (tgt := 1380) hx hb dL_law_559 (by decide) ?_
            refine lv_iinc (v := nI (6 * (k + 1))) (lv' := [(4, .int (nI (6 * (k + 1)))), (6, .int bb), (5, .int r9), (0, .ref b), (1, .ref (ad 30)), (2, .ref (bd 0)), (3, .ref o)]) hx hb dL_law_1380 hl (k := 6) rfl (by rw [hik]; show nI (6 * k) + nI 6 = _; rw [nI_add]; congr 1) (by decide) rfl (fun ls hl => ?_)
            refine lv_goto (tgt := 23) hx hb dL_law_1383 (by decide) ?_
            exact ih (k + 1) Su Sq fu (cN + 1) (sN + 6) (by omega) (by omega) hJ (by omega) (by omega) _ _ _ hP hPm hS (lv_sub hl [3, 4, 5, 6, 0] rfl)
          · obtain ⟨hw1, hw2, hw3⟩ := hw
            have hw1 : r9 = 0 := hw1
            have hw2 : Su = Sd := hw2
            subst hw2
            obtain ⟨h47, hcv, hJ⟩ := hinr v9 Su rfl
            have h47 : rs Sq 47 = r9 := h47.trans hw1.symm
            have hcv : fu (Int32.toNatClampNeg (nI 0)) = cvZ bb := hw3.trans hcv
            refine lv_istore (lv' := [(5, .int r9), (0, .ref b), (1, .ref (ad 30)), (2, .ref (bd 0)), (3, .ref o), (4, .int (nI i))]) hx hb dL_law_496 hl (by decide) rfl (fun ls hl => ?_)
            refine lv_aload_n hx hb dL_law_498 rfl (lv_at hl 3 rfl) ?_
            refine lv_aload_n hx hb dL_law_499 rfl (lv_at hl 1 rfl) ?_
            refine lv_iload hx hb dL_law_500 (lv_at hl 5 rfl) ?_
            refine lv_iconst (v := nI 1) hx hb dL_law_502 (by decide) ?_
            refine lv_iadd hx hb dL_law_503 ?_
            refine va_sld hx hb hX hbl hbA hS (by rw [nI_add]; exact vp_in_nI (by omega) (by omega)) dL_law_504 ?_
            refine lv_aload_n hx hb dL_law_505 rfl (lv_at hl 1 rfl) ?_
            refine lv_iload hx hb dL_law_506 (lv_at hl 5 rfl) ?_
            refine lv_iconst (v := nI 2) hx hb dL_law_508 (by decide) ?_
            refine lv_iadd hx hb dL_law_509 ?_
            refine va_sld hx hb hX hbl hbA hS (by rw [nI_add]; exact vp_in_nI (by omega) (by omega)) dL_law_510 ?_
            refine lv_if_eq (tgt := 518) hx hb dL_law_511 (by decide) (fun hq => absurd hq hz1) (fun _ => ?_)
            refine lv_iconst (v := nI 1) hx hb dL_law_514 (by decide) ?_
            refine lv_goto (tgt := 519) hx hb dL_law_515 (by decide) ?_
            refine va_calli (rnV (A := MA bd) (As := [.int (xs (Int32.toNatClampNeg ((nI i) + (nI 1)))), .int (nI 1)]) (rest := []) ⟨hx, hb, hml, hown, hts⟩ (c_X7_poison hM.1 hq) (cwV 2 hts gL_law_X7_poison rfl rfl rfl cdV_X7_poison ⟨(Nat.le_of_ble_eq_true rfl), (Nat.le_of_ble_eq_true rfl)⟩) hPm hK hN mw_o rfl rfl hl.1 rfl (Nat.le_of_ble_eq_true rfl) dL_law_519 ⟨by show cN + 1 + 0 ≤ 601024; omega, by show sN + 6 + 0 ≤ 7293034; omega⟩) hS (fun q _ h => hgM q h) (fun q h => hgM q h) (fun r7 _ t H locs ht _ hw7 hB _ hkH hS => ?_)
            have hw7 : r7 = bb := hw7
            subst r7
            replace hPm : va_P D vwCl (mw cyI cyJ cyZ bd Sq) H := by rw [← ht]; exact hB
            replace hP : va_P D vwCl (cw cyI ad Su ++ [oc cyJ o fu]) H := P_kept hP hkH hdC
            refine lv_istore (lv' := [(6, .int bb), (5, .int r9), (0, .ref b), (1, .ref (ad 30)), (2, .ref (bd 0)), (3, .ref o), (4, .int (nI i))]) hx hb dL_law_522 hl (by decide) rfl (fun ls hl => ?_)
            refine lv_aload_n hx hb dL_law_524 rfl (lv_at hl 4 rfl) ?_
            refine va_calli (rnV (A := MA bd) (As := []) (rest := []) ⟨hx, hb, hml, hown, hts⟩ (c_X7_thrown hM.1 (show m_X7_thrown Sq = some (rs Sq 47) from rfl)) (cwV 0 hts gL_law_X7_thrown rfl rfl rfl cdV_X7_thrown ⟨(Nat.le_of_ble_eq_true rfl), (Nat.le_of_ble_eq_true rfl)⟩) hPm hK hN mw_o rfl rfl hl.1 rfl (Nat.le_of_ble_eq_true rfl) dL_law_525 ⟨by show cN + 1 + 0 ≤ 601024; omega, by show sN + 6 + 0 ≤ 7293034; omega⟩) hS (fun q _ h => hgM q h) (fun q h => hgM q h) (fun r7 _ t H locs ht _ hw7 hB _ hkH hS => ?_)
            have hw7 : r7 = (rs Sq 47) := hw7
            subst r7
            replace hPm : va_P D vwCl (mw cyI cyJ cyZ bd Sq) H := by rw [← ht]; exact hB
            replace hP : va_P D vwCl (cw cyI ad Su ++ [oc cyJ o fu]) H := P_kept hP hkH hdC
            refine lv_iload hx hb dL_law_528 (lv_at hl 1 rfl) ?_
            refine lv_icmp_eq (tgt := 535) hx hb dL_law_530 (by decide) (fun _ => ?_) (fun hq => absurd h47 hq)
            refine lv_iload hx hb dL_law_535 (lv_at hl 1 rfl) ?_
            refine lv_if_ne (tgt := 559) hx hb dL_law_537 (by decide) (fun hq => absurd hw1 hq) (fun _ => ?_)
            refine lv_aload_n hx hb dL_law_540 rfl (lv_at hl 5 rfl) ?_
            refine lv_iconst (v := nI 0) hx hb dL_law_541 (by decide) ?_
            refine va_lald hx hb hK (P_right hP) 0 1 (f := fu) rfl rfl (vp_in_nI (by decide) (by decide)) dL_law_542 ?_
            refine lv_iload hx hb dL_law_543 (lv_at hl 0 rfl) ?_
            refine lv_if_eq (tgt := 552) hx hb dL_law_545 (by decide) (fun hz3 => ?_) (fun hz3 => ?_)
            · refine lv_lconst (v := 0) hx hb dL_law_552 rfl ?_
              refine W.lcmp hx hb dL_law_553 ?_
              refine lv_if_eq (tgt := 559) hx hb dL_law_554 (by decide) (fun _ => ?_) (fun hq => absurd (lg_self (hcv.trans (if_pos hz3))) hq)
              refine lv_goto (tgt := 1380) hx hb dL_law_559 (by decide) ?_
              refine lv_iinc (v := nI (6 * (k + 1))) (lv' := [(4, .int (nI (6 * (k + 1)))), (6, .int bb), (5, .int r9), (0, .ref b), (1, .ref (ad 30)), (2, .ref (bd 0)), (3, .ref o)]) hx hb dL_law_1380 hl (k := 6) rfl (by rw [hik]; show nI (6 * k) + nI 6 = _; rw [nI_add]; congr 1) (by decide) rfl (fun ls hl => ?_)
              refine lv_goto (tgt := 23) hx hb dL_law_1383 (by decide) ?_
              exact ih (k + 1) Su Sq fu (cN + 1) (sN + 6) (by omega) (by omega) hJ (by omega) (by omega) _ _ _ hP hPm hS (lv_sub hl [3, 4, 5, 6, 0] rfl)
            · refine lv_lconst (v := 1) hx hb dL_law_548 rfl ?_
              refine lv_goto (tgt := 553) hx hb dL_law_549 (by decide) ?_
              refine W.lcmp hx hb dL_law_553 ?_
              refine lv_if_eq (tgt := 559) hx hb dL_law_554 (by decide) (fun _ => ?_) (fun hq => absurd (lg_self (hcv.trans (if_neg hz3))) hq)
              refine lv_goto (tgt := 1380) hx hb dL_law_559 (by decide) ?_
              refine lv_iinc (v := nI (6 * (k + 1))) (lv' := [(4, .int (nI (6 * (k + 1)))), (6, .int bb), (5, .int r9), (0, .ref b), (1, .ref (ad 30)), (2, .ref (bd 0)), (3, .ref o)]) hx hb dL_law_1380 hl (k := 6) rfl (by rw [hik]; show nI (6 * k) + nI 6 = _; rw [nI_add]; congr 1) (by decide) rfl (fun ls hl => ?_)
              refine lv_goto (tgt := 23) hx hb dL_law_1383 (by decide) ?_
              exact ih (k + 1) Su Sq fu (cN + 1) (sN + 6) (by omega) (by omega) hJ (by omega) (by omega) _ _ _ hP hPm hS (lv_sub hl [3, 4, 5, 6, 0] rfl)
      · refine lv_tableIn (off := 522) (tgt := 562) hx hb dL_law_40 (by decide) (by decide) rfl (by decide) ?_
        refine lv_aload_n hx hb dL_law_562 rfl (lv_at hl 1 rfl) ?_
        refine lv_aload_n hx hb dL_law_563 rfl (lv_at hl 0 rfl) ?_
        refine lv_iload hx hb dL_law_564 (lv_at hl 4 rfl) ?_
        refine lv_iconst (v := nI 1) hx hb dL_law_566 (by decide) ?_
        refine lv_iadd hx hb dL_law_567 ?_
        refine va_sld hx hb hX hbl hbA hS (by rw [nI_add]; exact vp_in_nI (by omega) (by omega)) dL_law_568 ?_
        refine lv_if_eq (tgt := 576) hx hb dL_law_569 (by decide) (fun hz4 => ?_) (fun hz4 => ?_)
        · refine lv_iconst (v := nI 0) hx hb dL_law_576 (by decide) ?_
          have hok := (hI k Sc Sr hJ hk).2.2.2.2.2.2.2.2.2.2.2.2.2.2.2.2.1
          obtain ⟨bb, Sd, Sq, hres, hq, hJ⟩ := hok (nI 0) (by decide)
          have hPo := P_right hP
          refine va_calli (rnV (A := CA ad) (As := [.int (nI 0)]) (rest := []) ⟨hx, hb, hml, hown, hts⟩ (c_X6_checks hO.1 hres) (cwV 1 hts gL_law_X6_checks rfl rfl rfl cdV_X6_checks ⟨(Nat.le_of_ble_eq_true rfl), (Nat.le_of_ble_eq_true rfl)⟩) (P_left hP) hK hN (cw_o30 (S := Sc)) rfl rfl hl.1 rfl (Nat.le_of_ble_eq_true rfl) dL_law_577 ⟨by show cN + 0 ≤ 601024; omega, by show sN + 0 ≤ 7293034; omega⟩) hS (fun q _ h => hgA q (Or.inl h)) (fun q h => hgA q (Or.inl h)) (fun r7 _ t H locs ht _ hw7 hB _ hkH hS => ?_)
          have hw7 : r7 = bb := hw7
          subst r7
          have hP1 : va_P D vwCl (cw cyI ad Sd) H := by rw [← ht]; exact hB
          replace hP : va_P D vwCl (cw cyI ad Sd ++ [oc cyJ o f]) H := va_P.app hP1 (P_kept hPo hkH hdO)
          replace hPm : va_P D vwCl (mw cyI cyJ cyZ bd Sr) H := P_kept hPm hkH (fun k q h h2 => hdM k q h (Or.inl h2))
          refine lv_aload_n hx hb dL_law_580 rfl (lv_at hl 2 rfl) ?_
          refine lv_aload_n hx hb dL_law_581 rfl (lv_at hl 0 rfl) ?_
          refine lv_iload hx hb dL_law_582 (lv_at hl 4 rfl) ?_
          refine lv_iconst (v := nI 1) hx hb dL_law_584 (by decide) ?_
          refine lv_iadd hx hb dL_law_585 ?_
          refine va_sld hx hb hX hbl hbA hS (by rw [nI_add]; exact vp_in_nI (by omega) (by omega)) dL_law_586 ?_
          refine lv_if_eq (tgt := 594) hx hb dL_law_587 (by decide) (fun _ => ?_) (fun hq => absurd hz4 hq)
          refine lv_iconst (v := nI 0) hx hb dL_law_594 (by decide) ?_
          refine va_calli (rnV (A := MA bd) (As := [.int (nI 0)]) (rest := [.int bb]) ⟨hx, hb, hml, hown, hts⟩ (c_X7_checks hM.1 hq) (cwV 1 hts gL_law_X7_checks rfl rfl rfl cdV_X7_checks ⟨(Nat.le_of_ble_eq_true rfl), (Nat.le_of_ble_eq_true rfl)⟩) hPm hK hN mw_o rfl rfl hl.1 rfl (Nat.le_of_ble_eq_true rfl) dL_law_595 ⟨by show cN + 0 ≤ 601024; omega, by show sN + 0 ≤ 7293034; omega⟩) hS (fun q _ h => hgM q h) (fun q h => hgM q h) (fun r7 _ t H locs ht _ hw7 hB _ hkH hS => ?_)
          have hw7 : r7 = bb := hw7
          subst r7
          replace hPm : va_P D vwCl (mw cyI cyJ cyZ bd Sq) H := by rw [← ht]; exact hB
          replace hP : va_P D vwCl (cw cyI ad Sd ++ [oc cyJ o f]) H := P_kept hP hkH hdC
          refine lv_icmp_eq (tgt := 1380) hx hb dL_law_598 (by decide) (fun _ => ?_) (fun hq => absurd rfl hq)
          refine lv_iinc (v := nI (6 * (k + 1))) (lv' := [(4, .int (nI (6 * (k + 1)))), (0, .ref b), (1, .ref (ad 30)), (2, .ref (bd 0)), (3, .ref o)]) hx hb dL_law_1380 hl (k := 4) rfl (by rw [hik]; show nI (6 * k) + nI 6 = _; rw [nI_add]; congr 1) (by decide) rfl (fun ls hl => ?_)
          refine lv_goto (tgt := 23) hx hb dL_law_1383 (by decide) ?_
          exact ih (k + 1) Sd Sq f (cN + 0) (sN + 0) (by omega) (by omega) hJ (by omega) (by omega) _ _ _ hP hPm hS (lv_sub hl [1, 2, 3, 4, 0] rfl)
        · refine lv_iconst (v := nI 1) hx hb dL_law_572 (by decide) ?_
          refine lv_goto (tgt := 577) hx hb dL_law_573 (by decide) ?_
          have hok := (hI k Sc Sr hJ hk).2.2.2.2.2.2.2.2.2.2.2.2.2.2.2.2.1
          obtain ⟨bb, Sd, Sq, hres, hq, hJ⟩ := hok (nI 1) (by decide)
          have hPo := P_right hP
          refine va_calli (rnV (A := CA ad) (As := [.int (nI 1)]) (rest := []) ⟨hx, hb, hml, hown, hts⟩ (c_X6_checks hO.1 hres) (cwV 1 hts gL_law_X6_checks rfl rfl rfl cdV_X6_checks ⟨(Nat.le_of_ble_eq_true rfl), (Nat.le_of_ble_eq_true rfl)⟩) (P_left hP) hK hN (cw_o30 (S := Sc)) rfl rfl hl.1 rfl (Nat.le_of_ble_eq_true rfl) dL_law_577 ⟨by show cN + 0 ≤ 601024; omega, by show sN + 0 ≤ 7293034; omega⟩) hS (fun q _ h => hgA q (Or.inl h)) (fun q h => hgA q (Or.inl h)) (fun r7 _ t H locs ht _ hw7 hB _ hkH hS => ?_)
          have hw7 : r7 = bb := hw7
          subst r7
          have hP1 : va_P D vwCl (cw cyI ad Sd) H := by rw [← ht]; exact hB
          replace hP : va_P D vwCl (cw cyI ad Sd ++ [oc cyJ o f]) H := va_P.app hP1 (P_kept hPo hkH hdO)
          replace hPm : va_P D vwCl (mw cyI cyJ cyZ bd Sr) H := P_kept hPm hkH (fun k q h h2 => hdM k q h (Or.inl h2))
          refine lv_aload_n hx hb dL_law_580 rfl (lv_at hl 2 rfl) ?_
          refine lv_aload_n hx hb dL_law_581 rfl (lv_at hl 0 rfl) ?_
          refine lv_iload hx hb dL_law_582 (lv_at hl 4 rfl) ?_
          refine lv_iconst (v := nI 1) hx hb dL_law_584 (by decide) ?_
          refine lv_iadd hx hb dL_law_585 ?_
          refine va_sld hx hb hX hbl hbA hS (by rw [nI_add]; exact vp_in_nI (by omega) (by omega)) dL_law_586 ?_
          refine lv_if_eq (tgt := 594) hx hb dL_law_587 (by decide) (fun hq => absurd hq hz4) (fun _ => ?_)
          refine lv_iconst (v := nI 1) hx hb dL_law_590 (by decide) ?_
          refine lv_goto (tgt := 595) hx hb dL_law_591 (by decide) ?_
          refine va_calli (rnV (A := MA bd) (As := [.int (nI 1)]) (rest := [.int bb]) ⟨hx, hb, hml, hown, hts⟩ (c_X7_checks hM.1 hq) (cwV 1 hts gL_law_X7_checks rfl rfl rfl cdV_X7_checks ⟨(Nat.le_of_ble_eq_true rfl), (Nat.le_of_ble_eq_true rfl)⟩) hPm hK hN mw_o rfl rfl hl.1 rfl (Nat.le_of_ble_eq_true rfl) dL_law_595 ⟨by show cN + 0 ≤ 601024; omega, by show sN + 0 ≤ 7293034; omega⟩) hS (fun q _ h => hgM q h) (fun q h => hgM q h) (fun r7 _ t H locs ht _ hw7 hB _ hkH hS => ?_)
          have hw7 : r7 = bb := hw7
          subst r7
          replace hPm : va_P D vwCl (mw cyI cyJ cyZ bd Sq) H := by rw [← ht]; exact hB
          replace hP : va_P D vwCl (cw cyI ad Sd ++ [oc cyJ o f]) H := P_kept hP hkH hdC
          refine lv_icmp_eq (tgt := 1380) hx hb dL_law_598 (by decide) (fun _ => ?_) (fun hq => absurd rfl hq)
          refine lv_iinc (v := nI (6 * (k + 1))) (lv' := [(4, .int (nI (6 * (k + 1)))), (0, .ref b), (1, .ref (ad 30)), (2, .ref (bd 0)), (3, .ref o)]) hx hb dL_law_1380 hl (k := 4) rfl (by rw [hik]; show nI (6 * k) + nI 6 = _; rw [nI_add]; congr 1) (by decide) rfl (fun ls hl => ?_)
          refine lv_goto (tgt := 23) hx hb dL_law_1383 (by decide) ?_
          exact ih (k + 1) Sd Sq f (cN + 0) (sN + 0) (by omega) (by omega) hJ (by omega) (by omega) _ _ _ hP hPm hS (lv_sub hl [1, 2, 3, 4, 0] rfl)
      · refine lv_tableIn (off := 563) (tgt := 603) hx hb dL_law_40 (by decide) (by decide) rfl (by decide) ?_
        refine lv_aload_n hx hb dL_law_603 rfl (lv_at hl 1 rfl) ?_
        refine lv_aload_n hx hb dL_law_604 rfl (lv_at hl 0 rfl) ?_
        refine lv_iload hx hb dL_law_605 (lv_at hl 4 rfl) ?_
        refine lv_iconst (v := nI 1) hx hb dL_law_607 (by decide) ?_
        refine lv_iadd hx hb dL_law_608 ?_
        refine va_sld hx hb hX hbl hbA hS (by rw [nI_add]; exact vp_in_nI (by omega) (by omega)) dL_law_609 ?_
        refine lv_aload_n hx hb dL_law_610 rfl (lv_at hl 3 rfl) ?_
        have hok := (hI k Sc Sr hJ hk).2.2.2.2.2.1
        obtain ⟨res, bb, Sq, hres, hq, hinl, hinr⟩ := hok (xs (Int32.toNatClampNeg ((nI i) + (nI 1))))
        refine va_calli (rnW (As := [.ref (ad 30), .int (xs (Int32.toNatClampNeg ((nI i) + (nI 1)))), .ref o]) (rest := []) ⟨hx, hb, hml, hown, hts⟩ (c_L_vanish hfl hO hres (fun e he => (hinl e he).1)) (vx_cwSW 3 hts gL_law_L_vanish rfl rfl rfl cdS_L_vanish ⟨(Nat.le_of_ble_eq_true rfl), (Nat.le_of_ble_eq_true rfl)⟩) hP hK hN hZ hC hgA hS rfl hl.1 rfl (Nat.le_of_ble_eq_true rfl) dL_law_611 ⟨by show cN + 1 ≤ 601024; omega, by show sN + 6 ≤ 7293034; omega⟩) hS (fun q _ h => hgA q h) (fun q h => hgA q h) (fun r9 u9 t H locs ht _ hw hB _ hkH hS => ?_)
        replace hP : va_P D vwCl (cw cyI ad u9.1 ++ [oc cyJ o u9.2]) H := by rw [← ht]; exact hB
        replace hPm : va_P D vwCl (mw cyI cyJ cyZ bd Sr) H := P_kept hPm hkH hdM
        obtain ⟨Su, fu⟩ := u9
        rcases res with e9 | ⟨v9, Sd⟩
        · obtain ⟨hw1, hw2⟩ := hw
          have hw2 : Su = Sc := hw2
          subst hw2
          obtain ⟨hex, h47, hJ⟩ := hinl e9 rfl
          have hr0 : ¬ r9 = 0 := by rw [hw1]; exact tbn_ex2_tb2 hex
          have h47 : rs Sq 47 = r9 := h47.trans hw1.symm
          refine lv_istore (lv' := [(5, .int r9), (0, .ref b), (1, .ref (ad 30)), (2, .ref (bd 0)), (3, .ref o), (4, .int (nI i))]) hx hb dL_law_614 hl (by decide) rfl (fun ls hl => ?_)
          refine lv_aload_n hx hb dL_law_616 rfl (lv_at hl 3 rfl) ?_
          refine lv_aload_n hx hb dL_law_617 rfl (lv_at hl 1 rfl) ?_
          refine lv_iload hx hb dL_law_618 (lv_at hl 5 rfl) ?_
          refine lv_iconst (v := nI 1) hx hb dL_law_620 (by decide) ?_
          refine lv_iadd hx hb dL_law_621 ?_
          refine va_sld hx hb hX hbl hbA hS (by rw [nI_add]; exact vp_in_nI (by omega) (by omega)) dL_law_622 ?_
          refine va_calli (rnV (A := MA bd) (As := [.int (xs (Int32.toNatClampNeg ((nI i) + (nI 1))))]) (rest := []) ⟨hx, hb, hml, hown, hts⟩ (c_X7_vanish hM.1 hq) (cwV 1 hts gL_law_X7_vanish rfl rfl rfl cdV_X7_vanish ⟨(Nat.le_of_ble_eq_true rfl), (Nat.le_of_ble_eq_true rfl)⟩) hPm hK hN mw_o rfl rfl hl.1 rfl (Nat.le_of_ble_eq_true rfl) dL_law_623 ⟨by show cN + 1 + 0 ≤ 601024; omega, by show sN + 6 + 0 ≤ 7293034; omega⟩) hS (fun q _ h => hgM q h) (fun q h => hgM q h) (fun r7 _ t H locs ht _ hw7 hB _ hkH hS => ?_)
          have hw7 : r7 = bb := hw7
          subst r7
          replace hPm : va_P D vwCl (mw cyI cyJ cyZ bd Sq) H := by rw [← ht]; exact hB
          replace hP : va_P D vwCl (cw cyI ad Su ++ [oc cyJ o fu]) H := P_kept hP hkH hdC
          refine lv_istore (lv' := [(6, .int bb), (5, .int r9), (0, .ref b), (1, .ref (ad 30)), (2, .ref (bd 0)), (3, .ref o), (4, .int (nI i))]) hx hb dL_law_626 hl (by decide) rfl (fun ls hl => ?_)
          refine lv_aload_n hx hb dL_law_628 rfl (lv_at hl 4 rfl) ?_
          refine va_calli (rnV (A := MA bd) (As := []) (rest := []) ⟨hx, hb, hml, hown, hts⟩ (c_X7_thrown hM.1 (show m_X7_thrown Sq = some (rs Sq 47) from rfl)) (cwV 0 hts gL_law_X7_thrown rfl rfl rfl cdV_X7_thrown ⟨(Nat.le_of_ble_eq_true rfl), (Nat.le_of_ble_eq_true rfl)⟩) hPm hK hN mw_o rfl rfl hl.1 rfl (Nat.le_of_ble_eq_true rfl) dL_law_629 ⟨by show cN + 1 + 0 ≤ 601024; omega, by show sN + 6 + 0 ≤ 7293034; omega⟩) hS (fun q _ h => hgM q h) (fun q h => hgM q h) (fun r7 _ t H locs ht _ hw7 hB _ hkH hS => ?_)
          have hw7 : r7 = (rs Sq 47) := hw7
          subst r7
          replace hPm : va_P D vwCl (mw cyI cyJ cyZ bd Sq) H := by rw [← ht]; exact hB
          replace hP : va_P D vwCl (cw cyI ad Su ++ [oc cyJ o fu]) H := P_kept hP hkH hdC
          refine lv_iload hx hb dL_law_632 (lv_at hl 1 rfl) ?_
          refine lv_icmp_eq (tgt := 639) hx hb dL_law_634 (by decide) (fun _ => ?_) (fun hq => absurd h47 hq)
          refine lv_iload hx hb dL_law_639 (lv_at hl 1 rfl) ?_
          refine lv_if_ne (tgt := 656) hx hb dL_law_641 (by decide) (fun _ => ?_) (fun hq => absurd hq hr0)
          refine lv_goto (tgt := 1380) hx hb dL_law_656 (by decide) ?_
          refine lv_iinc (v := nI (6 * (k + 1))) (lv' := [(4, .int (nI (6 * (k + 1)))), (6, .int bb), (5, .int r9), (0, .ref b), (1, .ref (ad 30)), (2, .ref (bd 0)), (3, .ref o)]) hx hb dL_law_1380 hl (k := 6) rfl (by rw [hik]; show nI (6 * k) + nI 6 = _; rw [nI_add]; congr 1) (by decide) rfl (fun ls hl => ?_)
          refine lv_goto (tgt := 23) hx hb dL_law_1383 (by decide) ?_
          exact ih (k + 1) Su Sq fu (cN + 1) (sN + 6) (by omega) (by omega) hJ (by omega) (by omega) _ _ _ hP hPm hS (lv_sub hl [3, 4, 5, 6, 0] rfl)
        · obtain ⟨hw1, hw2, hw3⟩ := hw
          have hw1 : r9 = 0 := hw1
          have hw2 : Su = Sd := hw2
          subst hw2
          obtain ⟨h47, hcv, hJ⟩ := hinr v9 Su rfl
          have h47 : rs Sq 47 = r9 := h47.trans hw1.symm
          have hcv : fu (Int32.toNatClampNeg (nI 0)) = Int32.toInt64 bb := hw3.trans hcv
          refine lv_istore (lv' := [(5, .int r9), (0, .ref b), (1, .ref (ad 30)), (2, .ref (bd 0)), (3, .ref o), (4, .int (nI i))]) hx hb dL_law_614 hl (by decide) rfl (fun ls hl => ?_)
          refine lv_aload_n hx hb dL_law_616 rfl (lv_at hl 3 rfl) ?_
          refine lv_aload_n hx hb dL_law_617 rfl (lv_at hl 1 rfl) ?_
          refine lv_iload hx hb dL_law_618 (lv_at hl 5 rfl) ?_
          refine lv_iconst (v := nI 1) hx hb dL_law_620 (by decide) ?_
          refine lv_iadd hx hb dL_law_621 ?_
          refine va_sld hx hb hX hbl hbA hS (by rw [nI_add]; exact vp_in_nI (by omega) (by omega)) dL_law_622 ?_
          refine va_calli (rnV (A := MA bd) (As := [.int (xs (Int32.toNatClampNeg ((nI i) + (nI 1))))]) (rest := []) ⟨hx, hb, hml, hown, hts⟩ (c_X7_vanish hM.1 hq) (cwV 1 hts gL_law_X7_vanish rfl rfl rfl cdV_X7_vanish ⟨(Nat.le_of_ble_eq_true rfl), (Nat.le_of_ble_eq_true rfl)⟩) hPm hK hN mw_o rfl rfl hl.1 rfl (Nat.le_of_ble_eq_true rfl) dL_law_623 ⟨by show cN + 1 + 0 ≤ 601024; omega, by show sN + 6 + 0 ≤ 7293034; omega⟩) hS (fun q _ h => hgM q h) (fun q h => hgM q h) (fun r7 _ t H locs ht _ hw7 hB _ hkH hS => ?_)
          have hw7 : r7 = bb := hw7
          subst r7
          replace hPm : va_P D vwCl (mw cyI cyJ cyZ bd Sq) H := by rw [← ht]; exact hB
          replace hP : va_P D vwCl (cw cyI ad Su ++ [oc cyJ o fu]) H := P_kept hP hkH hdC
          refine lv_istore (lv' := [(6, .int bb), (5, .int r9), (0, .ref b), (1, .ref (ad 30)), (2, .ref (bd 0)), (3, .ref o), (4, .int (nI i))]) hx hb dL_law_626 hl (by decide) rfl (fun ls hl => ?_)
          refine lv_aload_n hx hb dL_law_628 rfl (lv_at hl 4 rfl) ?_
          refine va_calli (rnV (A := MA bd) (As := []) (rest := []) ⟨hx, hb, hml, hown, hts⟩ (c_X7_thrown hM.1 (show m_X7_thrown Sq = some (rs Sq 47) from rfl)) (cwV 0 hts gL_law_X7_thrown rfl rfl rfl cdV_X7_thrown ⟨(Nat.le_of_ble_eq_true rfl), (Nat.le_of_ble_eq_true rfl)⟩) hPm hK hN mw_o rfl rfl hl.1 rfl (Nat.le_of_ble_eq_true rfl) dL_law_629 ⟨by show cN + 1 + 0 ≤ 601024; omega, by show sN + 6 + 0 ≤ 7293034; omega⟩) hS (fun q _ h => hgM q h) (fun q h => hgM q h) (fun r7 _ t H locs ht _ hw7 hB _ hkH hS => ?_)
          have hw7 : r7 = (rs Sq 47) := hw7
          subst r7
          replace hPm : va_P D vwCl (mw cyI cyJ cyZ bd Sq) H := by rw [← ht]; exact hB
          replace hP : va_P D vwCl (cw cyI ad Su ++ [oc cyJ o fu]) H := P_kept hP hkH hdC
          refine lv_iload hx hb dL_law_632 (lv_at hl 1 rfl) ?_
          refine lv_icmp_eq (tgt := 639) hx hb dL_law_634 (by decide) (fun _ => ?_) (fun hq => absurd h47 hq)
          refine lv_iload hx hb dL_law_639 (lv_at hl 1 rfl) ?_
          refine lv_if_ne (tgt := 656) hx hb dL_law_641 (by decide) (fun hq => absurd hw1 hq) (fun _ => ?_)
          refine lv_aload_n hx hb dL_law_644 rfl (lv_at hl 5 rfl) ?_
          refine lv_iconst (v := nI 0) hx hb dL_law_645 (by decide) ?_
          refine va_lald hx hb hK (P_right hP) 0 1 (f := fu) rfl rfl (vp_in_nI (by decide) (by decide)) dL_law_646 ?_
          refine lv_iload hx hb dL_law_647 (lv_at hl 0 rfl) ?_
          refine lv_i2l hx hb dL_law_649 rfl ?_
          refine W.lcmp hx hb dL_law_650 ?_
          refine lv_if_eq (tgt := 656) hx hb dL_law_651 (by decide) (fun _ => ?_) (fun hq => absurd (lg_self hcv) hq)
          refine lv_goto (tgt := 1380) hx hb dL_law_656 (by decide) ?_
          refine lv_iinc (v := nI (6 * (k + 1))) (lv' := [(4, .int (nI (6 * (k + 1)))), (6, .int bb), (5, .int r9), (0, .ref b), (1, .ref (ad 30)), (2, .ref (bd 0)), (3, .ref o)]) hx hb dL_law_1380 hl (k := 6) rfl (by rw [hik]; show nI (6 * k) + nI 6 = _; rw [nI_add]; congr 1) (by decide) rfl (fun ls hl => ?_)
          refine lv_goto (tgt := 23) hx hb dL_law_1383 (by decide) ?_
          exact ih (k + 1) Su Sq fu (cN + 1) (sN + 6) (by omega) (by omega) hJ (by omega) (by omega) _ _ _ hP hPm hS (lv_sub hl [3, 4, 5, 6, 0] rfl)
      · refine lv_tableIn (off := 619) (tgt := 659) hx hb dL_law_40 (by decide) (by decide) rfl (by decide) ?_
        refine lv_aload_n hx hb dL_law_659 rfl (lv_at hl 1 rfl) ?_
        have hok := (hI k Sc Sr hJ hk).2.2.2.2.2.2.2.2.2.2.2.2.2.2.2.2.2.1
        obtain ⟨bb, Sd, Sq, hres, hq, hJ⟩ := hok
        have hPo := P_right hP
        refine va_calli (rnV (A := CA ad) (As := []) (rest := []) ⟨hx, hb, hml, hown, hts⟩ (c_X6_empty hO.1 hres) (cwV 0 hts gL_law_X6_empty rfl rfl rfl cdV_X6_empty ⟨(Nat.le_of_ble_eq_true rfl), (Nat.le_of_ble_eq_true rfl)⟩) (P_left hP) hK hN (cw_o30 (S := Sc)) rfl rfl hl.1 rfl (Nat.le_of_ble_eq_true rfl) dL_law_660 ⟨by show cN + 0 ≤ 601024; omega, by show sN + 0 ≤ 7293034; omega⟩) hS (fun q _ h => hgA q (Or.inl h)) (fun q h => hgA q (Or.inl h)) (fun r7 _ t H locs ht _ hw7 hB _ hkH hS => ?_)
        have hw7 : r7 = bb := hw7
        subst r7
        have hP1 : va_P D vwCl (cw cyI ad Sd) H := by rw [← ht]; exact hB
        replace hP : va_P D vwCl (cw cyI ad Sd ++ [oc cyJ o f]) H := va_P.app hP1 (P_kept hPo hkH hdO)
        replace hPm : va_P D vwCl (mw cyI cyJ cyZ bd Sr) H := P_kept hPm hkH (fun k q h h2 => hdM k q h (Or.inl h2))
        refine lv_aload_n hx hb dL_law_663 rfl (lv_at hl 2 rfl) ?_
        refine va_calli (rnV (A := MA bd) (As := []) (rest := [.int bb]) ⟨hx, hb, hml, hown, hts⟩ (c_X7_empty hM.1 hq) (cwV 0 hts gL_law_X7_empty rfl rfl rfl cdV_X7_empty ⟨(Nat.le_of_ble_eq_true rfl), (Nat.le_of_ble_eq_true rfl)⟩) hPm hK hN mw_o rfl rfl hl.1 rfl (Nat.le_of_ble_eq_true rfl) dL_law_664 ⟨by show cN + 0 ≤ 601024; omega, by show sN + 0 ≤ 7293034; omega⟩) hS (fun q _ h => hgM q h) (fun q h => hgM q h) (fun r7 _ t H locs ht _ hw7 hB _ hkH hS => ?_)
        have hw7 : r7 = bb := hw7
        subst r7
        replace hPm : va_P D vwCl (mw cyI cyJ cyZ bd Sq) H := by rw [← ht]; exact hB
        replace hP : va_P D vwCl (cw cyI ad Sd ++ [oc cyJ o f]) H := P_kept hP hkH hdC
        refine lv_icmp_eq (tgt := 1380) hx hb dL_law_667 (by decide) (fun _ => ?_) (fun hq => absurd rfl hq)
        refine lv_iinc (v := nI (6 * (k + 1))) (lv' := [(4, .int (nI (6 * (k + 1)))), (0, .ref b), (1, .ref (ad 30)), (2, .ref (bd 0)), (3, .ref o)]) hx hb dL_law_1380 hl (k := 4) rfl (by rw [hik]; show nI (6 * k) + nI 6 = _; rw [nI_add]; congr 1) (by decide) rfl (fun ls hl => ?_)
        refine lv_goto (tgt := 23) hx hb dL_law_1383 (by decide) ?_
        exact ih (k + 1) Sd Sq f (cN + 0) (sN + 0) (by omega) (by omega) hJ (by omega) (by omega) _ _ _ hP hPm hS (lv_sub hl [1, 2, 3, 4, 0] rfl)
      · refine lv_tableIn (off := 632) (tgt := 672) hx hb dL_law_40 (by decide) (by decide) rfl (by decide) ?_
        refine lv_aload_n hx hb dL_law_672 rfl (lv_at hl 1 rfl) ?_
        have hok := (hI k Sc Sr hJ hk).2.2.2.2.2.2.2.2.2.2.2.2.2.2.2.2.2.2.1
        obtain ⟨bb, Sd, Sq, hres, hq, hJ⟩ := hok
        have hPo := P_right hP
        refine va_calli (rnV (A := CA ad) (As := []) (rest := []) ⟨hx, hb, hml, hown, hts⟩ (c_X6_forget hO.1 hres) (cwV 0 hts gL_law_X6_forget rfl rfl rfl cdV_X6_forget ⟨(Nat.le_of_ble_eq_true rfl), (Nat.le_of_ble_eq_true rfl)⟩) (P_left hP) hK hN (cw_o30 (S := Sc)) rfl rfl hl.1 rfl (Nat.le_of_ble_eq_true rfl) dL_law_673 ⟨by show cN + 0 ≤ 601024; omega, by show sN + 0 ≤ 7293034; omega⟩) hS (fun q _ h => hgA q (Or.inl h)) (fun q h => hgA q (Or.inl h)) (fun r7 _ t H locs ht _ hw7 hB _ hkH hS => ?_)
        have hw7 : r7 = bb := hw7
        subst r7
        have hP1 : va_P D vwCl (cw cyI ad Sd) H := by rw [← ht]; exact hB
        replace hP : va_P D vwCl (cw cyI ad Sd ++ [oc cyJ o f]) H := va_P.app hP1 (P_kept hPo hkH hdO)
        replace hPm : va_P D vwCl (mw cyI cyJ cyZ bd Sr) H := P_kept hPm hkH (fun k q h h2 => hdM k q h (Or.inl h2))
        refine lv_aload_n hx hb dL_law_676 rfl (lv_at hl 2 rfl) ?_
        refine va_calli (rnV (A := MA bd) (As := []) (rest := [.int bb]) ⟨hx, hb, hml, hown, hts⟩ (c_X7_forget hM.1 hq) (cwV 0 hts gL_law_X7_forget rfl rfl rfl cdV_X7_forget ⟨(Nat.le_of_ble_eq_true rfl), (Nat.le_of_ble_eq_true rfl)⟩) hPm hK hN mw_o rfl rfl hl.1 rfl (Nat.le_of_ble_eq_true rfl) dL_law_677 ⟨by show cN + 0 ≤ 601024; omega, by show sN + 0 ≤ 7293034; omega⟩) hS (fun q _ h => hgM q h) (fun q h => hgM q h) (fun r7 _ t H locs ht _ hw7 hB _ hkH hS => ?_)
        have hw7 : r7 = bb := hw7
        subst r7
        replace hPm : va_P D vwCl (mw cyI cyJ cyZ bd Sq) H := by rw [← ht]; exact hB
        replace hP : va_P D vwCl (cw cyI ad Sd ++ [oc cyJ o f]) H := P_kept hP hkH hdC
        refine lv_icmp_eq (tgt := 1380) hx hb dL_law_680 (by decide) (fun _ => ?_) (fun hq => absurd rfl hq)
        refine lv_iinc (v := nI (6 * (k + 1))) (lv' := [(4, .int (nI (6 * (k + 1)))), (0, .ref b), (1, .ref (ad 30)), (2, .ref (bd 0)), (3, .ref o)]) hx hb dL_law_1380 hl (k := 4) rfl (by rw [hik]; show nI (6 * k) + nI 6 = _; rw [nI_add]; congr 1) (by decide) rfl (fun ls hl => ?_)
        refine lv_goto (tgt := 23) hx hb dL_law_1383 (by decide) ?_
        exact ih (k + 1) Sd Sq f (cN + 0) (sN + 0) (by omega) (by omega) hJ (by omega) (by omega) _ _ _ hP hPm hS (lv_sub hl [1, 2, 3, 4, 0] rfl)
      · refine lv_tableIn (off := 645) (tgt := 685) hx hb dL_law_40 (by decide) (by decide) rfl (by decide) ?_
        refine lv_aload_n hx hb dL_law_685 rfl (lv_at hl 1 rfl) ?_
        refine lv_aload_n hx hb dL_law_686 rfl (lv_at hl 0 rfl) ?_
        refine lv_iload hx hb dL_law_687 (lv_at hl 4 rfl) ?_
        refine lv_iconst (v := nI 1) hx hb dL_law_689 (by decide) ?_
        refine lv_iadd hx hb dL_law_690 ?_
        refine va_sld hx hb hX hbl hbA hS (by rw [nI_add]; exact vp_in_nI (by omega) (by omega)) dL_law_691 ?_
        refine lv_aload_n hx hb dL_law_692 rfl (lv_at hl 0 rfl) ?_
        refine lv_iload hx hb dL_law_693 (lv_at hl 4 rfl) ?_
        refine lv_iconst (v := nI 2) hx hb dL_law_695 (by decide) ?_
        refine lv_iadd hx hb dL_law_696 ?_
        refine va_sld hx hb hX hbl hbA hS (by rw [nI_add]; exact vp_in_nI (by omega) (by omega)) dL_law_697 ?_
        refine lv_aload_n hx hb dL_law_698 rfl (lv_at hl 3 rfl) ?_
        have hok := (hI k Sc Sr hJ hk).2.2.2.2.2.2.1
        obtain ⟨res, bb, Sq, hres, hq, hinl, hinr⟩ := hok (xs (Int32.toNatClampNeg ((nI i) + (nI 1)))) (xs (Int32.toNatClampNeg ((nI i) + (nI 2))))
        refine va_calli (rnW (As := [.ref (ad 30), .int (xs (Int32.toNatClampNeg ((nI i) + (nI 1)))), .int (xs (Int32.toNatClampNeg ((nI i) + (nI 2)))), .ref o]) (rest := []) ⟨hx, hb, hml, hown, hts⟩ (c_L_build hfl hO hres (fun e he => (hinl e he).1)) (vx_cwSW 4 hts gL_law_L_build rfl rfl rfl cdS_L_build ⟨(Nat.le_of_ble_eq_true rfl), (Nat.le_of_ble_eq_true rfl)⟩) hP hK hN hZ hC hgA hS rfl hl.1 rfl (Nat.le_of_ble_eq_true rfl) dL_law_699 ⟨by show cN + 2 ≤ 601024; omega, by show sN + 12 ≤ 7293034; omega⟩) hS (fun q _ h => hgA q h) (fun q h => hgA q h) (fun r9 u9 t H locs ht _ hw hB _ hkH hS => ?_)
        replace hP : va_P D vwCl (cw cyI ad u9.1 ++ [oc cyJ o u9.2]) H := by rw [← ht]; exact hB
        replace hPm : va_P D vwCl (mw cyI cyJ cyZ bd Sr) H := P_kept hPm hkH hdM
        obtain ⟨Su, fu⟩ := u9
        rcases res with e9 | ⟨v9, Sd⟩
        · obtain ⟨hw1, hw2⟩ := hw
          have hw2 : Su = Sc := hw2
          subst hw2
          obtain ⟨hex, h47, hJ⟩ := hinl e9 rfl
          have hr0 : ¬ r9 = 0 := by rw [hw1]; exact tbn_ex1_tb12 hex
          have h47 : rs Sq 47 = r9 := h47.trans hw1.symm
          refine lv_istore (lv' := [(5, .int r9), (0, .ref b), (1, .ref (ad 30)), (2, .ref (bd 0)), (3, .ref o), (4, .int (nI i))]) hx hb dL_law_702 hl (by decide) rfl (fun ls hl => ?_)
          refine lv_aload_n hx hb dL_law_704 rfl (lv_at hl 3 rfl) ?_
          refine lv_aload_n hx hb dL_law_705 rfl (lv_at hl 1 rfl) ?_
          refine lv_iload hx hb dL_law_706 (lv_at hl 5 rfl) ?_
          refine lv_iconst (v := nI 1) hx hb dL_law_708 (by decide) ?_
          refine lv_iadd hx hb dL_law_709 ?_
          refine va_sld hx hb hX hbl hbA hS (by rw [nI_add]; exact vp_in_nI (by omega) (by omega)) dL_law_710 ?_
          refine lv_aload_n hx hb dL_law_711 rfl (lv_at hl 1 rfl) ?_
          refine lv_iload hx hb dL_law_712 (lv_at hl 5 rfl) ?_
          refine lv_iconst (v := nI 2) hx hb dL_law_714 (by decide) ?_
          refine lv_iadd hx hb dL_law_715 ?_
          refine va_sld hx hb hX hbl hbA hS (by rw [nI_add]; exact vp_in_nI (by omega) (by omega)) dL_law_716 ?_
          refine va_calli (rnV (A := MA bd) (As := [.int (xs (Int32.toNatClampNeg ((nI i) + (nI 1)))), .int (xs (Int32.toNatClampNeg ((nI i) + (nI 2))))]) (rest := []) ⟨hx, hb, hml, hown, hts⟩ (c_X7_build hM.1 hq) (cwV 2 hts gL_law_X7_build rfl rfl rfl cdV_X7_build ⟨(Nat.le_of_ble_eq_true rfl), (Nat.le_of_ble_eq_true rfl)⟩) hPm hK hN mw_o rfl rfl hl.1 rfl (Nat.le_of_ble_eq_true rfl) dL_law_717 ⟨by show cN + 2 + 0 ≤ 601024; omega, by show sN + 12 + 0 ≤ 7293034; omega⟩) hS (fun q _ h => hgM q h) (fun q h => hgM q h) (fun r7 _ t H locs ht _ hw7 hB _ hkH hS => ?_)
          have hw7 : r7 = bb := hw7
          subst r7
          replace hPm : va_P D vwCl (mw cyI cyJ cyZ bd Sq) H := by rw [← ht]; exact hB
          replace hP : va_P D vwCl (cw cyI ad Su ++ [oc cyJ o fu]) H := P_kept hP hkH hdC
          refine lv_istore (lv' := [(6, .int bb), (5, .int r9), (0, .ref b), (1, .ref (ad 30)), (2, .ref (bd 0)), (3, .ref o), (4, .int (nI i))]) hx hb dL_law_720 hl (by decide) rfl (fun ls hl => ?_)
          refine lv_aload_n hx hb dL_law_722 rfl (lv_at hl 4 rfl) ?_
          refine va_calli (rnV (A := MA bd) (As := []) (rest := []) ⟨hx, hb, hml, hown, hts⟩ (c_X7_thrown hM.1 (show m_X7_thrown Sq = some (rs Sq 47) from rfl)) (cwV 0 hts gL_law_X7_thrown rfl rfl rfl cdV_X7_thrown ⟨(Nat.le_of_ble_eq_true rfl), (Nat.le_of_ble_eq_true rfl)⟩) hPm hK hN mw_o rfl rfl hl.1 rfl (Nat.le_of_ble_eq_true rfl) dL_law_723 ⟨by show cN + 2 + 0 ≤ 601024; omega, by show sN + 12 + 0 ≤ 7293034; omega⟩) hS (fun q _ h => hgM q h) (fun q h => hgM q h) (fun r7 _ t H locs ht _ hw7 hB _ hkH hS => ?_)
          have hw7 : r7 = (rs Sq 47) := hw7
          subst r7
          replace hPm : va_P D vwCl (mw cyI cyJ cyZ bd Sq) H := by rw [← ht]; exact hB
          replace hP : va_P D vwCl (cw cyI ad Su ++ [oc cyJ o fu]) H := P_kept hP hkH hdC
          refine lv_iload hx hb dL_law_726 (lv_at hl 1 rfl) ?_
          refine lv_icmp_eq (tgt := 733) hx hb dL_law_728 (by decide) (fun _ => ?_) (fun hq => absurd h47 hq)
          refine lv_iload hx hb dL_law_733 (lv_at hl 1 rfl) ?_
          refine lv_if_ne (tgt := 750) hx hb dL_law_735 (by decide) (fun _ => ?_) (fun hq => absurd hq hr0)
          refine lv_goto (tgt := 1380) hx hb dL_law_750 (by decide) ?_
          refine lv_iinc (v := nI (6 * (k + 1))) (lv' := [(4, .int (nI (6 * (k + 1)))), (6, .int bb), (5, .int r9), (0, .ref b), (1, .ref (ad 30)), (2, .ref (bd 0)), (3, .ref o)]) hx hb dL_law_1380 hl (k := 6) rfl (by rw [hik]; show nI (6 * k) + nI 6 = _; rw [nI_add]; congr 1) (by decide) rfl (fun ls hl => ?_)
          refine lv_goto (tgt := 23) hx hb dL_law_1383 (by decide) ?_
          exact ih (k + 1) Su Sq fu (cN + 2) (sN + 12) (by omega) (by omega) hJ (by omega) (by omega) _ _ _ hP hPm hS (lv_sub hl [3, 4, 5, 6, 0] rfl)
        · obtain ⟨hw1, hw2, hw3⟩ := hw
          have hw1 : r9 = 0 := hw1
          have hw2 : Su = Sd := hw2
          subst hw2
          obtain ⟨h47, hcv, hJ⟩ := hinr v9 Su rfl
          have h47 : rs Sq 47 = r9 := h47.trans hw1.symm
          have hcv : fu (Int32.toNatClampNeg (nI 0)) = Int32.toInt64 bb := hw3.trans hcv
          refine lv_istore (lv' := [(5, .int r9), (0, .ref b), (1, .ref (ad 30)), (2, .ref (bd 0)), (3, .ref o), (4, .int (nI i))]) hx hb dL_law_702 hl (by decide) rfl (fun ls hl => ?_)
          refine lv_aload_n hx hb dL_law_704 rfl (lv_at hl 3 rfl) ?_
          refine lv_aload_n hx hb dL_law_705 rfl (lv_at hl 1 rfl) ?_
          refine lv_iload hx hb dL_law_706 (lv_at hl 5 rfl) ?_
          refine lv_iconst (v := nI 1) hx hb dL_law_708 (by decide) ?_
          refine lv_iadd hx hb dL_law_709 ?_
          refine va_sld hx hb hX hbl hbA hS (by rw [nI_add]; exact vp_in_nI (by omega) (by omega)) dL_law_710 ?_
          refine lv_aload_n hx hb dL_law_711 rfl (lv_at hl 1 rfl) ?_
          refine lv_iload hx hb dL_law_712 (lv_at hl 5 rfl) ?_
          refine lv_iconst (v := nI 2) hx hb dL_law_714 (by decide) ?_
          refine lv_iadd hx hb dL_law_715 ?_
          refine va_sld hx hb hX hbl hbA hS (by rw [nI_add]; exact vp_in_nI (by omega) (by omega)) dL_law_716 ?_
          refine va_calli (rnV (A := MA bd) (As := [.int (xs (Int32.toNatClampNeg ((nI i) + (nI 1)))), .int (xs (Int32.toNatClampNeg ((nI i) + (nI 2))))]) (rest := []) ⟨hx, hb, hml, hown, hts⟩ (c_X7_build hM.1 hq) (cwV 2 hts gL_law_X7_build rfl rfl rfl cdV_X7_build ⟨(Nat.le_of_ble_eq_true rfl), (Nat.le_of_ble_eq_true rfl)⟩) hPm hK hN mw_o rfl rfl hl.1 rfl (Nat.le_of_ble_eq_true rfl) dL_law_717 ⟨by show cN + 2 + 0 ≤ 601024; omega, by show sN + 12 + 0 ≤ 7293034; omega⟩) hS (fun q _ h => hgM q h) (fun q h => hgM q h) (fun r7 _ t H locs ht _ hw7 hB _ hkH hS => ?_)
          have hw7 : r7 = bb := hw7
          subst r7
          replace hPm : va_P D vwCl (mw cyI cyJ cyZ bd Sq) H := by rw [← ht]; exact hB
          replace hP : va_P D vwCl (cw cyI ad Su ++ [oc cyJ o fu]) H := P_kept hP hkH hdC
          refine lv_istore (lv' := [(6, .int bb), (5, .int r9), (0, .ref b), (1, .ref (ad 30)), (2, .ref (bd 0)), (3, .ref o), (4, .int (nI i))]) hx hb dL_law_720 hl (by decide) rfl (fun ls hl => ?_)
          refine lv_aload_n hx hb dL_law_722 rfl (lv_at hl 4 rfl) ?_
          refine va_calli (rnV (A := MA bd) (As := []) (rest := []) ⟨hx, hb, hml, hown, hts⟩ (c_X7_thrown hM.1 (show m_X7_thrown Sq = some (rs Sq 47) from rfl)) (cwV 0 hts gL_law_X7_thrown rfl rfl rfl cdV_X7_thrown ⟨(Nat.le_of_ble_eq_true rfl), (Nat.le_of_ble_eq_true rfl)⟩) hPm hK hN mw_o rfl rfl hl.1 rfl (Nat.le_of_ble_eq_true rfl) dL_law_723 ⟨by show cN + 2 + 0 ≤ 601024; omega, by show sN + 12 + 0 ≤ 7293034; omega⟩) hS (fun q _ h => hgM q h) (fun q h => hgM q h) (fun r7 _ t H locs ht _ hw7 hB _ hkH hS => ?_)
          have hw7 : r7 = (rs Sq 47) := hw7
          subst r7
          replace hPm : va_P D vwCl (mw cyI cyJ cyZ bd Sq) H := by rw [← ht]; exact hB
          replace hP : va_P D vwCl (cw cyI ad Su ++ [oc cyJ o fu]) H := P_kept hP hkH hdC
          refine lv_iload hx hb dL_law_726 (lv_at hl 1 rfl) ?_
          refine lv_icmp_eq (tgt := 733) hx hb dL_law_728 (by decide) (fun _ => ?_) (fun hq => absurd h47 hq)
          refine lv_iload hx hb dL_law_733 (lv_at hl 1 rfl) ?_
          refine lv_if_ne (tgt := 750) hx hb dL_law_735 (by decide) (fun hq => absurd hw1 hq) (fun _ => ?_)
          refine lv_aload_n hx hb dL_law_738 rfl (lv_at hl 5 rfl) ?_
          refine lv_iconst (v := nI 0) hx hb dL_law_739 (by decide) ?_
          refine va_lald hx hb hK (P_right hP) 0 1 (f := fu) rfl rfl (vp_in_nI (by decide) (by decide)) dL_law_740 ?_
          refine lv_iload hx hb dL_law_741 (lv_at hl 0 rfl) ?_
          refine lv_i2l hx hb dL_law_743 rfl ?_
          refine W.lcmp hx hb dL_law_744 ?_
          refine lv_if_eq (tgt := 750) hx hb dL_law_745 (by decide) (fun _ => ?_) (fun hq => absurd (lg_self hcv) hq)
          refine lv_goto (tgt := 1380) hx hb dL_law_750 (by decide) ?_
          refine lv_iinc (v := nI (6 * (k + 1))) (lv' := [(4, .int (nI (6 * (k + 1)))), (6, .int bb), (5, .int r9), (0, .ref b), (1, .ref (ad 30)), (2, .ref (bd 0)), (3, .ref o)]) hx hb dL_law_1380 hl (k := 6) rfl (by rw [hik]; show nI (6 * k) + nI 6 = _; rw [nI_add]; congr 1) (by decide) rfl (fun ls hl => ?_)
          refine lv_goto (tgt := 23) hx hb dL_law_1383 (by decide) ?_
          exact ih (k + 1) Su Sq fu (cN + 2) (sN + 12) (by omega) (by omega) hJ (by omega) (by omega) _ _ _ hP hPm hS (lv_sub hl [3, 4, 5, 6, 0] rfl)
      · refine lv_tableIn (off := 713) (tgt := 753) hx hb dL_law_40 (by decide) (by decide) rfl (by decide) ?_
        refine lv_aload_n hx hb dL_law_753 rfl (lv_at hl 1 rfl) ?_
        refine lv_aload_n hx hb dL_law_754 rfl (lv_at hl 0 rfl) ?_
        refine lv_iload hx hb dL_law_755 (lv_at hl 4 rfl) ?_
        refine lv_iconst (v := nI 1) hx hb dL_law_757 (by decide) ?_
        refine lv_iadd hx hb dL_law_758 ?_
        refine va_sld hx hb hX hbl hbA hS (by rw [nI_add]; exact vp_in_nI (by omega) (by omega)) dL_law_759 ?_
        refine lv_aload_n hx hb dL_law_760 rfl (lv_at hl 0 rfl) ?_
        refine lv_iload hx hb dL_law_761 (lv_at hl 4 rfl) ?_
        refine lv_iconst (v := nI 2) hx hb dL_law_763 (by decide) ?_
        refine lv_iadd hx hb dL_law_764 ?_
        refine va_sld hx hb hX hbl hbA hS (by rw [nI_add]; exact vp_in_nI (by omega) (by omega)) dL_law_765 ?_
        refine lv_aload_n hx hb dL_law_766 rfl (lv_at hl 3 rfl) ?_
        have hok := (hI k Sc Sr hJ hk).2.2.2.2.2.2.2.1
        obtain ⟨res, bb, Sq, hres, hq, hinl, hinr⟩ := hok (xs (Int32.toNatClampNeg ((nI i) + (nI 1)))) (xs (Int32.toNatClampNeg ((nI i) + (nI 2))))
        refine va_calli (rnW (As := [.ref (ad 30), .int (xs (Int32.toNatClampNeg ((nI i) + (nI 1)))), .int (xs (Int32.toNatClampNeg ((nI i) + (nI 2)))), .ref o]) (rest := []) ⟨hx, hb, hml, hown, hts⟩ (c_L_plain hfl hO hres (fun e he => (hinl e he).1)) (vx_cwSW 4 hts gL_law_L_plain rfl rfl rfl cdS_L_plain ⟨(Nat.le_of_ble_eq_true rfl), (Nat.le_of_ble_eq_true rfl)⟩) hP hK hN hZ hC hgA hS rfl hl.1 rfl (Nat.le_of_ble_eq_true rfl) dL_law_767 ⟨by show cN + 2 ≤ 601024; omega, by show sN + 12 ≤ 7293034; omega⟩) hS (fun q _ h => hgA q h) (fun q h => hgA q h) (fun r9 u9 t H locs ht _ hw hB _ hkH hS => ?_)
        replace hP : va_P D vwCl (cw cyI ad u9.1 ++ [oc cyJ o u9.2]) H := by rw [← ht]; exact hB
        replace hPm : va_P D vwCl (mw cyI cyJ cyZ bd Sr) H := P_kept hPm hkH hdM
        obtain ⟨Su, fu⟩ := u9
        rcases res with e9 | ⟨v9, Sd⟩
        · obtain ⟨hw1, hw2⟩ := hw
          have hw2 : Su = Sc := hw2
          subst hw2
          obtain ⟨hex, h47, hJ⟩ := hinl e9 rfl
          have hr0 : ¬ r9 = 0 := by rw [hw1]; exact tbn_ex1_tb12 hex
          have h47 : rs Sq 47 = r9 := h47.trans hw1.symm
          refine lv_istore (lv' := [(5, .int r9), (0, .ref b), (1, .ref (ad 30)), (2, .ref (bd 0)), (3, .ref o), (4, .int (nI i))]) hx hb dL_law_770 hl (by decide) rfl (fun ls hl => ?_)
          refine lv_aload_n hx hb dL_law_772 rfl (lv_at hl 3 rfl) ?_
          refine lv_aload_n hx hb dL_law_773 rfl (lv_at hl 1 rfl) ?_
          refine lv_iload hx hb dL_law_774 (lv_at hl 5 rfl) ?_
          refine lv_iconst (v := nI 1) hx hb dL_law_776 (by decide) ?_
          refine lv_iadd hx hb dL_law_777 ?_
          refine va_sld hx hb hX hbl hbA hS (by rw [nI_add]; exact vp_in_nI (by omega) (by omega)) dL_law_778 ?_
          refine lv_aload_n hx hb dL_law_779 rfl (lv_at hl 1 rfl) ?_
          refine lv_iload hx hb dL_law_780 (lv_at hl 5 rfl) ?_
          refine lv_iconst (v := nI 2) hx hb dL_law_782 (by decide) ?_
          refine lv_iadd hx hb dL_law_783 ?_
          refine va_sld hx hb hX hbl hbA hS (by rw [nI_add]; exact vp_in_nI (by omega) (by omega)) dL_law_784 ?_
          refine va_calli (rnV (A := MA bd) (As := [.int (xs (Int32.toNatClampNeg ((nI i) + (nI 1)))), .int (xs (Int32.toNatClampNeg ((nI i) + (nI 2))))]) (rest := []) ⟨hx, hb, hml, hown, hts⟩ (c_X7_plain hM.1 hq) (cwV 2 hts gL_law_X7_plain rfl rfl rfl cdV_X7_plain ⟨(Nat.le_of_ble_eq_true rfl), (Nat.le_of_ble_eq_true rfl)⟩) hPm hK hN mw_o rfl rfl hl.1 rfl (Nat.le_of_ble_eq_true rfl) dL_law_785 ⟨by show cN + 2 + 0 ≤ 601024; omega, by show sN + 12 + 0 ≤ 7293034; omega⟩) hS (fun q _ h => hgM q h) (fun q h => hgM q h) (fun r7 _ t H locs ht _ hw7 hB _ hkH hS => ?_)
          have hw7 : r7 = bb := hw7
          subst r7
          replace hPm : va_P D vwCl (mw cyI cyJ cyZ bd Sq) H := by rw [← ht]; exact hB
          replace hP : va_P D vwCl (cw cyI ad Su ++ [oc cyJ o fu]) H := P_kept hP hkH hdC
          refine lv_istore (lv' := [(6, .int bb), (5, .int r9), (0, .ref b), (1, .ref (ad 30)), (2, .ref (bd 0)), (3, .ref o), (4, .int (nI i))]) hx hb dL_law_788 hl (by decide) rfl (fun ls hl => ?_)
          refine lv_aload_n hx hb dL_law_790 rfl (lv_at hl 4 rfl) ?_
          refine va_calli (rnV (A := MA bd) (As := []) (rest := []) ⟨hx, hb, hml, hown, hts⟩ (c_X7_thrown hM.1 (show m_X7_thrown Sq = some (rs Sq 47) from rfl)) (cwV 0 hts gL_law_X7_thrown rfl rfl rfl cdV_X7_thrown ⟨(Nat.le_of_ble_eq_true rfl), (Nat.le_of_ble_eq_true rfl)⟩) hPm hK hN mw_o rfl rfl hl.1 rfl (Nat.le_of_ble_eq_true rfl) dL_law_791 ⟨by show cN + 2 + 0 ≤ 601024; omega, by show sN + 12 + 0 ≤ 7293034; omega⟩) hS (fun q _ h => hgM q h) (fun q h => hgM q h) (fun r7 _ t H locs ht _ hw7 hB _ hkH hS => ?_)
          have hw7 : r7 = (rs Sq 47) := hw7
          subst r7
          replace hPm : va_P D vwCl (mw cyI cyJ cyZ bd Sq) H := by rw [← ht]; exact hB
          replace hP : va_P D vwCl (cw cyI ad Su ++ [oc cyJ o fu]) H := P_kept hP hkH hdC
          refine lv_iload hx hb dL_law_794 (lv_at hl 1 rfl) ?_
          refine lv_icmp_eq (tgt := 801) hx hb dL_law_796 (by decide) (fun _ => ?_) (fun hq => absurd h47 hq)
          refine lv_iload hx hb dL_law_801 (lv_at hl 1 rfl) ?_
          refine lv_if_ne (tgt := 818) hx hb dL_law_803 (by decide) (fun _ => ?_) (fun hq => absurd hq hr0)
          refine lv_goto (tgt := 1380) hx hb dL_law_818 (by decide) ?_
          refine lv_iinc (v := nI (6 * (k + 1))) (lv' := [(4, .int (nI (6 * (k + 1)))), (6, .int bb), (5, .int r9), (0, .ref b), (1, .ref (ad 30)), (2, .ref (bd 0)), (3, .ref o)]) hx hb dL_law_1380 hl (k := 6) rfl (by rw [hik]; show nI (6 * k) + nI 6 = _; rw [nI_add]; congr 1) (by decide) rfl (fun ls hl => ?_)
          refine lv_goto (tgt := 23) hx hb dL_law_1383 (by decide) ?_
          exact ih (k + 1) Su Sq fu (cN + 2) (sN + 12) (by omega) (by omega) hJ (by omega) (by omega) _ _ _ hP hPm hS (lv_sub hl [3, 4, 5, 6, 0] rfl)
        · obtain ⟨hw1, hw2, hw3⟩ := hw
          have hw1 : r9 = 0 := hw1
          have hw2 : Su = Sd := hw2
          subst hw2
          obtain ⟨h47, hcv, hJ⟩ := hinr v9 Su rfl
          have h47 : rs Sq 47 = r9 := h47.trans hw1.symm
          have hcv : fu (Int32.toNatClampNeg (nI 0)) = Int32.toInt64 bb := hw3.trans hcv
          refine lv_istore (lv' := [(5, .int r9), (0, .ref b), (1, .ref (ad 30)), (2, .ref (bd 0)), (3, .ref o), (4, .int (nI i))]) hx hb dL_law_770 hl (by decide) rfl (fun ls hl => ?_)
          refine lv_aload_n hx hb dL_law_772 rfl (lv_at hl 3 rfl) ?_
          refine lv_aload_n hx hb dL_law_773 rfl (lv_at hl 1 rfl) ?_
          refine lv_iload hx hb dL_law_774 (lv_at hl 5 rfl) ?_
          refine lv_iconst (v := nI 1) hx hb dL_law_776 (by decide) ?_
          refine lv_iadd hx hb dL_law_777 ?_
          refine va_sld hx hb hX hbl hbA hS (by rw [nI_add]; exact vp_in_nI (by omega) (by omega)) dL_law_778 ?_
          refine lv_aload_n hx hb dL_law_779 rfl (lv_at hl 1 rfl) ?_
          refine lv_iload hx hb dL_law_780 (lv_at hl 5 rfl) ?_
          refine lv_iconst (v := nI 2) hx hb dL_law_782 (by decide) ?_
          refine lv_iadd hx hb dL_law_783 ?_
          refine va_sld hx hb hX hbl hbA hS (by rw [nI_add]; exact vp_in_nI (by omega) (by omega)) dL_law_784 ?_
          refine va_calli (rnV (A := MA bd) (As := [.int (xs (Int32.toNatClampNeg ((nI i) + (nI 1)))), .int (xs (Int32.toNatClampNeg ((nI i) + (nI 2))))]) (rest := []) ⟨hx, hb, hml, hown, hts⟩ (c_X7_plain hM.1 hq) (cwV 2 hts gL_law_X7_plain rfl rfl rfl cdV_X7_plain ⟨(Nat.le_of_ble_eq_true rfl), (Nat.le_of_ble_eq_true rfl)⟩) hPm hK hN mw_o rfl rfl hl.1 rfl (Nat.le_of_ble_eq_true rfl) dL_law_785 ⟨by show cN + 2 + 0 ≤ 601024; omega, by show sN + 12 + 0 ≤ 7293034; omega⟩) hS (fun q _ h => hgM q h) (fun q h => hgM q h) (fun r7 _ t H locs ht _ hw7 hB _ hkH hS => ?_)
          have hw7 : r7 = bb := hw7
          subst r7
          replace hPm : va_P D vwCl (mw cyI cyJ cyZ bd Sq) H := by rw [← ht]; exact hB
          replace hP : va_P D vwCl (cw cyI ad Su ++ [oc cyJ o fu]) H := P_kept hP hkH hdC
          refine lv_istore (lv' := [(6, .int bb), (5, .int r9), (0, .ref b), (1, .ref (ad 30)), (2, .ref (bd 0)), (3, .ref o), (4, .int (nI i))]) hx hb dL_law_788 hl (by decide) rfl (fun ls hl => ?_)
          refine lv_aload_n hx hb dL_law_790 rfl (lv_at hl 4 rfl) ?_
          refine va_calli (rnV (A := MA bd) (As := []) (rest := []) ⟨hx, hb, hml, hown, hts⟩ (c_X7_thrown hM.1 (show m_X7_thrown Sq = some (rs Sq 47) from rfl)) (cwV 0 hts gL_law_X7_thrown rfl rfl rfl cdV_X7_thrown ⟨(Nat.le_of_ble_eq_true rfl), (Nat.le_of_ble_eq_true rfl)⟩) hPm hK hN mw_o rfl rfl hl.1 rfl (Nat.le_of_ble_eq_true rfl) dL_law_791 ⟨by show cN + 2 + 0 ≤ 601024; omega, by show sN + 12 + 0 ≤ 7293034; omega⟩) hS (fun q _ h => hgM q h) (fun q h => hgM q h) (fun r7 _ t H locs ht _ hw7 hB _ hkH hS => ?_)
          have hw7 : r7 = (rs Sq 47) := hw7
          subst r7
          replace hPm : va_P D vwCl (mw cyI cyJ cyZ bd Sq) H := by rw [← ht]; exact hB
          replace hP : va_P D vwCl (cw cyI ad Su ++ [oc cyJ o fu]) H := P_kept hP hkH hdC
          refine lv_iload hx hb dL_law_794 (lv_at hl 1 rfl) ?_
          refine lv_icmp_eq (tgt := 801) hx hb dL_law_796 (by decide) (fun _ => ?_) (fun hq => absurd h47 hq)
          refine lv_iload hx hb dL_law_801 (lv_at hl 1 rfl) ?_
          refine lv_if_ne (tgt := 818) hx hb dL_law_803 (by decide) (fun hq => absurd hw1 hq) (fun _ => ?_)
          refine lv_aload_n hx hb dL_law_806 rfl (lv_at hl 5 rfl) ?_
          refine lv_iconst (v := nI 0) hx hb dL_law_807 (by decide) ?_
          refine va_lald hx hb hK (P_right hP) 0 1 (f := fu) rfl rfl (vp_in_nI (by decide) (by decide)) dL_law_808 ?_
          refine lv_iload hx hb dL_law_809 (lv_at hl 0 rfl) ?_
          refine lv_i2l hx hb dL_law_811 rfl ?_
          refine W.lcmp hx hb dL_law_812 ?_
          refine lv_if_eq (tgt := 818) hx hb dL_law_813 (by decide) (fun _ => ?_) (fun hq => absurd (lg_self hcv) hq)
          refine lv_goto (tgt := 1380) hx hb dL_law_818 (by decide) ?_
          refine lv_iinc (v := nI (6 * (k + 1))) (lv' := [(4, .int (nI (6 * (k + 1)))), (6, .int bb), (5, .int r9), (0, .ref b), (1, .ref (ad 30)), (2, .ref (bd 0)), (3, .ref o)]) hx hb dL_law_1380 hl (k := 6) rfl (by rw [hik]; show nI (6 * k) + nI 6 = _; rw [nI_add]; congr 1) (by decide) rfl (fun ls hl => ?_)
          refine lv_goto (tgt := 23) hx hb dL_law_1383 (by decide) ?_
          exact ih (k + 1) Su Sq fu (cN + 2) (sN + 12) (by omega) (by omega) hJ (by omega) (by omega) _ _ _ hP hPm hS (lv_sub hl [3, 4, 5, 6, 0] rfl)
      · refine lv_tableIn (off := 781) (tgt := 821) hx hb dL_law_40 (by decide) (by decide) rfl (by decide) ?_
        refine lv_aload_n hx hb dL_law_821 rfl (lv_at hl 1 rfl) ?_
        refine lv_aload_n hx hb dL_law_822 rfl (lv_at hl 0 rfl) ?_
        refine lv_iload hx hb dL_law_823 (lv_at hl 4 rfl) ?_
        refine lv_iconst (v := nI 1) hx hb dL_law_825 (by decide) ?_
        refine lv_iadd hx hb dL_law_826 ?_
        refine va_sld hx hb hX hbl hbA hS (by rw [nI_add]; exact vp_in_nI (by omega) (by omega)) dL_law_827 ?_
        refine lv_aload_n hx hb dL_law_828 rfl (lv_at hl 0 rfl) ?_
        refine lv_iload hx hb dL_law_829 (lv_at hl 4 rfl) ?_
        refine lv_iconst (v := nI 2) hx hb dL_law_831 (by decide) ?_
        refine lv_iadd hx hb dL_law_832 ?_
        refine va_sld hx hb hX hbl hbA hS (by rw [nI_add]; exact vp_in_nI (by omega) (by omega)) dL_law_833 ?_
        refine lv_aload_n hx hb dL_law_834 rfl (lv_at hl 3 rfl) ?_
        have hok := (hI k Sc Sr hJ hk).2.2.2.2.2.2.2.2.1
        obtain ⟨res, bb, Sq, hres, hq, hinl, hinr⟩ := hok (xs (Int32.toNatClampNeg ((nI i) + (nI 1)))) (xs (Int32.toNatClampNeg ((nI i) + (nI 2))))
        refine va_calli (rnW (As := [.ref (ad 30), .int (xs (Int32.toNatClampNeg ((nI i) + (nI 1)))), .int (xs (Int32.toNatClampNeg ((nI i) + (nI 2)))), .ref o]) (rest := []) ⟨hx, hb, hml, hown, hts⟩ (c_L_done hfl hO hres (fun e he => (hinl e he).1)) (vx_cwSW 4 hts gL_law_L_done rfl rfl rfl cdS_L_done ⟨(Nat.le_of_ble_eq_true rfl), (Nat.le_of_ble_eq_true rfl)⟩) hP hK hN hZ hC hgA hS rfl hl.1 rfl (Nat.le_of_ble_eq_true rfl) dL_law_835 ⟨by show cN + 2 ≤ 601024; omega, by show sN + 12 ≤ 7293034; omega⟩) hS (fun q _ h => hgA q h) (fun q h => hgA q h) (fun r9 u9 t H locs ht _ hw hB _ hkH hS => ?_)
        replace hP : va_P D vwCl (cw cyI ad u9.1 ++ [oc cyJ o u9.2]) H := by rw [← ht]; exact hB
        replace hPm : va_P D vwCl (mw cyI cyJ cyZ bd Sr) H := P_kept hPm hkH hdM
        obtain ⟨Su, fu⟩ := u9
        rcases res with e9 | ⟨v9, Sd⟩
        · obtain ⟨hw1, hw2⟩ := hw
          have hw2 : Su = Sc := hw2
          subst hw2
          obtain ⟨hex, h47, hJ⟩ := hinl e9 rfl
          have hr0 : ¬ r9 = 0 := by rw [hw1]; exact tbn_ex1_tb12 hex
          have h47 : rs Sq 47 = r9 := h47.trans hw1.symm
          refine lv_istore (lv' := [(5, .int r9), (0, .ref b), (1, .ref (ad 30)), (2, .ref (bd 0)), (3, .ref o), (4, .int (nI i))]) hx hb dL_law_838 hl (by decide) rfl (fun ls hl => ?_)
          refine lv_aload_n hx hb dL_law_840 rfl (lv_at hl 3 rfl) ?_
          refine lv_aload_n hx hb dL_law_841 rfl (lv_at hl 1 rfl) ?_
          refine lv_iload hx hb dL_law_842 (lv_at hl 5 rfl) ?_
          refine lv_iconst (v := nI 1) hx hb dL_law_844 (by decide) ?_
          refine lv_iadd hx hb dL_law_845 ?_
          refine va_sld hx hb hX hbl hbA hS (by rw [nI_add]; exact vp_in_nI (by omega) (by omega)) dL_law_846 ?_
          refine lv_aload_n hx hb dL_law_847 rfl (lv_at hl 1 rfl) ?_
          refine lv_iload hx hb dL_law_848 (lv_at hl 5 rfl) ?_
          refine lv_iconst (v := nI 2) hx hb dL_law_850 (by decide) ?_
          refine lv_iadd hx hb dL_law_851 ?_
          refine va_sld hx hb hX hbl hbA hS (by rw [nI_add]; exact vp_in_nI (by omega) (by omega)) dL_law_852 ?_
          refine va_calli (rnV (A := MA bd) (As := [.int (xs (Int32.toNatClampNeg ((nI i) + (nI 1)))), .int (xs (Int32.toNatClampNeg ((nI i) + (nI 2))))]) (rest := []) ⟨hx, hb, hml, hown, hts⟩ (c_X7_done hM.1 hq) (cwV 2 hts gL_law_X7_done rfl rfl rfl cdV_X7_done ⟨(Nat.le_of_ble_eq_true rfl), (Nat.le_of_ble_eq_true rfl)⟩) hPm hK hN mw_o rfl rfl hl.1 rfl (Nat.le_of_ble_eq_true rfl) dL_law_853 ⟨by show cN + 2 + 0 ≤ 601024; omega, by show sN + 12 + 0 ≤ 7293034; omega⟩) hS (fun q _ h => hgM q h) (fun q h => hgM q h) (fun r7 _ t H locs ht _ hw7 hB _ hkH hS => ?_)
          have hw7 : r7 = bb := hw7
          subst r7
          replace hPm : va_P D vwCl (mw cyI cyJ cyZ bd Sq) H := by rw [← ht]; exact hB
          replace hP : va_P D vwCl (cw cyI ad Su ++ [oc cyJ o fu]) H := P_kept hP hkH hdC
          refine lv_istore (lv' := [(6, .int bb), (5, .int r9), (0, .ref b), (1, .ref (ad 30)), (2, .ref (bd 0)), (3, .ref o), (4, .int (nI i))]) hx hb dL_law_856 hl (by decide) rfl (fun ls hl => ?_)
          refine lv_aload_n hx hb dL_law_858 rfl (lv_at hl 4 rfl) ?_
          refine va_calli (rnV (A := MA bd) (As := []) (rest := []) ⟨hx, hb, hml, hown, hts⟩ (c_X7_thrown hM.1 (show m_X7_thrown Sq = some (rs Sq 47) from rfl)) (cwV 0 hts gL_law_X7_thrown rfl rfl rfl cdV_X7_thrown ⟨(Nat.le_of_ble_eq_true rfl), (Nat.le_of_ble_eq_true rfl)⟩) hPm hK hN mw_o rfl rfl hl.1 rfl (Nat.le_of_ble_eq_true rfl) dL_law_859 ⟨by show cN + 2 + 0 ≤ 601024; omega, by show sN + 12 + 0 ≤ 7293034; omega⟩) hS (fun q _ h => hgM q h) (fun q h => hgM q h) (fun r7 _ t H locs ht _ hw7 hB _ hkH hS => ?_)
          have hw7 : r7 = (rs Sq 47) := hw7
          subst r7
          replace hPm : va_P D vwCl (mw cyI cyJ cyZ bd Sq) H := by rw [← ht]; exact hB
          replace hP : va_P D vwCl (cw cyI ad Su ++ [oc cyJ o fu]) H := P_kept hP hkH hdC
          refine lv_iload hx hb dL_law_862 (lv_at hl 1 rfl) ?_
          refine lv_icmp_eq (tgt := 869) hx hb dL_law_864 (by decide) (fun _ => ?_) (fun hq => absurd h47 hq)
          refine lv_iload hx hb dL_law_869 (lv_at hl 1 rfl) ?_
          refine lv_if_ne (tgt := 886) hx hb dL_law_871 (by decide) (fun _ => ?_) (fun hq => absurd hq hr0)
          refine lv_goto (tgt := 1380) hx hb dL_law_886 (by decide) ?_
          refine lv_iinc (v := nI (6 * (k + 1))) (lv' := [(4, .int (nI (6 * (k + 1)))), (6, .int bb), (5, .int r9), (0, .ref b), (1, .ref (ad 30)), (2, .ref (bd 0)), (3, .ref o)]) hx hb dL_law_1380 hl (k := 6) rfl (by rw [hik]; show nI (6 * k) + nI 6 = _; rw [nI_add]; congr 1) (by decide) rfl (fun ls hl => ?_)
          refine lv_goto (tgt := 23) hx hb dL_law_1383 (by decide) ?_
          exact ih (k + 1) Su Sq fu (cN + 2) (sN + 12) (by omega) (by omega) hJ (by omega) (by omega) _ _ _ hP hPm hS (lv_sub hl [3, 4, 5, 6, 0] rfl)
        · obtain ⟨hw1, hw2, hw3⟩ := hw
          have hw1 : r9 = 0 := hw1
          have hw2 : Su = Sd := hw2
          subst hw2
          obtain ⟨h47, hcv, hJ⟩ := hinr v9 Su rfl
          have h47 : rs Sq 47 = r9 := h47.trans hw1.symm
          have hcv : fu (Int32.toNatClampNeg (nI 0)) = Int32.toInt64 bb := hw3.trans hcv
          refine lv_istore (lv' := [(5, .int r9), (0, .ref b), (1, .ref (ad 30)), (2, .ref (bd 0)), (3, .ref o), (4, .int (nI i))]) hx hb dL_law_838 hl (by decide) rfl (fun ls hl => ?_)
          refine lv_aload_n hx hb dL_law_840 rfl (lv_at hl 3 rfl) ?_
          refine lv_aload_n hx hb dL_law_841 rfl (lv_at hl 1 rfl) ?_
          refine lv_iload hx hb dL_law_842 (lv_at hl 5 rfl) ?_
          refine lv_iconst (v := nI 1) hx hb dL_law_844 (by decide) ?_
          refine lv_iadd hx hb dL_law_845 ?_
          refine va_sld hx hb hX hbl hbA hS (by rw [nI_add]; exact vp_in_nI (by omega) (by omega)) dL_law_846 ?_
          refine lv_aload_n hx hb dL_law_847 rfl (lv_at hl 1 rfl) ?_
          refine lv_iload hx hb dL_law_848 (lv_at hl 5 rfl) ?_
          refine lv_iconst (v := nI 2) hx hb dL_law_850 (by decide) ?_
          refine lv_iadd hx hb dL_law_851 ?_
          refine va_sld hx hb hX hbl hbA hS (by rw [nI_add]; exact vp_in_nI (by omega) (by omega)) dL_law_852 ?_
          refine va_calli (rnV (A := MA bd) (As := [.int (xs (Int32.toNatClampNeg ((nI i) + (nI 1)))), .int (xs (Int32.toNatClampNeg ((nI i) + (nI 2))))]) (rest := []) ⟨hx, hb, hml, hown, hts⟩ (c_X7_done hM.1 hq) (cwV 2 hts gL_law_X7_done rfl rfl rfl cdV_X7_done ⟨(Nat.le_of_ble_eq_true rfl), (Nat.le_of_ble_eq_true rfl)⟩) hPm hK hN mw_o rfl rfl hl.1 rfl (Nat.le_of_ble_eq_true rfl) dL_law_853 ⟨by show cN + 2 + 0 ≤ 601024; omega, by show sN + 12 + 0 ≤ 7293034; omega⟩) hS (fun q _ h => hgM q h) (fun q h => hgM q h) (fun r7 _ t H locs ht _ hw7 hB _ hkH hS => ?_)
          have hw7 : r7 = bb := hw7
          subst r7
          replace hPm : va_P D vwCl (mw cyI cyJ cyZ bd Sq) H := by rw [← ht]; exact hB
          replace hP : va_P D vwCl (cw cyI ad Su ++ [oc cyJ o fu]) H := P_kept hP hkH hdC
          refine lv_istore (lv' := [(6, .int bb), (5, .int r9), (0, .ref b), (1, .ref (ad 30)), (2, .ref (bd 0)), (3, .ref o), (4, .int (nI i))]) hx hb dL_law_856 hl (by decide) rfl (fun ls hl => ?_)
          refine lv_aload_n hx hb dL_law_858 rfl (lv_at hl 4 rfl) ?_
          refine va_calli (rnV (A := MA bd) (As := []) (rest := []) ⟨hx, hb, hml, hown, hts⟩ (c_X7_thrown hM.1 (show m_X7_thrown Sq = some (rs Sq 47) from rfl)) (cwV 0 hts gL_law_X7_thrown rfl rfl rfl cdV_X7_thrown ⟨(Nat.le_of_ble_eq_true rfl), (Nat.le_of_ble_eq_true rfl)⟩) hPm hK hN mw_o rfl rfl hl.1 rfl (Nat.le_of_ble_eq_true rfl) dL_law_859 ⟨by show cN + 2 + 0 ≤ 601024; omega, by show sN + 12 + 0 ≤ 7293034; omega⟩) hS (fun q _ h => hgM q h) (fun q h => hgM q h) (fun r7 _ t H locs ht _ hw7 hB _ hkH hS => ?_)
          have hw7 : r7 = (rs Sq 47) := hw7
          subst r7
          replace hPm : va_P D vwCl (mw cyI cyJ cyZ bd Sq) H := by rw [← ht]; exact hB
          replace hP : va_P D vwCl (cw cyI ad Su ++ [oc cyJ o fu]) H := P_kept hP hkH hdC
          refine lv_iload hx hb dL_law_862 (lv_at hl 1 rfl) ?_
          refine lv_icmp_eq (tgt := 869) hx hb dL_law_864 (by decide) (fun _ => ?_) (fun hq => absurd h47 hq)
          refine lv_iload hx hb dL_law_869 (lv_at hl 1 rfl) ?_
          refine lv_if_ne (tgt := 886) hx hb dL_law_871 (by decide) (fun hq => absurd hw1 hq) (fun _ => ?_)
          refine lv_aload_n hx hb dL_law_874 rfl (lv_at hl 5 rfl) ?_
          refine lv_iconst (v := nI 0) hx hb dL_law_875 (by decide) ?_
          refine va_lald hx hb hK (P_right hP) 0 1 (f := fu) rfl rfl (vp_in_nI (by decide) (by decide)) dL_law_876 ?_
          refine lv_iload hx hb dL_law_877 (lv_at hl 0 rfl) ?_
          refine lv_i2l hx hb dL_law_879 rfl ?_
          refine W.lcmp hx hb dL_law_880 ?_
          refine lv_if_eq (tgt := 886) hx hb dL_law_881 (by decide) (fun _ => ?_) (fun hq => absurd (lg_self hcv) hq)
          refine lv_goto (tgt := 1380) hx hb dL_law_886 (by decide) ?_
          refine lv_iinc (v := nI (6 * (k + 1))) (lv' := [(4, .int (nI (6 * (k + 1)))), (6, .int bb), (5, .int r9), (0, .ref b), (1, .ref (ad 30)), (2, .ref (bd 0)), (3, .ref o)]) hx hb dL_law_1380 hl (k := 6) rfl (by rw [hik]; show nI (6 * k) + nI 6 = _; rw [nI_add]; congr 1) (by decide) rfl (fun ls hl => ?_)
          refine lv_goto (tgt := 23) hx hb dL_law_1383 (by decide) ?_
          exact ih (k + 1) Su Sq fu (cN + 2) (sN + 12) (by omega) (by omega) hJ (by omega) (by omega) _ _ _ hP hPm hS (lv_sub hl [3, 4, 5, 6, 0] rfl)
      · refine lv_tableIn (off := 849) (tgt := 889) hx hb dL_law_40 (by decide) (by decide) rfl (by decide) ?_
        refine lv_aload_n hx hb dL_law_889 rfl (lv_at hl 1 rfl) ?_
        refine lv_aload_n hx hb dL_law_890 rfl (lv_at hl 0 rfl) ?_
        refine lv_iload hx hb dL_law_891 (lv_at hl 4 rfl) ?_
        refine lv_iconst (v := nI 1) hx hb dL_law_893 (by decide) ?_
        refine lv_iadd hx hb dL_law_894 ?_
        refine va_sld hx hb hX hbl hbA hS (by rw [nI_add]; exact vp_in_nI (by omega) (by omega)) dL_law_895 ?_
        refine lv_aload_n hx hb dL_law_896 rfl (lv_at hl 0 rfl) ?_
        refine lv_iload hx hb dL_law_897 (lv_at hl 4 rfl) ?_
        refine lv_iconst (v := nI 2) hx hb dL_law_899 (by decide) ?_
        refine lv_iadd hx hb dL_law_900 ?_
        refine va_sld hx hb hX hbl hbA hS (by rw [nI_add]; exact vp_in_nI (by omega) (by omega)) dL_law_901 ?_
        refine lv_aload_n hx hb dL_law_902 rfl (lv_at hl 3 rfl) ?_
        have hok := (hI k Sc Sr hJ hk).2.2.2.2.2.2.2.2.2.1
        obtain ⟨res, bb, Sq, hres, hq, hinl, hinr⟩ := hok (xs (Int32.toNatClampNeg ((nI i) + (nI 1)))) (xs (Int32.toNatClampNeg ((nI i) + (nI 2))))
        refine va_calli (rnW (As := [.ref (ad 30), .int (xs (Int32.toNatClampNeg ((nI i) + (nI 1)))), .int (xs (Int32.toNatClampNeg ((nI i) + (nI 2)))), .ref o]) (rest := []) ⟨hx, hb, hml, hown, hts⟩ (c_L_why hfl hO hres (fun e he => (hinl e he).1)) (vx_cwSW 4 hts gL_law_L_why rfl rfl rfl cdS_L_why ⟨(Nat.le_of_ble_eq_true rfl), (Nat.le_of_ble_eq_true rfl)⟩) hP hK hN hZ hC hgA hS rfl hl.1 rfl (Nat.le_of_ble_eq_true rfl) dL_law_903 ⟨by show cN + 2 ≤ 601024; omega, by show sN + 12 ≤ 7293034; omega⟩) hS (fun q _ h => hgA q h) (fun q h => hgA q h) (fun r9 u9 t H locs ht _ hw hB _ hkH hS => ?_)
        replace hP : va_P D vwCl (cw cyI ad u9.1 ++ [oc cyJ o u9.2]) H := by rw [← ht]; exact hB
        replace hPm : va_P D vwCl (mw cyI cyJ cyZ bd Sr) H := P_kept hPm hkH hdM
        obtain ⟨Su, fu⟩ := u9
        rcases res with e9 | ⟨v9, Sd⟩
        · obtain ⟨hw1, hw2⟩ := hw
          have hw2 : Su = Sc := hw2
          subst hw2
          obtain ⟨hex, h47, hJ⟩ := hinl e9 rfl
          have hr0 : ¬ r9 = 0 := by rw [hw1]; exact tbn_ex1_tb12 hex
          have h47 : rs Sq 47 = r9 := h47.trans hw1.symm
          refine lv_istore (lv' := [(5, .int r9), (0, .ref b), (1, .ref (ad 30)), (2, .ref (bd 0)), (3, .ref o), (4, .int (nI i))]) hx hb dL_law_906 hl (by decide) rfl (fun ls hl => ?_)
          refine lv_aload_n hx hb dL_law_908 rfl (lv_at hl 3 rfl) ?_
          refine lv_aload_n hx hb dL_law_909 rfl (lv_at hl 1 rfl) ?_
          refine lv_iload hx hb dL_law_910 (lv_at hl 5 rfl) ?_
          refine lv_iconst (v := nI 1) hx hb dL_law_912 (by decide) ?_
          refine lv_iadd hx hb dL_law_913 ?_
          refine va_sld hx hb hX hbl hbA hS (by rw [nI_add]; exact vp_in_nI (by omega) (by omega)) dL_law_914 ?_
          refine lv_aload_n hx hb dL_law_915 rfl (lv_at hl 1 rfl) ?_
          refine lv_iload hx hb dL_law_916 (lv_at hl 5 rfl) ?_
          refine lv_iconst (v := nI 2) hx hb dL_law_918 (by decide) ?_
          refine lv_iadd hx hb dL_law_919 ?_
          refine va_sld hx hb hX hbl hbA hS (by rw [nI_add]; exact vp_in_nI (by omega) (by omega)) dL_law_920 ?_
          refine va_calli (rnV (A := MA bd) (As := [.int (xs (Int32.toNatClampNeg ((nI i) + (nI 1)))), .int (xs (Int32.toNatClampNeg ((nI i) + (nI 2))))]) (rest := []) ⟨hx, hb, hml, hown, hts⟩ (c_X7_why hM.1 hq) (cwV 2 hts gL_law_X7_why rfl rfl rfl cdV_X7_why ⟨(Nat.le_of_ble_eq_true rfl), (Nat.le_of_ble_eq_true rfl)⟩) hPm hK hN mw_o rfl rfl hl.1 rfl (Nat.le_of_ble_eq_true rfl) dL_law_921 ⟨by show cN + 2 + 0 ≤ 601024; omega, by show sN + 12 + 0 ≤ 7293034; omega⟩) hS (fun q _ h => hgM q h) (fun q h => hgM q h) (fun r7 _ t H locs ht _ hw7 hB _ hkH hS => ?_)
          have hw7 : r7 = bb := hw7
          subst r7
          replace hPm : va_P D vwCl (mw cyI cyJ cyZ bd Sq) H := by rw [← ht]; exact hB
          replace hP : va_P D vwCl (cw cyI ad Su ++ [oc cyJ o fu]) H := P_kept hP hkH hdC
          refine lv_istore (lv' := [(6, .int bb), (5, .int r9), (0, .ref b), (1, .ref (ad 30)), (2, .ref (bd 0)), (3, .ref o), (4, .int (nI i))]) hx hb dL_law_924 hl (by decide) rfl (fun ls hl => ?_)
          refine lv_aload_n hx hb dL_law_926 rfl (lv_at hl 4 rfl) ?_
          refine va_calli (rnV (A := MA bd) (As := []) (rest := []) ⟨hx, hb, hml, hown, hts⟩ (c_X7_thrown hM.1 (show m_X7_thrown Sq = some (rs Sq 47) from rfl)) (cwV 0 hts gL_law_X7_thrown rfl rfl rfl cdV_X7_thrown ⟨(Nat.le_of_ble_eq_true rfl), (Nat.le_of_ble_eq_true rfl)⟩) hPm hK hN mw_o rfl rfl hl.1 rfl (Nat.le_of_ble_eq_true rfl) dL_law_927 ⟨by show cN + 2 + 0 ≤ 601024; omega, by show sN + 12 + 0 ≤ 7293034; omega⟩) hS (fun q _ h => hgM q h) (fun q h => hgM q h) (fun r7 _ t H locs ht _ hw7 hB _ hkH hS => ?_)
          have hw7 : r7 = (rs Sq 47) := hw7
          subst r7
          replace hPm : va_P D vwCl (mw cyI cyJ cyZ bd Sq) H := by rw [← ht]; exact hB
          replace hP : va_P D vwCl (cw cyI ad Su ++ [oc cyJ o fu]) H := P_kept hP hkH hdC
          refine lv_iload hx hb dL_law_930 (lv_at hl 1 rfl) ?_
          refine lv_icmp_eq (tgt := 937) hx hb dL_law_932 (by decide) (fun _ => ?_) (fun hq => absurd h47 hq)
          refine lv_iload hx hb dL_law_937 (lv_at hl 1 rfl) ?_
          refine lv_if_ne (tgt := 954) hx hb dL_law_939 (by decide) (fun _ => ?_) (fun hq => absurd hq hr0)
          refine lv_goto (tgt := 1380) hx hb dL_law_954 (by decide) ?_
          refine lv_iinc (v := nI (6 * (k + 1))) (lv' := [(4, .int (nI (6 * (k + 1)))), (6, .int bb), (5, .int r9), (0, .ref b), (1, .ref (ad 30)), (2, .ref (bd 0)), (3, .ref o)]) hx hb dL_law_1380 hl (k := 6) rfl (by rw [hik]; show nI (6 * k) + nI 6 = _; rw [nI_add]; congr 1) (by decide) rfl (fun ls hl => ?_)
          refine lv_goto (tgt := 23) hx hb dL_law_1383 (by decide) ?_
          exact ih (k + 1) Su Sq fu (cN + 2) (sN + 12) (by omega) (by omega) hJ (by omega) (by omega) _ _ _ hP hPm hS (lv_sub hl [3, 4, 5, 6, 0] rfl)
        · obtain ⟨hw1, hw2, hw3⟩ := hw
          have hw1 : r9 = 0 := hw1
          have hw2 : Su = Sd := hw2
          subst hw2
          obtain ⟨h47, hcv, hJ⟩ := hinr v9 Su rfl
          have h47 : rs Sq 47 = r9 := h47.trans hw1.symm
          have hcv : fu (Int32.toNatClampNeg (nI 0)) = Int32.toInt64 bb := hw3.trans hcv
          refine lv_istore (lv' := [(5, .int r9), (0, .ref b), (1, .ref (ad 30)), (2, .ref (bd 0)), (3, .ref o), (4, .int (nI i))]) hx hb dL_law_906 hl (by decide) rfl (fun ls hl => ?_)
          refine lv_aload_n hx hb dL_law_908 rfl (lv_at hl 3 rfl) ?_
          refine lv_aload_n hx hb dL_law_909 rfl (lv_at hl 1 rfl) ?_
          refine lv_iload hx hb dL_law_910 (lv_at hl 5 rfl) ?_
          refine lv_iconst (v := nI 1) hx hb dL_law_912 (by decide) ?_
          refine lv_iadd hx hb dL_law_913 ?_
          refine va_sld hx hb hX hbl hbA hS (by rw [nI_add]; exact vp_in_nI (by omega) (by omega)) dL_law_914 ?_
          refine lv_aload_n hx hb dL_law_915 rfl (lv_at hl 1 rfl) ?_
          refine lv_iload hx hb dL_law_916 (lv_at hl 5 rfl) ?_
          refine lv_iconst (v := nI 2) hx hb dL_law_918 (by decide) ?_
          refine lv_iadd hx hb dL_law_919 ?_
          refine va_sld hx hb hX hbl hbA hS (by rw [nI_add]; exact vp_in_nI (by omega) (by omega)) dL_law_920 ?_
          refine va_calli (rnV (A := MA bd) (As := [.int (xs (Int32.toNatClampNeg ((nI i) + (nI 1)))), .int (xs (Int32.toNatClampNeg ((nI i) + (nI 2))))]) (rest := []) ⟨hx, hb, hml, hown, hts⟩ (c_X7_why hM.1 hq) (cwV 2 hts gL_law_X7_why rfl rfl rfl cdV_X7_why ⟨(Nat.le_of_ble_eq_true rfl), (Nat.le_of_ble_eq_true rfl)⟩) hPm hK hN mw_o rfl rfl hl.1 rfl (Nat.le_of_ble_eq_true rfl) dL_law_921 ⟨by show cN + 2 + 0 ≤ 601024; omega, by show sN + 12 + 0 ≤ 7293034; omega⟩) hS (fun q _ h => hgM q h) (fun q h => hgM q h) (fun r7 _ t H locs ht _ hw7 hB _ hkH hS => ?_)
          have hw7 : r7 = bb := hw7
          subst r7
          replace hPm : va_P D vwCl (mw cyI cyJ cyZ bd Sq) H := by rw [← ht]; exact hB
          replace hP : va_P D vwCl (cw cyI ad Su ++ [oc cyJ o fu]) H := P_kept hP hkH hdC
          refine lv_istore (lv' := [(6, .int bb), (5, .int r9), (0, .ref b), (1, .ref (ad 30)), (2, .ref (bd 0)), (3, .ref o), (4, .int (nI i))]) hx hb dL_law_924 hl (by decide) rfl (fun ls hl => ?_)
          refine lv_aload_n hx hb dL_law_926 rfl (lv_at hl 4 rfl) ?_
          refine va_calli (rnV (A := MA bd) (As := []) (rest := []) ⟨hx, hb, hml, hown, hts⟩ (c_X7_thrown hM.1 (show m_X7_thrown Sq = some (rs Sq 47) from rfl)) (cwV 0 hts gL_law_X7_thrown rfl rfl rfl cdV_X7_thrown ⟨(Nat.le_of_ble_eq_true rfl), (Nat.le_of_ble_eq_true rfl)⟩) hPm hK hN mw_o rfl rfl hl.1 rfl (Nat.le_of_ble_eq_true rfl) dL_law_927 ⟨by show cN + 2 + 0 ≤ 601024; omega, by show sN + 12 + 0 ≤ 7293034; omega⟩) hS (fun q _ h => hgM q h) (fun q h => hgM q h) (fun r7 _ t H locs ht _ hw7 hB _ hkH hS => ?_)
          have hw7 : r7 = (rs Sq 47) := hw7
          subst r7
          replace hPm : va_P D vwCl (mw cyI cyJ cyZ bd Sq) H := by rw [← ht]; exact hB
          replace hP : va_P D vwCl (cw cyI ad Su ++ [oc cyJ o fu]) H := P_kept hP hkH hdC
          refine lv_iload hx hb dL_law_930 (lv_at hl 1 rfl) ?_
          refine lv_icmp_eq (tgt := 937) hx hb dL_law_932 (by decide) (fun _ => ?_) (fun hq => absurd h47 hq)
          refine lv_iload hx hb dL_law_937 (lv_at hl 1 rfl) ?_
          refine lv_if_ne (tgt := 954) hx hb dL_law_939 (by decide) (fun hq => absurd hw1 hq) (fun _ => ?_)
          refine lv_aload_n hx hb dL_law_942 rfl (lv_at hl 5 rfl) ?_
          refine lv_iconst (v := nI 0) hx hb dL_law_943 (by decide) ?_
          refine va_lald hx hb hK (P_right hP) 0 1 (f := fu) rfl rfl (vp_in_nI (by decide) (by decide)) dL_law_944 ?_
          refine lv_iload hx hb dL_law_945 (lv_at hl 0 rfl) ?_
          refine lv_i2l hx hb dL_law_947 rfl ?_
          refine W.lcmp hx hb dL_law_948 ?_
          refine lv_if_eq (tgt := 954) hx hb dL_law_949 (by decide) (fun _ => ?_) (fun hq => absurd (lg_self hcv) hq)
          refine lv_goto (tgt := 1380) hx hb dL_law_954 (by decide) ?_
          refine lv_iinc (v := nI (6 * (k + 1))) (lv' := [(4, .int (nI (6 * (k + 1)))), (6, .int bb), (5, .int r9), (0, .ref b), (1, .ref (ad 30)), (2, .ref (bd 0)), (3, .ref o)]) hx hb dL_law_1380 hl (k := 6) rfl (by rw [hik]; show nI (6 * k) + nI 6 = _; rw [nI_add]; congr 1) (by decide) rfl (fun ls hl => ?_)
          refine lv_goto (tgt := 23) hx hb dL_law_1383 (by decide) ?_
          exact ih (k + 1) Su Sq fu (cN + 2) (sN + 12) (by omega) (by omega) hJ (by omega) (by omega) _ _ _ hP hPm hS (lv_sub hl [3, 4, 5, 6, 0] rfl)
      · refine lv_tableIn (off := 917) (tgt := 957) hx hb dL_law_40 (by decide) (by decide) rfl (by decide) ?_
        refine lv_aload_n hx hb dL_law_957 rfl (lv_at hl 1 rfl) ?_
        refine lv_aload_n hx hb dL_law_958 rfl (lv_at hl 0 rfl) ?_
        refine lv_iload hx hb dL_law_959 (lv_at hl 4 rfl) ?_
        refine lv_iconst (v := nI 1) hx hb dL_law_961 (by decide) ?_
        refine lv_iadd hx hb dL_law_962 ?_
        refine va_sld hx hb hX hbl hbA hS (by rw [nI_add]; exact vp_in_nI (by omega) (by omega)) dL_law_963 ?_
        refine lv_aload_n hx hb dL_law_964 rfl (lv_at hl 3 rfl) ?_
        have hok := (hI k Sc Sr hJ hk).2.2.2.2.2.2.2.2.2.2.1
        obtain ⟨res, bb, Sq, hres, hq, hinl, hinr⟩ := hok (xs (Int32.toNatClampNeg ((nI i) + (nI 1))))
        refine va_calli (rnW (As := [.ref (ad 30), .int (xs (Int32.toNatClampNeg ((nI i) + (nI 1)))), .ref o]) (rest := []) ⟨hx, hb, hml, hown, hts⟩ (c_L_counts hfl hO hres (fun e he => (hinl e he).1)) (vx_cwSW 3 hts gL_law_L_counts rfl rfl rfl cdS_L_counts ⟨(Nat.le_of_ble_eq_true rfl), (Nat.le_of_ble_eq_true rfl)⟩) hP hK hN hZ hC hgA hS rfl hl.1 rfl (Nat.le_of_ble_eq_true rfl) dL_law_965 ⟨by show cN + 1 ≤ 601024; omega, by show sN + 6 ≤ 7293034; omega⟩) hS (fun q _ h => hgA q h) (fun q h => hgA q h) (fun r9 u9 t H locs ht _ hw hB _ hkH hS => ?_)
        replace hP : va_P D vwCl (cw cyI ad u9.1 ++ [oc cyJ o u9.2]) H := by rw [← ht]; exact hB
        replace hPm : va_P D vwCl (mw cyI cyJ cyZ bd Sr) H := P_kept hPm hkH hdM
        obtain ⟨Su, fu⟩ := u9
        rcases res with e9 | ⟨v9, Sd⟩
        · obtain ⟨hw1, hw2⟩ := hw
          have hw2 : Su = Sc := hw2
          subst hw2
          obtain ⟨hex, h47, hJ⟩ := hinl e9 rfl
          have hr0 : ¬ r9 = 0 := by rw [hw1]; exact tbn_ex2_tb2 hex
          have h47 : rs Sq 47 = r9 := h47.trans hw1.symm
          refine lv_istore (lv' := [(5, .int r9), (0, .ref b), (1, .ref (ad 30)), (2, .ref (bd 0)), (3, .ref o), (4, .int (nI i))]) hx hb dL_law_968 hl (by decide) rfl (fun ls hl => ?_)
          refine lv_aload_n hx hb dL_law_970 rfl (lv_at hl 3 rfl) ?_
          refine lv_aload_n hx hb dL_law_971 rfl (lv_at hl 1 rfl) ?_
          refine lv_iload hx hb dL_law_972 (lv_at hl 5 rfl) ?_
          refine lv_iconst (v := nI 1) hx hb dL_law_974 (by decide) ?_
          refine lv_iadd hx hb dL_law_975 ?_
          refine va_sld hx hb hX hbl hbA hS (by rw [nI_add]; exact vp_in_nI (by omega) (by omega)) dL_law_976 ?_
          refine va_calli (rnV (A := MA bd) (As := [.int (xs (Int32.toNatClampNeg ((nI i) + (nI 1))))]) (rest := []) ⟨hx, hb, hml, hown, hts⟩ (c_X7_counts hM.1 hq) (cwV 1 hts gL_law_X7_counts rfl rfl rfl cdV_X7_counts ⟨(Nat.le_of_ble_eq_true rfl), (Nat.le_of_ble_eq_true rfl)⟩) hPm hK hN mw_o rfl rfl hl.1 rfl (Nat.le_of_ble_eq_true rfl) dL_law_977 ⟨by show cN + 1 + 0 ≤ 601024; omega, by show sN + 6 + 0 ≤ 7293034; omega⟩) hS (fun q _ h => hgM q h) (fun q h => hgM q h) (fun r7 _ t H locs ht _ hw7 hB _ hkH hS => ?_)
          have hw7 : r7 = bb := hw7
          subst r7
          replace hPm : va_P D vwCl (mw cyI cyJ cyZ bd Sq) H := by rw [← ht]; exact hB
          replace hP : va_P D vwCl (cw cyI ad Su ++ [oc cyJ o fu]) H := P_kept hP hkH hdC
          refine lv_istore (lv' := [(6, .int bb), (5, .int r9), (0, .ref b), (1, .ref (ad 30)), (2, .ref (bd 0)), (3, .ref o), (4, .int (nI i))]) hx hb dL_law_980 hl (by decide) rfl (fun ls hl => ?_)
          refine lv_aload_n hx hb dL_law_982 rfl (lv_at hl 4 rfl) ?_
          refine va_calli (rnV (A := MA bd) (As := []) (rest := []) ⟨hx, hb, hml, hown, hts⟩ (c_X7_thrown hM.1 (show m_X7_thrown Sq = some (rs Sq 47) from rfl)) (cwV 0 hts gL_law_X7_thrown rfl rfl rfl cdV_X7_thrown ⟨(Nat.le_of_ble_eq_true rfl), (Nat.le_of_ble_eq_true rfl)⟩) hPm hK hN mw_o rfl rfl hl.1 rfl (Nat.le_of_ble_eq_true rfl) dL_law_983 ⟨by show cN + 1 + 0 ≤ 601024; omega, by show sN + 6 + 0 ≤ 7293034; omega⟩) hS (fun q _ h => hgM q h) (fun q h => hgM q h) (fun r7 _ t H locs ht _ hw7 hB _ hkH hS => ?_)
          have hw7 : r7 = (rs Sq 47) := hw7
          subst r7
          replace hPm : va_P D vwCl (mw cyI cyJ cyZ bd Sq) H := by rw [← ht]; exact hB
          replace hP : va_P D vwCl (cw cyI ad Su ++ [oc cyJ o fu]) H := P_kept hP hkH hdC
          refine lv_iload hx hb dL_law_986 (lv_at hl 1 rfl) ?_
          refine lv_icmp_eq (tgt := 993) hx hb dL_law_988 (by decide) (fun _ => ?_) (fun hq => absurd h47 hq)
          refine lv_iload hx hb dL_law_993 (lv_at hl 1 rfl) ?_
          refine lv_if_ne (tgt := 1010) hx hb dL_law_995 (by decide) (fun _ => ?_) (fun hq => absurd hq hr0)
          refine lv_goto (tgt := 1380) hx hb dL_law_1010 (by decide) ?_
          refine lv_iinc (v := nI (6 * (k + 1))) (lv' := [(4, .int (nI (6 * (k + 1)))), (6, .int bb), (5, .int r9), (0, .ref b), (1, .ref (ad 30)), (2, .ref (bd 0)), (3, .ref o)]) hx hb dL_law_1380 hl (k := 6) rfl (by rw [hik]; show nI (6 * k) + nI 6 = _; rw [nI_add]; congr 1) (by decide) rfl (fun ls hl => ?_)
          refine lv_goto (tgt := 23) hx hb dL_law_1383 (by decide) ?_
          exact ih (k + 1) Su Sq fu (cN + 1) (sN + 6) (by omega) (by omega) hJ (by omega) (by omega) _ _ _ hP hPm hS (lv_sub hl [3, 4, 5, 6, 0] rfl)
        · obtain ⟨hw1, hw2, hw3⟩ := hw
          have hw1 : r9 = 0 := hw1
          have hw2 : Su = Sd := hw2
          subst hw2
          obtain ⟨h47, hcv, hJ⟩ := hinr v9 Su rfl
          have h47 : rs Sq 47 = r9 := h47.trans hw1.symm
          have hcv : fu (Int32.toNatClampNeg (nI 0)) = Int32.toInt64 bb := hw3.trans hcv
          refine lv_istore (lv' := [(5, .int r9), (0, .ref b), (1, .ref (ad 30)), (2, .ref (bd 0)), (3, .ref o), (4, .int (nI i))]) hx hb dL_law_968 hl (by decide) rfl (fun ls hl => ?_)
          refine lv_aload_n hx hb dL_law_970 rfl (lv_at hl 3 rfl) ?_
          refine lv_aload_n hx hb dL_law_971 rfl (lv_at hl 1 rfl) ?_
          refine lv_iload hx hb dL_law_972 (lv_at hl 5 rfl) ?_
          refine lv_iconst (v := nI 1) hx hb dL_law_974 (by decide) ?_
          refine lv_iadd hx hb dL_law_975 ?_
          refine va_sld hx hb hX hbl hbA hS (by rw [nI_add]; exact vp_in_nI (by omega) (by omega)) dL_law_976 ?_
          refine va_calli (rnV (A := MA bd) (As := [.int (xs (Int32.toNatClampNeg ((nI i) + (nI 1))))]) (rest := []) ⟨hx, hb, hml, hown, hts⟩ (c_X7_counts hM.1 hq) (cwV 1 hts gL_law_X7_counts rfl rfl rfl cdV_X7_counts ⟨(Nat.le_of_ble_eq_true rfl), (Nat.le_of_ble_eq_true rfl)⟩) hPm hK hN mw_o rfl rfl hl.1 rfl (Nat.le_of_ble_eq_true rfl) dL_law_977 ⟨by show cN + 1 + 0 ≤ 601024; omega, by show sN + 6 + 0 ≤ 7293034; omega⟩) hS (fun q _ h => hgM q h) (fun q h => hgM q h) (fun r7 _ t H locs ht _ hw7 hB _ hkH hS => ?_)
          have hw7 : r7 = bb := hw7
          subst r7
          replace hPm : va_P D vwCl (mw cyI cyJ cyZ bd Sq) H := by rw [← ht]; exact hB
          replace hP : va_P D vwCl (cw cyI ad Su ++ [oc cyJ o fu]) H := P_kept hP hkH hdC
          refine lv_istore (lv' := [(6, .int bb), (5, .int r9), (0, .ref b), (1, .ref (ad 30)), (2, .ref (bd 0)), (3, .ref o), (4, .int (nI i))]) hx hb dL_law_980 hl (by decide) rfl (fun ls hl => ?_)
          refine lv_aload_n hx hb dL_law_982 rfl (lv_at hl 4 rfl) ?_
          refine va_calli (rnV (A := MA bd) (As := []) (rest := []) ⟨hx, hb, hml, hown, hts⟩ (c_X7_thrown hM.1 (show m_X7_thrown Sq = some (rs Sq 47) from rfl)) (cwV 0 hts gL_law_X7_thrown rfl rfl rfl cdV_X7_thrown ⟨(Nat.le_of_ble_eq_true rfl), (Nat.le_of_ble_eq_true rfl)⟩) hPm hK hN mw_o rfl rfl hl.1 rfl (Nat.le_of_ble_eq_true rfl) dL_law_983 ⟨by show cN + 1 + 0 ≤ 601024; omega, by show sN + 6 + 0 ≤ 7293034; omega⟩) hS (fun q _ h => hgM q h) (fun q h => hgM q h) (fun r7 _ t H locs ht _ hw7 hB _ hkH hS => ?_)
          have hw7 : r7 = (rs Sq 47) := hw7
          subst r7
          replace hPm : va_P D vwCl (mw cyI cyJ cyZ bd Sq) H := by rw [← ht]; exact hB
          replace hP : va_P D vwCl (cw cyI ad Su ++ [oc cyJ o fu]) H := P_kept hP hkH hdC
          refine lv_iload hx hb dL_law_986 (lv_at hl 1 rfl) ?_
          refine lv_icmp_eq (tgt := 993) hx hb dL_law_988 (by decide) (fun _ => ?_) (fun hq => absurd h47 hq)
          refine lv_iload hx hb dL_law_993 (lv_at hl 1 rfl) ?_
          refine lv_if_ne (tgt := 1010) hx hb dL_law_995 (by decide) (fun hq => absurd hw1 hq) (fun _ => ?_)
          refine lv_aload_n hx hb dL_law_998 rfl (lv_at hl 5 rfl) ?_
          refine lv_iconst (v := nI 0) hx hb dL_law_999 (by decide) ?_
          refine va_lald hx hb hK (P_right hP) 0 1 (f := fu) rfl rfl (vp_in_nI (by decide) (by decide)) dL_law_1000 ?_
          refine lv_iload hx hb dL_law_1001 (lv_at hl 0 rfl) ?_
          refine lv_i2l hx hb dL_law_1003 rfl ?_
          refine W.lcmp hx hb dL_law_1004 ?_
          refine lv_if_eq (tgt := 1010) hx hb dL_law_1005 (by decide) (fun _ => ?_) (fun hq => absurd (lg_self hcv) hq)
          refine lv_goto (tgt := 1380) hx hb dL_law_1010 (by decide) ?_
          refine lv_iinc (v := nI (6 * (k + 1))) (lv' := [(4, .int (nI (6 * (k + 1)))), (6, .int bb), (5, .int r9), (0, .ref b), (1, .ref (ad 30)), (2, .ref (bd 0)), (3, .ref o)]) hx hb dL_law_1380 hl (k := 6) rfl (by rw [hik]; show nI (6 * k) + nI 6 = _; rw [nI_add]; congr 1) (by decide) rfl (fun ls hl => ?_)
          refine lv_goto (tgt := 23) hx hb dL_law_1383 (by decide) ?_
          exact ih (k + 1) Su Sq fu (cN + 1) (sN + 6) (by omega) (by omega) hJ (by omega) (by omega) _ _ _ hP hPm hS (lv_sub hl [3, 4, 5, 6, 0] rfl)
      · refine lv_tableIn (off := 973) (tgt := 1013) hx hb dL_law_40 (by decide) (by decide) rfl (by decide) ?_
        refine lv_aload_n hx hb dL_law_1013 rfl (lv_at hl 1 rfl) ?_
        have hok := (hI k Sc Sr hJ hk).2.2.2.2.2.2.2.2.2.2.2.2.2.2.2.2.2.2.2.1
        obtain ⟨bb, Sq, hres, hq, hJ⟩ := hok
        have hPo := P_right hP
        refine va_calli (rnV (A := CA ad) (As := []) (rest := []) ⟨hx, hb, hml, hown, hts⟩ (c_X6_entries hO.1 hres) (cwV 0 hts gL_law_X6_entries rfl rfl rfl cdV_X6_entries ⟨(Nat.le_of_ble_eq_true rfl), (Nat.le_of_ble_eq_true rfl)⟩) (P_left hP) hK hN (cw_o30 (S := Sc)) rfl rfl hl.1 rfl (Nat.le_of_ble_eq_true rfl) dL_law_1014 ⟨by show cN + 0 ≤ 601024; omega, by show sN + 0 ≤ 7293034; omega⟩) hS (fun q _ h => hgA q (Or.inl h)) (fun q h => hgA q (Or.inl h)) (fun r7 _ t H locs ht _ hw7 hB _ hkH hS => ?_)
        have hw7 : r7 = bb := hw7
        subst r7
        have hP1 : va_P D vwCl (cw cyI ad Sc) H := by rw [← ht]; exact hB
        replace hP : va_P D vwCl (cw cyI ad Sc ++ [oc cyJ o f]) H := va_P.app hP1 (P_kept hPo hkH hdO)
        replace hPm : va_P D vwCl (mw cyI cyJ cyZ bd Sr) H := P_kept hPm hkH (fun k q h h2 => hdM k q h (Or.inl h2))
        refine lv_aload_n hx hb dL_law_1017 rfl (lv_at hl 2 rfl) ?_
        refine va_calli (rnV (A := MA bd) (As := []) (rest := [.int bb]) ⟨hx, hb, hml, hown, hts⟩ (c_X7_entries hM.1 hq) (cwV 0 hts gL_law_X7_entries rfl rfl rfl cdV_X7_entries ⟨(Nat.le_of_ble_eq_true rfl), (Nat.le_of_ble_eq_true rfl)⟩) hPm hK hN mw_o rfl rfl hl.1 rfl (Nat.le_of_ble_eq_true rfl) dL_law_1018 ⟨by show cN + 0 ≤ 601024; omega, by show sN + 0 ≤ 7293034; omega⟩) hS (fun q _ h => hgM q h) (fun q h => hgM q h) (fun r7 _ t H locs ht _ hw7 hB _ hkH hS => ?_)
        have hw7 : r7 = bb := hw7
        subst r7
        replace hPm : va_P D vwCl (mw cyI cyJ cyZ bd Sq) H := by rw [← ht]; exact hB
        replace hP : va_P D vwCl (cw cyI ad Sc ++ [oc cyJ o f]) H := P_kept hP hkH hdC
        refine lv_icmp_eq (tgt := 1380) hx hb dL_law_1021 (by decide) (fun _ => ?_) (fun hq => absurd rfl hq)
        refine lv_iinc (v := nI (6 * (k + 1))) (lv' := [(4, .int (nI (6 * (k + 1)))), (0, .ref b), (1, .ref (ad 30)), (2, .ref (bd 0)), (3, .ref o)]) hx hb dL_law_1380 hl (k := 4) rfl (by rw [hik]; show nI (6 * k) + nI 6 = _; rw [nI_add]; congr 1) (by decide) rfl (fun ls hl => ?_)
        refine lv_goto (tgt := 23) hx hb dL_law_1383 (by decide) ?_
        exact ih (k + 1) Sc Sq f (cN + 0) (sN + 0) (by omega) (by omega) hJ (by omega) (by omega) _ _ _ hP hPm hS (lv_sub hl [1, 2, 3, 4, 0] rfl)
      · refine lv_tableIn (off := 986) (tgt := 1026) hx hb dL_law_40 (by decide) (by decide) rfl (by decide) ?_
        refine lv_aload_n hx hb dL_law_1026 rfl (lv_at hl 1 rfl) ?_
        have hok := (hI k Sc Sr hJ hk).2.2.2.2.2.2.2.2.2.2.2.2.2.2.2.2.2.2.2.2.1
        obtain ⟨bb, Sq, hres, hq, hJ⟩ := hok
        have hPo := P_right hP
        refine va_calli (rnV (A := CA ad) (As := []) (rest := []) ⟨hx, hb, hml, hown, hts⟩ (c_X6_away hO.1 hres) (cwV 0 hts gL_law_X6_away rfl rfl rfl cdV_X6_away ⟨(Nat.le_of_ble_eq_true rfl), (Nat.le_of_ble_eq_true rfl)⟩) (P_left hP) hK hN (cw_o30 (S := Sc)) rfl rfl hl.1 rfl (Nat.le_of_ble_eq_true rfl) dL_law_1027 ⟨by show cN + 0 ≤ 601024; omega, by show sN + 0 ≤ 7293034; omega⟩) hS (fun q _ h => hgA q (Or.inl h)) (fun q h => hgA q (Or.inl h)) (fun r7 _ t H locs ht _ hw7 hB _ hkH hS => ?_)
        have hw7 : r7 = bb := hw7
        subst r7
        have hP1 : va_P D vwCl (cw cyI ad Sc) H := by rw [← ht]; exact hB
        replace hP : va_P D vwCl (cw cyI ad Sc ++ [oc cyJ o f]) H := va_P.app hP1 (P_kept hPo hkH hdO)
        replace hPm : va_P D vwCl (mw cyI cyJ cyZ bd Sr) H := P_kept hPm hkH (fun k q h h2 => hdM k q h (Or.inl h2))
        refine lv_aload_n hx hb dL_law_1030 rfl (lv_at hl 2 rfl) ?_
        refine va_calli (rnV (A := MA bd) (As := []) (rest := [.int bb]) ⟨hx, hb, hml, hown, hts⟩ (c_X7_away hM.1 hq) (cwV 0 hts gL_law_X7_away rfl rfl rfl cdV_X7_away ⟨(Nat.le_of_ble_eq_true rfl), (Nat.le_of_ble_eq_true rfl)⟩) hPm hK hN mw_o rfl rfl hl.1 rfl (Nat.le_of_ble_eq_true rfl) dL_law_1031 ⟨by show cN + 0 ≤ 601024; omega, by show sN + 0 ≤ 7293034; omega⟩) hS (fun q _ h => hgM q h) (fun q h => hgM q h) (fun r7 _ t H locs ht _ hw7 hB _ hkH hS => ?_)
        have hw7 : r7 = bb := hw7
        subst r7
        replace hPm : va_P D vwCl (mw cyI cyJ cyZ bd Sq) H := by rw [← ht]; exact hB
        replace hP : va_P D vwCl (cw cyI ad Sc ++ [oc cyJ o f]) H := P_kept hP hkH hdC
        refine lv_icmp_eq (tgt := 1380) hx hb dL_law_1034 (by decide) (fun _ => ?_) (fun hq => absurd rfl hq)
        refine lv_iinc (v := nI (6 * (k + 1))) (lv' := [(4, .int (nI (6 * (k + 1)))), (0, .ref b), (1, .ref (ad 30)), (2, .ref (bd 0)), (3, .ref o)]) hx hb dL_law_1380 hl (k := 4) rfl (by rw [hik]; show nI (6 * k) + nI 6 = _; rw [nI_add]; congr 1) (by decide) rfl (fun ls hl => ?_)
        refine lv_goto (tgt := 23) hx hb dL_law_1383 (by decide) ?_
        exact ih (k + 1) Sc Sq f (cN + 0) (sN + 0) (by omega) (by omega) hJ (by omega) (by omega) _ _ _ hP hPm hS (lv_sub hl [1, 2, 3, 4, 0] rfl)
      · refine lv_tableIn (off := 999) (tgt := 1039) hx hb dL_law_40 (by decide) (by decide) rfl (by decide) ?_
        refine lv_aload_n hx hb dL_law_1039 rfl (lv_at hl 1 rfl) ?_
        have hok := (hI k Sc Sr hJ hk).2.2.2.2.2.2.2.2.2.2.2.2.2.2.2.2.2.2.2.2.2
        obtain ⟨bb, Sq, hres, hq, hJ⟩ := hok
        have hPo := P_right hP
        refine va_calli (rnV (A := CA ad) (As := []) (rest := []) ⟨hx, hb, hml, hown, hts⟩ (c_X6_leaks hO.1 hres) (cwV 0 hts gL_law_X6_leaks rfl rfl rfl cdV_X6_leaks ⟨(Nat.le_of_ble_eq_true rfl), (Nat.le_of_ble_eq_true rfl)⟩) (P_left hP) hK hN (cw_o30 (S := Sc)) rfl rfl hl.1 rfl (Nat.le_of_ble_eq_true rfl) dL_law_1040 ⟨by show cN + 0 ≤ 601024; omega, by show sN + 0 ≤ 7293034; omega⟩) hS (fun q _ h => hgA q (Or.inl h)) (fun q h => hgA q (Or.inl h)) (fun r7 _ t H locs ht _ hw7 hB _ hkH hS => ?_)
        have hw7 : r7 = bb := hw7
        subst r7
        have hP1 : va_P D vwCl (cw cyI ad Sc) H := by rw [← ht]; exact hB
        replace hP : va_P D vwCl (cw cyI ad Sc ++ [oc cyJ o f]) H := va_P.app hP1 (P_kept hPo hkH hdO)
        replace hPm : va_P D vwCl (mw cyI cyJ cyZ bd Sr) H := P_kept hPm hkH (fun k q h h2 => hdM k q h (Or.inl h2))
        refine lv_aload_n hx hb dL_law_1043 rfl (lv_at hl 2 rfl) ?_
        refine va_calli (rnV (A := MA bd) (As := []) (rest := [.int bb]) ⟨hx, hb, hml, hown, hts⟩ (c_X7_leaks hM.1 hq) (cwV 0 hts gL_law_X7_leaks rfl rfl rfl cdV_X7_leaks ⟨(Nat.le_of_ble_eq_true rfl), (Nat.le_of_ble_eq_true rfl)⟩) hPm hK hN mw_o rfl rfl hl.1 rfl (Nat.le_of_ble_eq_true rfl) dL_law_1044 ⟨by show cN + 0 ≤ 601024; omega, by show sN + 0 ≤ 7293034; omega⟩) hS (fun q _ h => hgM q h) (fun q h => hgM q h) (fun r7 _ t H locs ht _ hw7 hB _ hkH hS => ?_)
        have hw7 : r7 = bb := hw7
        subst r7
        replace hPm : va_P D vwCl (mw cyI cyJ cyZ bd Sq) H := by rw [← ht]; exact hB
        replace hP : va_P D vwCl (cw cyI ad Sc ++ [oc cyJ o f]) H := P_kept hP hkH hdC
        refine lv_icmp_eq (tgt := 1380) hx hb dL_law_1047 (by decide) (fun _ => ?_) (fun hq => absurd rfl hq)
        refine lv_iinc (v := nI (6 * (k + 1))) (lv' := [(4, .int (nI (6 * (k + 1)))), (0, .ref b), (1, .ref (ad 30)), (2, .ref (bd 0)), (3, .ref o)]) hx hb dL_law_1380 hl (k := 4) rfl (by rw [hik]; show nI (6 * k) + nI 6 = _; rw [nI_add]; congr 1) (by decide) rfl (fun ls hl => ?_)
        refine lv_goto (tgt := 23) hx hb dL_law_1383 (by decide) ?_
        exact ih (k + 1) Sc Sq f (cN + 0) (sN + 0) (by omega) (by omega) hJ (by omega) (by omega) _ _ _ hP hPm hS (lv_sub hl [1, 2, 3, 4, 0] rfl)
      · refine lv_tableIn (off := 1012) (tgt := 1052) hx hb dL_law_40 (by decide) (by decide) rfl (by decide) ?_
        refine lv_aload_n hx hb dL_law_1052 rfl (lv_at hl 1 rfl) ?_
        refine lv_aload_n hx hb dL_law_1053 rfl (lv_at hl 0 rfl) ?_
        refine lv_iload hx hb dL_law_1054 (lv_at hl 4 rfl) ?_
        refine lv_iconst (v := nI 1) hx hb dL_law_1056 (by decide) ?_
        refine lv_iadd hx hb dL_law_1057 ?_
        refine va_sld hx hb hX hbl hbA hS (by rw [nI_add]; exact vp_in_nI (by omega) (by omega)) dL_law_1058 ?_
        refine lv_aload_n hx hb dL_law_1059 rfl (lv_at hl 3 rfl) ?_
        have hok := (hI k Sc Sr hJ hk).2.2.2.2.2.2.2.2.2.2.2.1
        obtain ⟨res, bb, Sq, hres, hq, hinl, hinr⟩ := hok (xs (Int32.toNatClampNeg ((nI i) + (nI 1))))
        refine va_calli (rnW (As := [.ref (ad 30), .int (xs (Int32.toNatClampNeg ((nI i) + (nI 1)))), .ref o]) (rest := []) ⟨hx, hb, hml, hown, hts⟩ (c_L_needs hfl hO hres (fun e he => (hinl e he).1)) (vx_cwSW 3 hts gL_law_L_needs rfl rfl rfl cdS_L_needs ⟨(Nat.le_of_ble_eq_true rfl), (Nat.le_of_ble_eq_true rfl)⟩) hP hK hN hZ hC hgA hS rfl hl.1 rfl (Nat.le_of_ble_eq_true rfl) dL_law_1060 ⟨by show cN + 1 ≤ 601024; omega, by show sN + 6 ≤ 7293034; omega⟩) hS (fun q _ h => hgA q h) (fun q h => hgA q h) (fun r9 u9 t H locs ht _ hw hB _ hkH hS => ?_)
        replace hP : va_P D vwCl (cw cyI ad u9.1 ++ [oc cyJ o u9.2]) H := by rw [← ht]; exact hB
        replace hPm : va_P D vwCl (mw cyI cyJ cyZ bd Sr) H := P_kept hPm hkH hdM
        obtain ⟨Su, fu⟩ := u9
        rcases res with e9 | ⟨v9, Sd⟩
        · obtain ⟨hw1, hw2⟩ := hw
          have hw2 : Su = Sc := hw2
          subst hw2
          obtain ⟨hex, h47, hJ⟩ := hinl e9 rfl
          have hr0 : ¬ r9 = 0 := by rw [hw1]; exact tbn_ex1_tb12 hex
          have h47 : rs Sq 47 = r9 := h47.trans hw1.symm
          refine lv_istore (lv' := [(5, .int r9), (0, .ref b), (1, .ref (ad 30)), (2, .ref (bd 0)), (3, .ref o), (4, .int (nI i))]) hx hb dL_law_1063 hl (by decide) rfl (fun ls hl => ?_)
          refine lv_aload_n hx hb dL_law_1065 rfl (lv_at hl 3 rfl) ?_
          refine lv_aload_n hx hb dL_law_1066 rfl (lv_at hl 1 rfl) ?_
          refine lv_iload hx hb dL_law_1067 (lv_at hl 5 rfl) ?_
          refine lv_iconst (v := nI 1) hx hb dL_law_1069 (by decide) ?_
          refine lv_iadd hx hb dL_law_1070 ?_
          refine va_sld hx hb hX hbl hbA hS (by rw [nI_add]; exact vp_in_nI (by omega) (by omega)) dL_law_1071 ?_
          refine va_calli (rnV (A := MA bd) (As := [.int (xs (Int32.toNatClampNeg ((nI i) + (nI 1))))]) (rest := []) ⟨hx, hb, hml, hown, hts⟩ (c_X7_needs hM.1 hq) (cwV 1 hts gL_law_X7_needs rfl rfl rfl cdV_X7_needs ⟨(Nat.le_of_ble_eq_true rfl), (Nat.le_of_ble_eq_true rfl)⟩) hPm hK hN mw_o rfl rfl hl.1 rfl (Nat.le_of_ble_eq_true rfl) dL_law_1072 ⟨by show cN + 1 + 0 ≤ 601024; omega, by show sN + 6 + 0 ≤ 7293034; omega⟩) hS (fun q _ h => hgM q h) (fun q h => hgM q h) (fun r7 _ t H locs ht _ hw7 hB _ hkH hS => ?_)
          have hw7 : r7 = bb := hw7
          subst r7
          replace hPm : va_P D vwCl (mw cyI cyJ cyZ bd Sq) H := by rw [← ht]; exact hB
          replace hP : va_P D vwCl (cw cyI ad Su ++ [oc cyJ o fu]) H := P_kept hP hkH hdC
          refine lv_istore (lv' := [(6, .int bb), (5, .int r9), (0, .ref b), (1, .ref (ad 30)), (2, .ref (bd 0)), (3, .ref o), (4, .int (nI i))]) hx hb dL_law_1075 hl (by decide) rfl (fun ls hl => ?_)
          refine lv_aload_n hx hb dL_law_1077 rfl (lv_at hl 4 rfl) ?_
          refine va_calli (rnV (A := MA bd) (As := []) (rest := []) ⟨hx, hb, hml, hown, hts⟩ (c_X7_thrown hM.1 (show m_X7_thrown Sq = some (rs Sq 47) from rfl)) (cwV 0 hts gL_law_X7_thrown rfl rfl rfl cdV_X7_thrown ⟨(Nat.le_of_ble_eq_true rfl), (Nat.le_of_ble_eq_true rfl)⟩) hPm hK hN mw_o rfl rfl hl.1 rfl (Nat.le_of_ble_eq_true rfl) dL_law_1078 ⟨by show cN + 1 + 0 ≤ 601024; omega, by show sN + 6 + 0 ≤ 7293034; omega⟩) hS (fun q _ h => hgM q h) (fun q h => hgM q h) (fun r7 _ t H locs ht _ hw7 hB _ hkH hS => ?_)
          have hw7 : r7 = (rs Sq 47) := hw7
          subst r7
          replace hPm : va_P D vwCl (mw cyI cyJ cyZ bd Sq) H := by rw [← ht]; exact hB
          replace hP : va_P D vwCl (cw cyI ad Su ++ [oc cyJ o fu]) H := P_kept hP hkH hdC
          refine lv_iload hx hb dL_law_1081 (lv_at hl 1 rfl) ?_
          refine lv_icmp_eq (tgt := 1088) hx hb dL_law_1083 (by decide) (fun _ => ?_) (fun hq => absurd h47 hq)
          refine lv_iload hx hb dL_law_1088 (lv_at hl 1 rfl) ?_
          refine lv_if_ne (tgt := 1105) hx hb dL_law_1090 (by decide) (fun _ => ?_) (fun hq => absurd hq hr0)
          refine lv_goto (tgt := 1380) hx hb dL_law_1105 (by decide) ?_
          refine lv_iinc (v := nI (6 * (k + 1))) (lv' := [(4, .int (nI (6 * (k + 1)))), (6, .int bb), (5, .int r9), (0, .ref b), (1, .ref (ad 30)), (2, .ref (bd 0)), (3, .ref o)]) hx hb dL_law_1380 hl (k := 6) rfl (by rw [hik]; show nI (6 * k) + nI 6 = _; rw [nI_add]; congr 1) (by decide) rfl (fun ls hl => ?_)
          refine lv_goto (tgt := 23) hx hb dL_law_1383 (by decide) ?_
          exact ih (k + 1) Su Sq fu (cN + 1) (sN + 6) (by omega) (by omega) hJ (by omega) (by omega) _ _ _ hP hPm hS (lv_sub hl [3, 4, 5, 6, 0] rfl)
        · obtain ⟨hw1, hw2, hw3⟩ := hw
          have hw1 : r9 = 0 := hw1
          have hw2 : Su = Sd := hw2
          subst hw2
          obtain ⟨h47, hcv, hJ⟩ := hinr v9 Su rfl
          have h47 : rs Sq 47 = r9 := h47.trans hw1.symm
          have hcv : fu (Int32.toNatClampNeg (nI 0)) = Int32.toInt64 bb := hw3.trans hcv
          refine lv_istore (lv' := [(5, .int r9), (0, .ref b), (1, .ref (ad 30)), (2, .ref (bd 0)), (3, .ref o), (4, .int (nI i))]) hx hb dL_law_1063 hl (by decide) rfl (fun ls hl => ?_)
          refine lv_aload_n hx hb dL_law_1065 rfl (lv_at hl 3 rfl) ?_
          refine lv_aload_n hx hb dL_law_1066 rfl (lv_at hl 1 rfl) ?_
          refine lv_iload hx hb dL_law_1067 (lv_at hl 5 rfl) ?_
          refine lv_iconst (v := nI 1) hx hb dL_law_1069 (by decide) ?_
          refine lv_iadd hx hb dL_law_1070 ?_
          refine va_sld hx hb hX hbl hbA hS (by rw [nI_add]; exact vp_in_nI (by omega) (by omega)) dL_law_1071 ?_
          refine va_calli (rnV (A := MA bd) (As := [.int (xs (Int32.toNatClampNeg ((nI i) + (nI 1))))]) (rest := []) ⟨hx, hb, hml, hown, hts⟩ (c_X7_needs hM.1 hq) (cwV 1 hts gL_law_X7_needs rfl rfl rfl cdV_X7_needs ⟨(Nat.le_of_ble_eq_true rfl), (Nat.le_of_ble_eq_true rfl)⟩) hPm hK hN mw_o rfl rfl hl.1 rfl (Nat.le_of_ble_eq_true rfl) dL_law_1072 ⟨by show cN + 1 + 0 ≤ 601024; omega, by show sN + 6 + 0 ≤ 7293034; omega⟩) hS (fun q _ h => hgM q h) (fun q h => hgM q h) (fun r7 _ t H locs ht _ hw7 hB _ hkH hS => ?_)
          have hw7 : r7 = bb := hw7
          subst r7
          replace hPm : va_P D vwCl (mw cyI cyJ cyZ bd Sq) H := by rw [← ht]; exact hB
          replace hP : va_P D vwCl (cw cyI ad Su ++ [oc cyJ o fu]) H := P_kept hP hkH hdC
          refine lv_istore (lv' := [(6, .int bb), (5, .int r9), (0, .ref b), (1, .ref (ad 30)), (2, .ref (bd 0)), (3, .ref o), (4, .int (nI i))]) hx hb dL_law_1075 hl (by decide) rfl (fun ls hl => ?_)
          refine lv_aload_n hx hb dL_law_1077 rfl (lv_at hl 4 rfl) ?_
          refine va_calli (rnV (A := MA bd) (As := []) (rest := []) ⟨hx, hb, hml, hown, hts⟩ (c_X7_thrown hM.1 (show m_X7_thrown Sq = some (rs Sq 47) from rfl)) (cwV 0 hts gL_law_X7_thrown rfl rfl rfl cdV_X7_thrown ⟨(Nat.le_of_ble_eq_true rfl), (Nat.le_of_ble_eq_true rfl)⟩) hPm hK hN mw_o rfl rfl hl.1 rfl (Nat.le_of_ble_eq_true rfl) dL_law_1078 ⟨by show cN + 1 + 0 ≤ 601024; omega, by show sN + 6 + 0 ≤ 7293034; omega⟩) hS (fun q _ h => hgM q h) (fun q h => hgM q h) (fun r7 _ t H locs ht _ hw7 hB _ hkH hS => ?_)
          have hw7 : r7 = (rs Sq 47) := hw7
          subst r7
          replace hPm : va_P D vwCl (mw cyI cyJ cyZ bd Sq) H := by rw [← ht]; exact hB
          replace hP : va_P D vwCl (cw cyI ad Su ++ [oc cyJ o fu]) H := P_kept hP hkH hdC
          refine lv_iload hx hb dL_law_1081 (lv_at hl 1 rfl) ?_
          refine lv_icmp_eq (tgt := 1088) hx hb dL_law_1083 (by decide) (fun _ => ?_) (fun hq => absurd h47 hq)
          refine lv_iload hx hb dL_law_1088 (lv_at hl 1 rfl) ?_
          refine lv_if_ne (tgt := 1105) hx hb dL_law_1090 (by decide) (fun hq => absurd hw1 hq) (fun _ => ?_)
          refine lv_aload_n hx hb dL_law_1093 rfl (lv_at hl 5 rfl) ?_
          refine lv_iconst (v := nI 0) hx hb dL_law_1094 (by decide) ?_
          refine va_lald hx hb hK (P_right hP) 0 1 (f := fu) rfl rfl (vp_in_nI (by decide) (by decide)) dL_law_1095 ?_
          refine lv_iload hx hb dL_law_1096 (lv_at hl 0 rfl) ?_
          refine lv_i2l hx hb dL_law_1098 rfl ?_
          refine W.lcmp hx hb dL_law_1099 ?_
          refine lv_if_eq (tgt := 1105) hx hb dL_law_1100 (by decide) (fun _ => ?_) (fun hq => absurd (lg_self hcv) hq)
          refine lv_goto (tgt := 1380) hx hb dL_law_1105 (by decide) ?_
          refine lv_iinc (v := nI (6 * (k + 1))) (lv' := [(4, .int (nI (6 * (k + 1)))), (6, .int bb), (5, .int r9), (0, .ref b), (1, .ref (ad 30)), (2, .ref (bd 0)), (3, .ref o)]) hx hb dL_law_1380 hl (k := 6) rfl (by rw [hik]; show nI (6 * k) + nI 6 = _; rw [nI_add]; congr 1) (by decide) rfl (fun ls hl => ?_)
          refine lv_goto (tgt := 23) hx hb dL_law_1383 (by decide) ?_
          exact ih (k + 1) Su Sq fu (cN + 1) (sN + 6) (by omega) (by omega) hJ (by omega) (by omega) _ _ _ hP hPm hS (lv_sub hl [3, 4, 5, 6, 0] rfl)
      · refine lv_tableIn (off := 1068) (tgt := 1108) hx hb dL_law_40 (by decide) (by decide) rfl (by decide) ?_
        refine lv_aload_n hx hb dL_law_1108 rfl (lv_at hl 1 rfl) ?_
        refine lv_aload_n hx hb dL_law_1109 rfl (lv_at hl 0 rfl) ?_
        refine lv_iload hx hb dL_law_1110 (lv_at hl 4 rfl) ?_
        refine lv_iconst (v := nI 1) hx hb dL_law_1112 (by decide) ?_
        refine lv_iadd hx hb dL_law_1113 ?_
        refine va_sld hx hb hX hbl hbA hS (by rw [nI_add]; exact vp_in_nI (by omega) (by omega)) dL_law_1114 ?_
        refine lv_aload_n hx hb dL_law_1115 rfl (lv_at hl 3 rfl) ?_
        have hok := (hI k Sc Sr hJ hk).2.2.2.2.2.2.2.2.2.2.2.2.1
        obtain ⟨res, bb, Sq, hres, hq, hinl, hinr⟩ := hok (xs (Int32.toNatClampNeg ((nI i) + (nI 1))))
        refine va_calli (rnW (As := [.ref (ad 30), .int (xs (Int32.toNatClampNeg ((nI i) + (nI 1)))), .ref o]) (rest := []) ⟨hx, hb, hml, hown, hts⟩ (c_L_users hfl hO hres (fun e he => (hinl e he).1)) (vx_cwSW 3 hts gL_law_L_users rfl rfl rfl cdS_L_users ⟨(Nat.le_of_ble_eq_true rfl), (Nat.le_of_ble_eq_true rfl)⟩) hP hK hN hZ hC hgA hS rfl hl.1 rfl (Nat.le_of_ble_eq_true rfl) dL_law_1116 ⟨by show cN + 1 ≤ 601024; omega, by show sN + 6 ≤ 7293034; omega⟩) hS (fun q _ h => hgA q h) (fun q h => hgA q h) (fun r9 u9 t H locs ht _ hw hB _ hkH hS => ?_)
        replace hP : va_P D vwCl (cw cyI ad u9.1 ++ [oc cyJ o u9.2]) H := by rw [← ht]; exact hB
        replace hPm : va_P D vwCl (mw cyI cyJ cyZ bd Sr) H := P_kept hPm hkH hdM
        obtain ⟨Su, fu⟩ := u9
        rcases res with e9 | ⟨v9, Sd⟩
        · obtain ⟨hw1, hw2⟩ := hw
          have hw2 : Su = Sc := hw2
          subst hw2
          obtain ⟨hex, h47, hJ⟩ := hinl e9 rfl
          have hr0 : ¬ r9 = 0 := by rw [hw1]; exact tbn_ex1_tb12 hex
          have h47 : rs Sq 47 = r9 := h47.trans hw1.symm
          refine lv_istore (lv' := [(5, .int r9), (0, .ref b), (1, .ref (ad 30)), (2, .ref (bd 0)), (3, .ref o), (4, .int (nI i))]) hx hb dL_law_1119 hl (by decide) rfl (fun ls hl => ?_)
          refine lv_aload_n hx hb dL_law_1121 rfl (lv_at hl 3 rfl) ?_
          refine lv_aload_n hx hb dL_law_1122 rfl (lv_at hl 1 rfl) ?_
          refine lv_iload hx hb dL_law_1123 (lv_at hl 5 rfl) ?_
          refine lv_iconst (v := nI 1) hx hb dL_law_1125 (by decide) ?_
          refine lv_iadd hx hb dL_law_1126 ?_
          refine va_sld hx hb hX hbl hbA hS (by rw [nI_add]; exact vp_in_nI (by omega) (by omega)) dL_law_1127 ?_
          refine va_calli (rnV (A := MA bd) (As := [.int (xs (Int32.toNatClampNeg ((nI i) + (nI 1))))]) (rest := []) ⟨hx, hb, hml, hown, hts⟩ (c_X7_users hM.1 hq) (cwV 1 hts gL_law_X7_users rfl rfl rfl cdV_X7_users ⟨(Nat.le_of_ble_eq_true rfl), (Nat.le_of_ble_eq_true rfl)⟩) hPm hK hN mw_o rfl rfl hl.1 rfl (Nat.le_of_ble_eq_true rfl) dL_law_1128 ⟨by show cN + 1 + 0 ≤ 601024; omega, by show sN + 6 + 0 ≤ 7293034; omega⟩) hS (fun q _ h => hgM q h) (fun q h => hgM q h) (fun r7 _ t H locs ht _ hw7 hB _ hkH hS => ?_)
          have hw7 : r7 = bb := hw7
          subst r7
          replace hPm : va_P D vwCl (mw cyI cyJ cyZ bd Sq) H := by rw [← ht]; exact hB
          replace hP : va_P D vwCl (cw cyI ad Su ++ [oc cyJ o fu]) H := P_kept hP hkH hdC
          refine lv_istore (lv' := [(6, .int bb), (5, .int r9), (0, .ref b), (1, .ref (ad 30)), (2, .ref (bd 0)), (3, .ref o), (4, .int (nI i))]) hx hb dL_law_1131 hl (by decide) rfl (fun ls hl => ?_)
          refine lv_aload_n hx hb dL_law_1133 rfl (lv_at hl 4 rfl) ?_
          refine va_calli (rnV (A := MA bd) (As := []) (rest := []) ⟨hx, hb, hml, hown, hts⟩ (c_X7_thrown hM.1 (show m_X7_thrown Sq = some (rs Sq 47) from rfl)) (cwV 0 hts gL_law_X7_thrown rfl rfl rfl cdV_X7_thrown ⟨(Nat.le_of_ble_eq_true rfl), (Nat.le_of_ble_eq_true rfl)⟩) hPm hK hN mw_o rfl rfl hl.1 rfl (Nat.le_of_ble_eq_true rfl) dL_law_1134 ⟨by show cN + 1 + 0 ≤ 601024; omega, by show sN + 6 + 0 ≤ 7293034; omega⟩) hS (fun q _ h => hgM q h) (fun q h => hgM q h) (fun r7 _ t H locs ht _ hw7 hB _ hkH hS => ?_)
          have hw7 : r7 = (rs Sq 47) := hw7
          subst r7
          replace hPm : va_P D vwCl (mw cyI cyJ cyZ bd Sq) H := by rw [← ht]; exact hB
          replace hP : va_P D vwCl (cw cyI ad Su ++ [oc cyJ o fu]) H := P_kept hP hkH hdC
          refine lv_iload hx hb dL_law_1137 (lv_at hl 1 rfl) ?_
          refine lv_icmp_eq (tgt := 1144) hx hb dL_law_1139 (by decide) (fun _ => ?_) (fun hq => absurd h47 hq)
          refine lv_iload hx hb dL_law_1144 (lv_at hl 1 rfl) ?_
          refine lv_if_ne (tgt := 1161) hx hb dL_law_1146 (by decide) (fun _ => ?_) (fun hq => absurd hq hr0)
          refine lv_goto (tgt := 1380) hx hb dL_law_1161 (by decide) ?_
          refine lv_iinc (v := nI (6 * (k + 1))) (lv' := [(4, .int (nI (6 * (k + 1)))), (6, .int bb), (5, .int r9), (0, .ref b), (1, .ref (ad 30)), (2, .ref (bd 0)), (3, .ref o)]) hx hb dL_law_1380 hl (k := 6) rfl (by rw [hik]; show nI (6 * k) + nI 6 = _; rw [nI_add]; congr 1) (by decide) rfl (fun ls hl => ?_)
          refine lv_goto (tgt := 23) hx hb dL_law_1383 (by decide) ?_
          exact ih (k + 1) Su Sq fu (cN + 1) (sN + 6) (by omega) (by omega) hJ (by omega) (by omega) _ _ _ hP hPm hS (lv_sub hl [3, 4, 5, 6, 0] rfl)
        · obtain ⟨hw1, hw2, hw3⟩ := hw
          have hw1 : r9 = 0 := hw1
          have hw2 : Su = Sd := hw2
          subst hw2
          obtain ⟨h47, hcv, hJ⟩ := hinr v9 Su rfl
          have h47 : rs Sq 47 = r9 := h47.trans hw1.symm
          have hcv : fu (Int32.toNatClampNeg (nI 0)) = Int32.toInt64 bb := hw3.trans hcv
          refine lv_istore (lv' := [(5, .int r9), (0, .ref b), (1, .ref (ad 30)), (2, .ref (bd 0)), (3, .ref o), (4, .int (nI i))]) hx hb dL_law_1119 hl (by decide) rfl (fun ls hl => ?_)
          refine lv_aload_n hx hb dL_law_1121 rfl (lv_at hl 3 rfl) ?_
          refine lv_aload_n hx hb dL_law_1122 rfl (lv_at hl 1 rfl) ?_
          refine lv_iload hx hb dL_law_1123 (lv_at hl 5 rfl) ?_
          refine lv_iconst (v := nI 1) hx hb dL_law_1125 (by decide) ?_
          refine lv_iadd hx hb dL_law_1126 ?_
          refine va_sld hx hb hX hbl hbA hS (by rw [nI_add]; exact vp_in_nI (by omega) (by omega)) dL_law_1127 ?_
          refine va_calli (rnV (A := MA bd) (As := [.int (xs (Int32.toNatClampNeg ((nI i) + (nI 1))))]) (rest := []) ⟨hx, hb, hml, hown, hts⟩ (c_X7_users hM.1 hq) (cwV 1 hts gL_law_X7_users rfl rfl rfl cdV_X7_users ⟨(Nat.le_of_ble_eq_true rfl), (Nat.le_of_ble_eq_true rfl)⟩) hPm hK hN mw_o rfl rfl hl.1 rfl (Nat.le_of_ble_eq_true rfl) dL_law_1128 ⟨by show cN + 1 + 0 ≤ 601024; omega, by show sN + 6 + 0 ≤ 7293034; omega⟩) hS (fun q _ h => hgM q h) (fun q h => hgM q h) (fun r7 _ t H locs ht _ hw7 hB _ hkH hS => ?_)
          have hw7 : r7 = bb := hw7
          subst r7
          replace hPm : va_P D vwCl (mw cyI cyJ cyZ bd Sq) H := by rw [← ht]; exact hB
          replace hP : va_P D vwCl (cw cyI ad Su ++ [oc cyJ o fu]) H := P_kept hP hkH hdC
          refine lv_istore (lv' := [(6, .int bb), (5, .int r9), (0, .ref b), (1, .ref (ad 30)), (2, .ref (bd 0)), (3, .ref o), (4, .int (nI i))]) hx hb dL_law_1131 hl (by decide) rfl (fun ls hl => ?_)
          refine lv_aload_n hx hb dL_law_1133 rfl (lv_at hl 4 rfl) ?_
          refine va_calli (rnV (A := MA bd) (As := []) (rest := []) ⟨hx, hb, hml, hown, hts⟩ (c_X7_thrown hM.1 (show m_X7_thrown Sq = some (rs Sq 47) from rfl)) (cwV 0 hts gL_law_X7_thrown rfl rfl rfl cdV_X7_thrown ⟨(Nat.le_of_ble_eq_true rfl), (Nat.le_of_ble_eq_true rfl)⟩) hPm hK hN mw_o rfl rfl hl.1 rfl (Nat.le_of_ble_eq_true rfl) dL_law_1134 ⟨by show cN + 1 + 0 ≤ 601024; omega, by show sN + 6 + 0 ≤ 7293034; omega⟩) hS (fun q _ h => hgM q h) (fun q h => hgM q h) (fun r7 _ t H locs ht _ hw7 hB _ hkH hS => ?_)
          have hw7 : r7 = (rs Sq 47) := hw7
          subst r7
          replace hPm : va_P D vwCl (mw cyI cyJ cyZ bd Sq) H := by rw [← ht]; exact hB
          replace hP : va_P D vwCl (cw cyI ad Su ++ [oc cyJ o fu]) H := P_kept hP hkH hdC
          refine lv_iload hx hb dL_law_1137 (lv_at hl 1 rfl) ?_
          refine lv_icmp_eq (tgt := 1144) hx hb dL_law_1139 (by decide) (fun _ => ?_) (fun hq => absurd h47 hq)
          refine lv_iload hx hb dL_law_1144 (lv_at hl 1 rfl) ?_
          refine lv_if_ne (tgt := 1161) hx hb dL_law_1146 (by decide) (fun hq => absurd hw1 hq) (fun _ => ?_)
          refine lv_aload_n hx hb dL_law_1149 rfl (lv_at hl 5 rfl) ?_
          refine lv_iconst (v := nI 0) hx hb dL_law_1150 (by decide) ?_
          refine va_lald hx hb hK (P_right hP) 0 1 (f := fu) rfl rfl (vp_in_nI (by decide) (by decide)) dL_law_1151 ?_
          refine lv_iload hx hb dL_law_1152 (lv_at hl 0 rfl) ?_
          refine lv_i2l hx hb dL_law_1154 rfl ?_
          refine W.lcmp hx hb dL_law_1155 ?_
          refine lv_if_eq (tgt := 1161) hx hb dL_law_1156 (by decide) (fun _ => ?_) (fun hq => absurd (lg_self hcv) hq)
          refine lv_goto (tgt := 1380) hx hb dL_law_1161 (by decide) ?_
          refine lv_iinc (v := nI (6 * (k + 1))) (lv' := [(4, .int (nI (6 * (k + 1)))), (6, .int bb), (5, .int r9), (0, .ref b), (1, .ref (ad 30)), (2, .ref (bd 0)), (3, .ref o)]) hx hb dL_law_1380 hl (k := 6) rfl (by rw [hik]; show nI (6 * k) + nI 6 = _; rw [nI_add]; congr 1) (by decide) rfl (fun ls hl => ?_)
          refine lv_goto (tgt := 23) hx hb dL_law_1383 (by decide) ?_
          exact ih (k + 1) Su Sq fu (cN + 1) (sN + 6) (by omega) (by omega) hJ (by omega) (by omega) _ _ _ hP hPm hS (lv_sub hl [3, 4, 5, 6, 0] rfl)
      · refine lv_tableIn (off := 1124) (tgt := 1164) hx hb dL_law_40 (by decide) (by decide) rfl (by decide) ?_
        refine lv_aload_n hx hb dL_law_1164 rfl (lv_at hl 1 rfl) ?_
        refine lv_aload_n hx hb dL_law_1165 rfl (lv_at hl 0 rfl) ?_
        refine lv_iload hx hb dL_law_1166 (lv_at hl 4 rfl) ?_
        refine lv_iconst (v := nI 1) hx hb dL_law_1168 (by decide) ?_
        refine lv_iadd hx hb dL_law_1169 ?_
        refine va_sld hx hb hX hbl hbA hS (by rw [nI_add]; exact vp_in_nI (by omega) (by omega)) dL_law_1170 ?_
        refine lv_aload_n hx hb dL_law_1171 rfl (lv_at hl 3 rfl) ?_
        have hok := (hI k Sc Sr hJ hk).2.2.2.2.2.2.2.2.2.2.2.2.2.1
        obtain ⟨res, bb, Sq, hres, hq, hinl, hinr⟩ := hok (xs (Int32.toNatClampNeg ((nI i) + (nI 1))))
        refine va_calli (rnW (As := [.ref (ad 30), .int (xs (Int32.toNatClampNeg ((nI i) + (nI 1)))), .ref o]) (rest := []) ⟨hx, hb, hml, hown, hts⟩ (c_L_ring hfl hO hres (fun e he => (hinl e he).1)) (vx_cwSW 3 hts gL_law_L_ring rfl rfl rfl cdS_L_ring ⟨(Nat.le_of_ble_eq_true rfl), (Nat.le_of_ble_eq_true rfl)⟩) hP hK hN hZ hC hgA hS rfl hl.1 rfl (Nat.le_of_ble_eq_true rfl) dL_law_1172 ⟨by show cN + 1 ≤ 601024; omega, by show sN + 6 ≤ 7293034; omega⟩) hS (fun q _ h => hgA q h) (fun q h => hgA q h) (fun r9 u9 t H locs ht _ hw hB _ hkH hS => ?_)
        replace hP : va_P D vwCl (cw cyI ad u9.1 ++ [oc cyJ o u9.2]) H := by rw [← ht]; exact hB
        replace hPm : va_P D vwCl (mw cyI cyJ cyZ bd Sr) H := P_kept hPm hkH hdM
        obtain ⟨Su, fu⟩ := u9
        rcases res with e9 | ⟨v9, Sd⟩
        · obtain ⟨hw1, hw2⟩ := hw
          have hw2 : Su = Sc := hw2
          subst hw2
          obtain ⟨hex, h47, hJ⟩ := hinl e9 rfl
          have hr0 : ¬ r9 = 0 := by rw [hw1]; exact tbn_ex1_tb12 hex
          have h47 : rs Sq 47 = r9 := h47.trans hw1.symm
          refine lv_istore (lv' := [(5, .int r9), (0, .ref b), (1, .ref (ad 30)), (2, .ref (bd 0)), (3, .ref o), (4, .int (nI i))]) hx hb dL_law_1175 hl (by decide) rfl (fun ls hl => ?_)
          refine lv_aload_n hx hb dL_law_1177 rfl (lv_at hl 3 rfl) ?_
          refine lv_aload_n hx hb dL_law_1178 rfl (lv_at hl 1 rfl) ?_
          refine lv_iload hx hb dL_law_1179 (lv_at hl 5 rfl) ?_
          refine lv_iconst (v := nI 1) hx hb dL_law_1181 (by decide) ?_
          refine lv_iadd hx hb dL_law_1182 ?_
          refine va_sld hx hb hX hbl hbA hS (by rw [nI_add]; exact vp_in_nI (by omega) (by omega)) dL_law_1183 ?_
          refine va_calli (rnV (A := MA bd) (As := [.int (xs (Int32.toNatClampNeg ((nI i) + (nI 1))))]) (rest := []) ⟨hx, hb, hml, hown, hts⟩ (c_X7_ring hM.1 hq) (cwV 1 hts gL_law_X7_ring rfl rfl rfl cdV_X7_ring ⟨(Nat.le_of_ble_eq_true rfl), (Nat.le_of_ble_eq_true rfl)⟩) hPm hK hN mw_o rfl rfl hl.1 rfl (Nat.le_of_ble_eq_true rfl) dL_law_1184 ⟨by show cN + 1 + 0 ≤ 601024; omega, by show sN + 6 + 0 ≤ 7293034; omega⟩) hS (fun q _ h => hgM q h) (fun q h => hgM q h) (fun r7 _ t H locs ht _ hw7 hB _ hkH hS => ?_)
          have hw7 : r7 = bb := hw7
          subst r7
          replace hPm : va_P D vwCl (mw cyI cyJ cyZ bd Sq) H := by rw [← ht]; exact hB
          replace hP : va_P D vwCl (cw cyI ad Su ++ [oc cyJ o fu]) H := P_kept hP hkH hdC
          refine lv_istore (lv' := [(6, .int bb), (5, .int r9), (0, .ref b), (1, .ref (ad 30)), (2, .ref (bd 0)), (3, .ref o), (4, .int (nI i))]) hx hb dL_law_1187 hl (by decide) rfl (fun ls hl => ?_)
          refine lv_aload_n hx hb dL_law_1189 rfl (lv_at hl 4 rfl) ?_
          refine va_calli (rnV (A := MA bd) (As := []) (rest := []) ⟨hx, hb, hml, hown, hts⟩ (c_X7_thrown hM.1 (show m_X7_thrown Sq = some (rs Sq 47) from rfl)) (cwV 0 hts gL_law_X7_thrown rfl rfl rfl cdV_X7_thrown ⟨(Nat.le_of_ble_eq_true rfl), (Nat.le_of_ble_eq_true rfl)⟩) hPm hK hN mw_o rfl rfl hl.1 rfl (Nat.le_of_ble_eq_true rfl) dL_law_1190 ⟨by show cN + 1 + 0 ≤ 601024; omega, by show sN + 6 + 0 ≤ 7293034; omega⟩) hS (fun q _ h => hgM q h) (fun q h => hgM q h) (fun r7 _ t H locs ht _ hw7 hB _ hkH hS => ?_)
          have hw7 : r7 = (rs Sq 47) := hw7
          subst r7
          replace hPm : va_P D vwCl (mw cyI cyJ cyZ bd Sq) H := by rw [← ht]; exact hB
          replace hP : va_P D vwCl (cw cyI ad Su ++ [oc cyJ o fu]) H := P_kept hP hkH hdC
          refine lv_iload hx hb dL_law_1193 (lv_at hl 1 rfl) ?_
          refine lv_icmp_eq (tgt := 1200) hx hb dL_law_1195 (by decide) (fun _ => ?_) (fun hq => absurd h47 hq)
          refine lv_iload hx hb dL_law_1200 (lv_at hl 1 rfl) ?_
          refine lv_if_ne (tgt := 1217) hx hb dL_law_1202 (by decide) (fun _ => ?_) (fun hq => absurd hq hr0)
          refine lv_goto (tgt := 1380) hx hb dL_law_1217 (by decide) ?_
          refine lv_iinc (v := nI (6 * (k + 1))) (lv' := [(4, .int (nI (6 * (k + 1)))), (6, .int bb), (5, .int r9), (0, .ref b), (1, .ref (ad 30)), (2, .ref (bd 0)), (3, .ref o)]) hx hb dL_law_1380 hl (k := 6) rfl (by rw [hik]; show nI (6 * k) + nI 6 = _; rw [nI_add]; congr 1) (by decide) rfl (fun ls hl => ?_)
          refine lv_goto (tgt := 23) hx hb dL_law_1383 (by decide) ?_
          exact ih (k + 1) Su Sq fu (cN + 1) (sN + 6) (by omega) (by omega) hJ (by omega) (by omega) _ _ _ hP hPm hS (lv_sub hl [3, 4, 5, 6, 0] rfl)
        · obtain ⟨hw1, hw2, hw3⟩ := hw
          have hw1 : r9 = 0 := hw1
          have hw2 : Su = Sd := hw2
          subst hw2
          obtain ⟨h47, hcv, hJ⟩ := hinr v9 Su rfl
          have h47 : rs Sq 47 = r9 := h47.trans hw1.symm
          have hcv : fu (Int32.toNatClampNeg (nI 0)) = Int32.toInt64 bb := hw3.trans hcv
          refine lv_istore (lv' := [(5, .int r9), (0, .ref b), (1, .ref (ad 30)), (2, .ref (bd 0)), (3, .ref o), (4, .int (nI i))]) hx hb dL_law_1175 hl (by decide) rfl (fun ls hl => ?_)
          refine lv_aload_n hx hb dL_law_1177 rfl (lv_at hl 3 rfl) ?_
          refine lv_aload_n hx hb dL_law_1178 rfl (lv_at hl 1 rfl) ?_
          refine lv_iload hx hb dL_law_1179 (lv_at hl 5 rfl) ?_
          refine lv_iconst (v := nI 1) hx hb dL_law_1181 (by decide) ?_
          refine lv_iadd hx hb dL_law_1182 ?_
          refine va_sld hx hb hX hbl hbA hS (by rw [nI_add]; exact vp_in_nI (by omega) (by omega)) dL_law_1183 ?_
          refine va_calli (rnV (A := MA bd) (As := [.int (xs (Int32.toNatClampNeg ((nI i) + (nI 1))))]) (rest := []) ⟨hx, hb, hml, hown, hts⟩ (c_X7_ring hM.1 hq) (cwV 1 hts gL_law_X7_ring rfl rfl rfl cdV_X7_ring ⟨(Nat.le_of_ble_eq_true rfl), (Nat.le_of_ble_eq_true rfl)⟩) hPm hK hN mw_o rfl rfl hl.1 rfl (Nat.le_of_ble_eq_true rfl) dL_law_1184 ⟨by show cN + 1 + 0 ≤ 601024; omega, by show sN + 6 + 0 ≤ 7293034; omega⟩) hS (fun q _ h => hgM q h) (fun q h => hgM q h) (fun r7 _ t H locs ht _ hw7 hB _ hkH hS => ?_)
          have hw7 : r7 = bb := hw7
          subst r7
          replace hPm : va_P D vwCl (mw cyI cyJ cyZ bd Sq) H := by rw [← ht]; exact hB
          replace hP : va_P D vwCl (cw cyI ad Su ++ [oc cyJ o fu]) H := P_kept hP hkH hdC
          refine lv_istore (lv' := [(6, .int bb), (5, .int r9), (0, .ref b), (1, .ref (ad 30)), (2, .ref (bd 0)), (3, .ref o), (4, .int (nI i))]) hx hb dL_law_1187 hl (by decide) rfl (fun ls hl => ?_)
          refine lv_aload_n hx hb dL_law_1189 rfl (lv_at hl 4 rfl) ?_
          refine va_calli (rnV (A := MA bd) (As := []) (rest := []) ⟨hx, hb, hml, hown, hts⟩ (c_X7_thrown hM.1 (show m_X7_thrown Sq = some (rs Sq 47) from rfl)) (cwV 0 hts gL_law_X7_thrown rfl rfl rfl cdV_X7_thrown ⟨(Nat.le_of_ble_eq_true rfl), (Nat.le_of_ble_eq_true rfl)⟩) hPm hK hN mw_o rfl rfl hl.1 rfl (Nat.le_of_ble_eq_true rfl) dL_law_1190 ⟨by show cN + 1 + 0 ≤ 601024; omega, by show sN + 6 + 0 ≤ 7293034; omega⟩) hS (fun q _ h => hgM q h) (fun q h => hgM q h) (fun r7 _ t H locs ht _ hw7 hB _ hkH hS => ?_)
          have hw7 : r7 = (rs Sq 47) := hw7
          subst r7
          replace hPm : va_P D vwCl (mw cyI cyJ cyZ bd Sq) H := by rw [← ht]; exact hB
          replace hP : va_P D vwCl (cw cyI ad Su ++ [oc cyJ o fu]) H := P_kept hP hkH hdC
          refine lv_iload hx hb dL_law_1193 (lv_at hl 1 rfl) ?_
          refine lv_icmp_eq (tgt := 1200) hx hb dL_law_1195 (by decide) (fun _ => ?_) (fun hq => absurd h47 hq)
          refine lv_iload hx hb dL_law_1200 (lv_at hl 1 rfl) ?_
          refine lv_if_ne (tgt := 1217) hx hb dL_law_1202 (by decide) (fun hq => absurd hw1 hq) (fun _ => ?_)
          refine lv_aload_n hx hb dL_law_1205 rfl (lv_at hl 5 rfl) ?_
          refine lv_iconst (v := nI 0) hx hb dL_law_1206 (by decide) ?_
          refine va_lald hx hb hK (P_right hP) 0 1 (f := fu) rfl rfl (vp_in_nI (by decide) (by decide)) dL_law_1207 ?_
          refine lv_iload hx hb dL_law_1208 (lv_at hl 0 rfl) ?_
          refine lv_i2l hx hb dL_law_1210 rfl ?_
          refine W.lcmp hx hb dL_law_1211 ?_
          refine lv_if_eq (tgt := 1217) hx hb dL_law_1212 (by decide) (fun _ => ?_) (fun hq => absurd (lg_self hcv) hq)
          refine lv_goto (tgt := 1380) hx hb dL_law_1217 (by decide) ?_
          refine lv_iinc (v := nI (6 * (k + 1))) (lv' := [(4, .int (nI (6 * (k + 1)))), (6, .int bb), (5, .int r9), (0, .ref b), (1, .ref (ad 30)), (2, .ref (bd 0)), (3, .ref o)]) hx hb dL_law_1380 hl (k := 6) rfl (by rw [hik]; show nI (6 * k) + nI 6 = _; rw [nI_add]; congr 1) (by decide) rfl (fun ls hl => ?_)
          refine lv_goto (tgt := 23) hx hb dL_law_1383 (by decide) ?_
          exact ih (k + 1) Su Sq fu (cN + 1) (sN + 6) (by omega) (by omega) hJ (by omega) (by omega) _ _ _ hP hPm hS (lv_sub hl [3, 4, 5, 6, 0] rfl)
      · refine lv_tableIn (off := 1180) (tgt := 1220) hx hb dL_law_40 (by decide) (by decide) rfl (by decide) ?_
        refine lv_aload_n hx hb dL_law_1220 rfl (lv_at hl 1 rfl) ?_
        refine lv_aload_n hx hb dL_law_1221 rfl (lv_at hl 0 rfl) ?_
        refine lv_iload hx hb dL_law_1222 (lv_at hl 4 rfl) ?_
        refine lv_iconst (v := nI 1) hx hb dL_law_1224 (by decide) ?_
        refine lv_iadd hx hb dL_law_1225 ?_
        refine va_sld hx hb hX hbl hbA hS (by rw [nI_add]; exact vp_in_nI (by omega) (by omega)) dL_law_1226 ?_
        refine lv_aload_n hx hb dL_law_1227 rfl (lv_at hl 0 rfl) ?_
        refine lv_iload hx hb dL_law_1228 (lv_at hl 4 rfl) ?_
        refine lv_iconst (v := nI 2) hx hb dL_law_1230 (by decide) ?_
        refine lv_iadd hx hb dL_law_1231 ?_
        refine va_sld hx hb hX hbl hbA hS (by rw [nI_add]; exact vp_in_nI (by omega) (by omega)) dL_law_1232 ?_
        refine lv_aload_n hx hb dL_law_1233 rfl (lv_at hl 0 rfl) ?_
        refine lv_iload hx hb dL_law_1234 (lv_at hl 4 rfl) ?_
        refine lv_iconst (v := nI 3) hx hb dL_law_1236 (by decide) ?_
        refine lv_iadd hx hb dL_law_1237 ?_
        refine va_sld hx hb hX hbl hbA hS (by rw [nI_add]; exact vp_in_nI (by omega) (by omega)) dL_law_1238 ?_
        refine lv_aload_n hx hb dL_law_1239 rfl (lv_at hl 3 rfl) ?_
        have hok := (hI k Sc Sr hJ hk).2.2.2.2.2.2.2.2.2.2.2.2.2.2.1
        obtain ⟨res, bb, Sq, hres, hq, hinl, hinr⟩ := hok (xs (Int32.toNatClampNeg ((nI i) + (nI 1)))) (xs (Int32.toNatClampNeg ((nI i) + (nI 2)))) (xs (Int32.toNatClampNeg ((nI i) + (nI 3))))
        refine va_calli (rnW (As := [.ref (ad 30), .int (xs (Int32.toNatClampNeg ((nI i) + (nI 1)))), .int (xs (Int32.toNatClampNeg ((nI i) + (nI 2)))), .int (xs (Int32.toNatClampNeg ((nI i) + (nI 3)))), .ref o]) (rest := []) ⟨hx, hb, hml, hown, hts⟩ (c_L_way hfl hO hres (fun e he => (hinl e he).1)) (vx_cwSW 5 hts gL_law_L_way rfl rfl rfl cdS_L_way ⟨(Nat.le_of_ble_eq_true rfl), (Nat.le_of_ble_eq_true rfl)⟩) hP hK hN hZ hC hgA hS rfl hl.1 rfl (Nat.le_of_ble_eq_true rfl) dL_law_1240 ⟨by show cN + 3 ≤ 601024; omega, by show sN + 18 ≤ 7293034; omega⟩) hS (fun q _ h => hgA q h) (fun q h => hgA q h) (fun r9 u9 t H locs ht _ hw hB _ hkH hS => ?_)
        replace hP : va_P D vwCl (cw cyI ad u9.1 ++ [oc cyJ o u9.2]) H := by rw [← ht]; exact hB
        replace hPm : va_P D vwCl (mw cyI cyJ cyZ bd Sr) H := P_kept hPm hkH hdM
        obtain ⟨Su, fu⟩ := u9
        rcases res with e9 | ⟨v9, Sd⟩
        · obtain ⟨hw1, hw2⟩ := hw
          have hw2 : Su = Sc := hw2
          subst hw2
          obtain ⟨hex, h47, hJ⟩ := hinl e9 rfl
          have hr0 : ¬ r9 = 0 := by rw [hw1]; exact tbn_ex12_tb12 hex
          have h47 : rs Sq 47 = r9 := h47.trans hw1.symm
          refine lv_istore (lv' := [(5, .int r9), (0, .ref b), (1, .ref (ad 30)), (2, .ref (bd 0)), (3, .ref o), (4, .int (nI i))]) hx hb dL_law_1243 hl (by decide) rfl (fun ls hl => ?_)
          refine lv_aload_n hx hb dL_law_1245 rfl (lv_at hl 3 rfl) ?_
          refine lv_aload_n hx hb dL_law_1246 rfl (lv_at hl 1 rfl) ?_
          refine lv_iload hx hb dL_law_1247 (lv_at hl 5 rfl) ?_
          refine lv_iconst (v := nI 1) hx hb dL_law_1249 (by decide) ?_
          refine lv_iadd hx hb dL_law_1250 ?_
          refine va_sld hx hb hX hbl hbA hS (by rw [nI_add]; exact vp_in_nI (by omega) (by omega)) dL_law_1251 ?_
          refine lv_aload_n hx hb dL_law_1252 rfl (lv_at hl 1 rfl) ?_
          refine lv_iload hx hb dL_law_1253 (lv_at hl 5 rfl) ?_
          refine lv_iconst (v := nI 2) hx hb dL_law_1255 (by decide) ?_
          refine lv_iadd hx hb dL_law_1256 ?_
          refine va_sld hx hb hX hbl hbA hS (by rw [nI_add]; exact vp_in_nI (by omega) (by omega)) dL_law_1257 ?_
          refine lv_aload_n hx hb dL_law_1258 rfl (lv_at hl 1 rfl) ?_
          refine lv_iload hx hb dL_law_1259 (lv_at hl 5 rfl) ?_
          refine lv_iconst (v := nI 3) hx hb dL_law_1261 (by decide) ?_
          refine lv_iadd hx hb dL_law_1262 ?_
          refine va_sld hx hb hX hbl hbA hS (by rw [nI_add]; exact vp_in_nI (by omega) (by omega)) dL_law_1263 ?_
          refine va_calli (rnV (A := MA bd) (As := [.int (xs (Int32.toNatClampNeg ((nI i) + (nI 1)))), .int (xs (Int32.toNatClampNeg ((nI i) + (nI 2)))), .int (xs (Int32.toNatClampNeg ((nI i) + (nI 3))))]) (rest := []) ⟨hx, hb, hml, hown, hts⟩ (c_X7_way hM.1 hq) (cwV 3 hts gL_law_X7_way rfl rfl rfl cdV_X7_way ⟨(Nat.le_of_ble_eq_true rfl), (Nat.le_of_ble_eq_true rfl)⟩) hPm hK hN mw_o rfl rfl hl.1 rfl (Nat.le_of_ble_eq_true rfl) dL_law_1264 ⟨by show cN + 3 + 0 ≤ 601024; omega, by show sN + 18 + 0 ≤ 7293034; omega⟩) hS (fun q _ h => hgM q h) (fun q h => hgM q h) (fun r7 _ t H locs ht _ hw7 hB _ hkH hS => ?_)
          have hw7 : r7 = bb := hw7
          subst r7
          replace hPm : va_P D vwCl (mw cyI cyJ cyZ bd Sq) H := by rw [← ht]; exact hB
          replace hP : va_P D vwCl (cw cyI ad Su ++ [oc cyJ o fu]) H := P_kept hP hkH hdC
          refine lv_istore (lv' := [(6, .int bb), (5, .int r9), (0, .ref b), (1, .ref (ad 30)), (2, .ref (bd 0)), (3, .ref o), (4, .int (nI i))]) hx hb dL_law_1267 hl (by decide) rfl (fun ls hl => ?_)
          refine lv_aload_n hx hb dL_law_1269 rfl (lv_at hl 4 rfl) ?_
          refine va_calli (rnV (A := MA bd) (As := []) (rest := []) ⟨hx, hb, hml, hown, hts⟩ (c_X7_thrown hM.1 (show m_X7_thrown Sq = some (rs Sq 47) from rfl)) (cwV 0 hts gL_law_X7_thrown rfl rfl rfl cdV_X7_thrown ⟨(Nat.le_of_ble_eq_true rfl), (Nat.le_of_ble_eq_true rfl)⟩) hPm hK hN mw_o rfl rfl hl.1 rfl (Nat.le_of_ble_eq_true rfl) dL_law_1270 ⟨by show cN + 3 + 0 ≤ 601024; omega, by show sN + 18 + 0 ≤ 7293034; omega⟩) hS (fun q _ h => hgM q h) (fun q h => hgM q h) (fun r7 _ t H locs ht _ hw7 hB _ hkH hS => ?_)
          have hw7 : r7 = (rs Sq 47) := hw7
          subst r7
          replace hPm : va_P D vwCl (mw cyI cyJ cyZ bd Sq) H := by rw [← ht]; exact hB
          replace hP : va_P D vwCl (cw cyI ad Su ++ [oc cyJ o fu]) H := P_kept hP hkH hdC
          refine lv_iload hx hb dL_law_1273 (lv_at hl 1 rfl) ?_
          refine lv_icmp_eq (tgt := 1280) hx hb dL_law_1275 (by decide) (fun _ => ?_) (fun hq => absurd h47 hq)
          refine lv_iload hx hb dL_law_1280 (lv_at hl 1 rfl) ?_
          refine lv_if_ne (tgt := 1297) hx hb dL_law_1282 (by decide) (fun _ => ?_) (fun hq => absurd hq hr0)
          refine lv_goto (tgt := 1380) hx hb dL_law_1297 (by decide) ?_
          refine lv_iinc (v := nI (6 * (k + 1))) (lv' := [(4, .int (nI (6 * (k + 1)))), (6, .int bb), (5, .int r9), (0, .ref b), (1, .ref (ad 30)), (2, .ref (bd 0)), (3, .ref o)]) hx hb dL_law_1380 hl (k := 6) rfl (by rw [hik]; show nI (6 * k) + nI 6 = _; rw [nI_add]; congr 1) (by decide) rfl (fun ls hl => ?_)
          refine lv_goto (tgt := 23) hx hb dL_law_1383 (by decide) ?_
          exact ih (k + 1) Su Sq fu (cN + 3) (sN + 18) (by omega) (by omega) hJ (by omega) (by omega) _ _ _ hP hPm hS (lv_sub hl [3, 4, 5, 6, 0] rfl)
        · obtain ⟨hw1, hw2, hw3⟩ := hw
          have hw1 : r9 = 0 := hw1
          have hw2 : Su = Sd := hw2
          subst hw2
          obtain ⟨h47, hcv, hJ⟩ := hinr v9 Su rfl
          have h47 : rs Sq 47 = r9 := h47.trans hw1.symm
          have hcv : fu (Int32.toNatClampNeg (nI 0)) = Int32.toInt64 bb := hw3.trans hcv
          refine lv_istore (lv' := [(5, .int r9), (0, .ref b), (1, .ref (ad 30)), (2, .ref (bd 0)), (3, .ref o), (4, .int (nI i))]) hx hb dL_law_1243 hl (by decide) rfl (fun ls hl => ?_)
          refine lv_aload_n hx hb dL_law_1245 rfl (lv_at hl 3 rfl) ?_
          refine lv_aload_n hx hb dL_law_1246 rfl (lv_at hl 1 rfl) ?_
          refine lv_iload hx hb dL_law_1247 (lv_at hl 5 rfl) ?_
          refine lv_iconst (v := nI 1) hx hb dL_law_1249 (by decide) ?_
          refine lv_iadd hx hb dL_law_1250 ?_
          refine va_sld hx hb hX hbl hbA hS (by rw [nI_add]; exact vp_in_nI (by omega) (by omega)) dL_law_1251 ?_
          refine lv_aload_n hx hb dL_law_1252 rfl (lv_at hl 1 rfl) ?_
          refine lv_iload hx hb dL_law_1253 (lv_at hl 5 rfl) ?_
          refine lv_iconst (v := nI 2) hx hb dL_law_1255 (by decide) ?_
          refine lv_iadd hx hb dL_law_1256 ?_
          refine va_sld hx hb hX hbl hbA hS (by rw [nI_add]; exact vp_in_nI (by omega) (by omega)) dL_law_1257 ?_
          refine lv_aload_n hx hb dL_law_1258 rfl (lv_at hl 1 rfl) ?_
          refine lv_iload hx hb dL_law_1259 (lv_at hl 5 rfl) ?_
          refine lv_iconst (v := nI 3) hx hb dL_law_1261 (by decide) ?_
          refine lv_iadd hx hb dL_law_1262 ?_
          refine va_sld hx hb hX hbl hbA hS (by rw [nI_add]; exact vp_in_nI (by omega) (by omega)) dL_law_1263 ?_
          refine va_calli (rnV (A := MA bd) (As := [.int (xs (Int32.toNatClampNeg ((nI i) + (nI 1)))), .int (xs (Int32.toNatClampNeg ((nI i) + (nI 2)))), .int (xs (Int32.toNatClampNeg ((nI i) + (nI 3))))]) (rest := []) ⟨hx, hb, hml, hown, hts⟩ (c_X7_way hM.1 hq) (cwV 3 hts gL_law_X7_way rfl rfl rfl cdV_X7_way ⟨(Nat.le_of_ble_eq_true rfl), (Nat.le_of_ble_eq_true rfl)⟩) hPm hK hN mw_o rfl rfl hl.1 rfl (Nat.le_of_ble_eq_true rfl) dL_law_1264 ⟨by show cN + 3 + 0 ≤ 601024; omega, by show sN + 18 + 0 ≤ 7293034; omega⟩) hS (fun q _ h => hgM q h) (fun q h => hgM q h) (fun r7 _ t H locs ht _ hw7 hB _ hkH hS => ?_)
          have hw7 : r7 = bb := hw7
          subst r7
          replace hPm : va_P D vwCl (mw cyI cyJ cyZ bd Sq) H := by rw [← ht]; exact hB
          replace hP : va_P D vwCl (cw cyI ad Su ++ [oc cyJ o fu]) H := P_kept hP hkH hdC
          refine lv_istore (lv' := [(6, .int bb), (5, .int r9), (0, .ref b), (1, .ref (ad 30)), (2, .ref (bd 0)), (3, .ref o), (4, .int (nI i))]) hx hb dL_law_1267 hl (by decide) rfl (fun ls hl => ?_)
          refine lv_aload_n hx hb dL_law_1269 rfl (lv_at hl 4 rfl) ?_
          refine va_calli (rnV (A := MA bd) (As := []) (rest := []) ⟨hx, hb, hml, hown, hts⟩ (c_X7_thrown hM.1 (show m_X7_thrown Sq = some (rs Sq 47) from rfl)) (cwV 0 hts gL_law_X7_thrown rfl rfl rfl cdV_X7_thrown ⟨(Nat.le_of_ble_eq_true rfl), (Nat.le_of_ble_eq_true rfl)⟩) hPm hK hN mw_o rfl rfl hl.1 rfl (Nat.le_of_ble_eq_true rfl) dL_law_1270 ⟨by show cN + 3 + 0 ≤ 601024; omega, by show sN + 18 + 0 ≤ 7293034; omega⟩) hS (fun q _ h => hgM q h) (fun q h => hgM q h) (fun r7 _ t H locs ht _ hw7 hB _ hkH hS => ?_)
          have hw7 : r7 = (rs Sq 47) := hw7
          subst r7
          replace hPm : va_P D vwCl (mw cyI cyJ cyZ bd Sq) H := by rw [← ht]; exact hB
          replace hP : va_P D vwCl (cw cyI ad Su ++ [oc cyJ o fu]) H := P_kept hP hkH hdC
          refine lv_iload hx hb dL_law_1273 (lv_at hl 1 rfl) ?_
          refine lv_icmp_eq (tgt := 1280) hx hb dL_law_1275 (by decide) (fun _ => ?_) (fun hq => absurd h47 hq)
          refine lv_iload hx hb dL_law_1280 (lv_at hl 1 rfl) ?_
          refine lv_if_ne (tgt := 1297) hx hb dL_law_1282 (by decide) (fun hq => absurd hw1 hq) (fun _ => ?_)
          refine lv_aload_n hx hb dL_law_1285 rfl (lv_at hl 5 rfl) ?_
          refine lv_iconst (v := nI 0) hx hb dL_law_1286 (by decide) ?_
          refine va_lald hx hb hK (P_right hP) 0 1 (f := fu) rfl rfl (vp_in_nI (by decide) (by decide)) dL_law_1287 ?_
          refine lv_iload hx hb dL_law_1288 (lv_at hl 0 rfl) ?_
          refine lv_i2l hx hb dL_law_1290 rfl ?_
          refine W.lcmp hx hb dL_law_1291 ?_
          refine lv_if_eq (tgt := 1297) hx hb dL_law_1292 (by decide) (fun _ => ?_) (fun hq => absurd (lg_self hcv) hq)
          refine lv_goto (tgt := 1380) hx hb dL_law_1297 (by decide) ?_
          refine lv_iinc (v := nI (6 * (k + 1))) (lv' := [(4, .int (nI (6 * (k + 1)))), (6, .int bb), (5, .int r9), (0, .ref b), (1, .ref (ad 30)), (2, .ref (bd 0)), (3, .ref o)]) hx hb dL_law_1380 hl (k := 6) rfl (by rw [hik]; show nI (6 * k) + nI 6 = _; rw [nI_add]; congr 1) (by decide) rfl (fun ls hl => ?_)
          refine lv_goto (tgt := 23) hx hb dL_law_1383 (by decide) ?_
          exact ih (k + 1) Su Sq fu (cN + 3) (sN + 18) (by omega) (by omega) hJ (by omega) (by omega) _ _ _ hP hPm hS (lv_sub hl [3, 4, 5, 6, 0] rfl)
      · refine lv_tableIn (off := 1260) (tgt := 1300) hx hb dL_law_40 (by decide) (by decide) rfl (by decide) ?_
        refine lv_aload_n hx hb dL_law_1300 rfl (lv_at hl 1 rfl) ?_
        refine lv_aload_n hx hb dL_law_1301 rfl (lv_at hl 0 rfl) ?_
        refine lv_iload hx hb dL_law_1302 (lv_at hl 4 rfl) ?_
        refine lv_iconst (v := nI 1) hx hb dL_law_1304 (by decide) ?_
        refine lv_iadd hx hb dL_law_1305 ?_
        refine va_sld hx hb hX hbl hbA hS (by rw [nI_add]; exact vp_in_nI (by omega) (by omega)) dL_law_1306 ?_
        refine lv_aload_n hx hb dL_law_1307 rfl (lv_at hl 0 rfl) ?_
        refine lv_iload hx hb dL_law_1308 (lv_at hl 4 rfl) ?_
        refine lv_iconst (v := nI 2) hx hb dL_law_1310 (by decide) ?_
        refine lv_iadd hx hb dL_law_1311 ?_
        refine va_sld hx hb hX hbl hbA hS (by rw [nI_add]; exact vp_in_nI (by omega) (by omega)) dL_law_1312 ?_
        refine lv_aload_n hx hb dL_law_1313 rfl (lv_at hl 0 rfl) ?_
        refine lv_iload hx hb dL_law_1314 (lv_at hl 4 rfl) ?_
        refine lv_iconst (v := nI 3) hx hb dL_law_1316 (by decide) ?_
        refine lv_iadd hx hb dL_law_1317 ?_
        refine va_sld hx hb hX hbl hbA hS (by rw [nI_add]; exact vp_in_nI (by omega) (by omega)) dL_law_1318 ?_
        refine lv_aload_n hx hb dL_law_1319 rfl (lv_at hl 3 rfl) ?_
        have hok := (hI k Sc Sr hJ hk).2.2.2.2.2.2.2.2.2.2.2.2.2.2.2.1
        obtain ⟨res, bb, Sq, hres, hq, hinl, hinr⟩ := hok (xs (Int32.toNatClampNeg ((nI i) + (nI 1)))) (xs (Int32.toNatClampNeg ((nI i) + (nI 2)))) (xs (Int32.toNatClampNeg ((nI i) + (nI 3))))
        refine va_calli (rnW (As := [.ref (ad 30), .int (xs (Int32.toNatClampNeg ((nI i) + (nI 1)))), .int (xs (Int32.toNatClampNeg ((nI i) + (nI 2)))), .int (xs (Int32.toNatClampNeg ((nI i) + (nI 3)))), .ref o]) (rest := []) ⟨hx, hb, hml, hown, hts⟩ (c_L_time hfl hO hres (fun e he => (hinl e he).1)) (vx_cwSW 5 hts gL_law_L_time rfl rfl rfl cdS_L_time ⟨(Nat.le_of_ble_eq_true rfl), (Nat.le_of_ble_eq_true rfl)⟩) hP hK hN hZ hC hgA hS rfl hl.1 rfl (Nat.le_of_ble_eq_true rfl) dL_law_1320 ⟨by show cN + 3 ≤ 601024; omega, by show sN + 18 ≤ 7293034; omega⟩) hS (fun q _ h => hgA q h) (fun q h => hgA q h) (fun r9 u9 t H locs ht _ hw hB _ hkH hS => ?_)
        replace hP : va_P D vwCl (cw cyI ad u9.1 ++ [oc cyJ o u9.2]) H := by rw [← ht]; exact hB
        replace hPm : va_P D vwCl (mw cyI cyJ cyZ bd Sr) H := P_kept hPm hkH hdM
        obtain ⟨Su, fu⟩ := u9
        rcases res with e9 | ⟨v9, Sd⟩
        · obtain ⟨hw1, hw2⟩ := hw
          have hw2 : Su = Sc := hw2
          subst hw2
          obtain ⟨hex, h47, hJ⟩ := hinl e9 rfl
          have hr0 : ¬ r9 = 0 := by rw [hw1]; exact tbn_ex12_tb12 hex
          have h47 : rs Sq 47 = r9 := h47.trans hw1.symm
          refine lv_istore (lv' := [(5, .int r9), (0, .ref b), (1, .ref (ad 30)), (2, .ref (bd 0)), (3, .ref o), (4, .int (nI i))]) hx hb dL_law_1323 hl (by decide) rfl (fun ls hl => ?_)
          refine lv_aload_n hx hb dL_law_1325 rfl (lv_at hl 3 rfl) ?_
          refine lv_aload_n hx hb dL_law_1326 rfl (lv_at hl 1 rfl) ?_
          refine lv_iload hx hb dL_law_1327 (lv_at hl 5 rfl) ?_
          refine lv_iconst (v := nI 1) hx hb dL_law_1329 (by decide) ?_
          refine lv_iadd hx hb dL_law_1330 ?_
          refine va_sld hx hb hX hbl hbA hS (by rw [nI_add]; exact vp_in_nI (by omega) (by omega)) dL_law_1331 ?_
          refine lv_aload_n hx hb dL_law_1332 rfl (lv_at hl 1 rfl) ?_
          refine lv_iload hx hb dL_law_1333 (lv_at hl 5 rfl) ?_
          refine lv_iconst (v := nI 2) hx hb dL_law_1335 (by decide) ?_
          refine lv_iadd hx hb dL_law_1336 ?_
          refine va_sld hx hb hX hbl hbA hS (by rw [nI_add]; exact vp_in_nI (by omega) (by omega)) dL_law_1337 ?_
          refine lv_aload_n hx hb dL_law_1338 rfl (lv_at hl 1 rfl) ?_
          refine lv_iload hx hb dL_law_1339 (lv_at hl 5 rfl) ?_
          refine lv_iconst (v := nI 3) hx hb dL_law_1341 (by decide) ?_
          refine lv_iadd hx hb dL_law_1342 ?_
          refine va_sld hx hb hX hbl hbA hS (by rw [nI_add]; exact vp_in_nI (by omega) (by omega)) dL_law_1343 ?_
          refine va_calli (rnV (A := MA bd) (As := [.int (xs (Int32.toNatClampNeg ((nI i) + (nI 1)))), .int (xs (Int32.toNatClampNeg ((nI i) + (nI 2)))), .int (xs (Int32.toNatClampNeg ((nI i) + (nI 3))))]) (rest := []) ⟨hx, hb, hml, hown, hts⟩ (c_X7_time hM.1 hq) (cwV 3 hts gL_law_X7_time rfl rfl rfl cdV_X7_time ⟨(Nat.le_of_ble_eq_true rfl), (Nat.le_of_ble_eq_true rfl)⟩) hPm hK hN mw_o rfl rfl hl.1 rfl (Nat.le_of_ble_eq_true rfl) dL_law_1344 ⟨by show cN + 3 + 0 ≤ 601024; omega, by show sN + 18 + 0 ≤ 7293034; omega⟩) hS (fun q _ h => hgM q h) (fun q h => hgM q h) (fun r7 _ t H locs ht _ hw7 hB _ hkH hS => ?_)
          have hw7 : r7 = bb := hw7
          subst r7
          replace hPm : va_P D vwCl (mw cyI cyJ cyZ bd Sq) H := by rw [← ht]; exact hB
          replace hP : va_P D vwCl (cw cyI ad Su ++ [oc cyJ o fu]) H := P_kept hP hkH hdC
          refine lv_istore (lv' := [(6, .int bb), (5, .int r9), (0, .ref b), (1, .ref (ad 30)), (2, .ref (bd 0)), (3, .ref o), (4, .int (nI i))]) hx hb dL_law_1347 hl (by decide) rfl (fun ls hl => ?_)
          refine lv_aload_n hx hb dL_law_1349 rfl (lv_at hl 4 rfl) ?_
          refine va_calli (rnV (A := MA bd) (As := []) (rest := []) ⟨hx, hb, hml, hown, hts⟩ (c_X7_thrown hM.1 (show m_X7_thrown Sq = some (rs Sq 47) from rfl)) (cwV 0 hts gL_law_X7_thrown rfl rfl rfl cdV_X7_thrown ⟨(Nat.le_of_ble_eq_true rfl), (Nat.le_of_ble_eq_true rfl)⟩) hPm hK hN mw_o rfl rfl hl.1 rfl (Nat.le_of_ble_eq_true rfl) dL_law_1350 ⟨by show cN + 3 + 0 ≤ 601024; omega, by show sN + 18 + 0 ≤ 7293034; omega⟩) hS (fun q _ h => hgM q h) (fun q h => hgM q h) (fun r7 _ t H locs ht _ hw7 hB _ hkH hS => ?_)
          have hw7 : r7 = (rs Sq 47) := hw7
          subst r7
          replace hPm : va_P D vwCl (mw cyI cyJ cyZ bd Sq) H := by rw [← ht]; exact hB
          replace hP : va_P D vwCl (cw cyI ad Su ++ [oc cyJ o fu]) H := P_kept hP hkH hdC
          refine lv_iload hx hb dL_law_1353 (lv_at hl 1 rfl) ?_
          refine lv_icmp_eq (tgt := 1360) hx hb dL_law_1355 (by decide) (fun _ => ?_) (fun hq => absurd h47 hq)
          refine lv_iload hx hb dL_law_1360 (lv_at hl 1 rfl) ?_
          refine lv_if_ne (tgt := 1377) hx hb dL_law_1362 (by decide) (fun _ => ?_) (fun hq => absurd hq hr0)
          refine lv_goto (tgt := 1380) hx hb dL_law_1377 (by decide) ?_
          refine lv_iinc (v := nI (6 * (k + 1))) (lv' := [(4, .int (nI (6 * (k + 1)))), (6, .int bb), (5, .int r9), (0, .ref b), (1, .ref (ad 30)), (2, .ref (bd 0)), (3, .ref o)]) hx hb dL_law_1380 hl (k := 6) rfl (by rw [hik]; show nI (6 * k) + nI 6 = _; rw [nI_add]; congr 1) (by decide) rfl (fun ls hl => ?_)
          refine lv_goto (tgt := 23) hx hb dL_law_1383 (by decide) ?_
          exact ih (k + 1) Su Sq fu (cN + 3) (sN + 18) (by omega) (by omega) hJ (by omega) (by omega) _ _ _ hP hPm hS (lv_sub hl [3, 4, 5, 6, 0] rfl)
        · obtain ⟨hw1, hw2, hw3⟩ := hw
          have hw1 : r9 = 0 := hw1
          have hw2 : Su = Sd := hw2
          subst hw2
          obtain ⟨h47, hcv, hJ⟩ := hinr v9 Su rfl
          have h47 : rs Sq 47 = r9 := h47.trans hw1.symm
          have hcv : fu (Int32.toNatClampNeg (nI 0)) = Int32.toInt64 bb := hw3.trans hcv
          refine lv_istore (lv' := [(5, .int r9), (0, .ref b), (1, .ref (ad 30)), (2, .ref (bd 0)), (3, .ref o), (4, .int (nI i))]) hx hb dL_law_1323 hl (by decide) rfl (fun ls hl => ?_)
          refine lv_aload_n hx hb dL_law_1325 rfl (lv_at hl 3 rfl) ?_
          refine lv_aload_n hx hb dL_law_1326 rfl (lv_at hl 1 rfl) ?_
          refine lv_iload hx hb dL_law_1327 (lv_at hl 5 rfl) ?_
          refine lv_iconst (v := nI 1) hx hb dL_law_1329 (by decide) ?_
          refine lv_iadd hx hb dL_law_1330 ?_
          refine va_sld hx hb hX hbl hbA hS (by rw [nI_add]; exact vp_in_nI (by omega) (by omega)) dL_law_1331 ?_
          refine lv_aload_n hx hb dL_law_1332 rfl (lv_at hl 1 rfl) ?_
          refine lv_iload hx hb dL_law_1333 (lv_at hl 5 rfl) ?_
          refine lv_iconst (v := nI 2) hx hb dL_law_1335 (by decide) ?_
          refine lv_iadd hx hb dL_law_1336 ?_
          refine va_sld hx hb hX hbl hbA hS (by rw [nI_add]; exact vp_in_nI (by omega) (by omega)) dL_law_1337 ?_
          refine lv_aload_n hx hb dL_law_1338 rfl (lv_at hl 1 rfl) ?_
          refine lv_iload hx hb dL_law_1339 (lv_at hl 5 rfl) ?_
          refine lv_iconst (v := nI 3) hx hb dL_law_1341 (by decide) ?_
          refine lv_iadd hx hb dL_law_1342 ?_
          refine va_sld hx hb hX hbl hbA hS (by rw [nI_add]; exact vp_in_nI (by omega) (by omega)) dL_law_1343 ?_
          refine va_calli (rnV (A := MA bd) (As := [.int (xs (Int32.toNatClampNeg ((nI i) + (nI 1)))), .int (xs (Int32.toNatClampNeg ((nI i) + (nI 2)))), .int (xs (Int32.toNatClampNeg ((nI i) + (nI 3))))]) (rest := []) ⟨hx, hb, hml, hown, hts⟩ (c_X7_time hM.1 hq) (cwV 3 hts gL_law_X7_time rfl rfl rfl cdV_X7_time ⟨(Nat.le_of_ble_eq_true rfl), (Nat.le_of_ble_eq_true rfl)⟩) hPm hK hN mw_o rfl rfl hl.1 rfl (Nat.le_of_ble_eq_true rfl) dL_law_1344 ⟨by show cN + 3 + 0 ≤ 601024; omega, by show sN + 18 + 0 ≤ 7293034; omega⟩) hS (fun q _ h => hgM q h) (fun q h => hgM q h) (fun r7 _ t H locs ht _ hw7 hB _ hkH hS => ?_)
          have hw7 : r7 = bb := hw7
          subst r7
          replace hPm : va_P D vwCl (mw cyI cyJ cyZ bd Sq) H := by rw [← ht]; exact hB
          replace hP : va_P D vwCl (cw cyI ad Su ++ [oc cyJ o fu]) H := P_kept hP hkH hdC
          refine lv_istore (lv' := [(6, .int bb), (5, .int r9), (0, .ref b), (1, .ref (ad 30)), (2, .ref (bd 0)), (3, .ref o), (4, .int (nI i))]) hx hb dL_law_1347 hl (by decide) rfl (fun ls hl => ?_)
          refine lv_aload_n hx hb dL_law_1349 rfl (lv_at hl 4 rfl) ?_
          refine va_calli (rnV (A := MA bd) (As := []) (rest := []) ⟨hx, hb, hml, hown, hts⟩ (c_X7_thrown hM.1 (show m_X7_thrown Sq = some (rs Sq 47) from rfl)) (cwV 0 hts gL_law_X7_thrown rfl rfl rfl cdV_X7_thrown ⟨(Nat.le_of_ble_eq_true rfl), (Nat.le_of_ble_eq_true rfl)⟩) hPm hK hN mw_o rfl rfl hl.1 rfl (Nat.le_of_ble_eq_true rfl) dL_law_1350 ⟨by show cN + 3 + 0 ≤ 601024; omega, by show sN + 18 + 0 ≤ 7293034; omega⟩) hS (fun q _ h => hgM q h) (fun q h => hgM q h) (fun r7 _ t H locs ht _ hw7 hB _ hkH hS => ?_)
          have hw7 : r7 = (rs Sq 47) := hw7
          subst r7
          replace hPm : va_P D vwCl (mw cyI cyJ cyZ bd Sq) H := by rw [← ht]; exact hB
          replace hP : va_P D vwCl (cw cyI ad Su ++ [oc cyJ o fu]) H := P_kept hP hkH hdC
          refine lv_iload hx hb dL_law_1353 (lv_at hl 1 rfl) ?_
          refine lv_icmp_eq (tgt := 1360) hx hb dL_law_1355 (by decide) (fun _ => ?_) (fun hq => absurd h47 hq)
          refine lv_iload hx hb dL_law_1360 (lv_at hl 1 rfl) ?_
          refine lv_if_ne (tgt := 1377) hx hb dL_law_1362 (by decide) (fun hq => absurd hw1 hq) (fun _ => ?_)
          refine lv_aload_n hx hb dL_law_1365 rfl (lv_at hl 5 rfl) ?_
          refine lv_iconst (v := nI 0) hx hb dL_law_1366 (by decide) ?_
          refine va_lald hx hb hK (P_right hP) 0 1 (f := fu) rfl rfl (vp_in_nI (by decide) (by decide)) dL_law_1367 ?_
          refine lv_iload hx hb dL_law_1368 (lv_at hl 0 rfl) ?_
          refine lv_i2l hx hb dL_law_1370 rfl ?_
          refine W.lcmp hx hb dL_law_1371 ?_
          refine lv_if_eq (tgt := 1377) hx hb dL_law_1372 (by decide) (fun _ => ?_) (fun hq => absurd (lg_self hcv) hq)
          refine lv_goto (tgt := 1380) hx hb dL_law_1377 (by decide) ?_
          refine lv_iinc (v := nI (6 * (k + 1))) (lv' := [(4, .int (nI (6 * (k + 1)))), (6, .int bb), (5, .int r9), (0, .ref b), (1, .ref (ad 30)), (2, .ref (bd 0)), (3, .ref o)]) hx hb dL_law_1380 hl (k := 6) rfl (by rw [hik]; show nI (6 * k) + nI 6 = _; rw [nI_add]; congr 1) (by decide) rfl (fun ls hl => ?_)
          refine lv_goto (tgt := 23) hx hb dL_law_1383 (by decide) ?_
          exact ih (k + 1) Su Sq fu (cN + 3) (sN + 18) (by omega) (by omega) hJ (by omega) (by omega) _ _ _ hP hPm hS (lv_sub hl [3, 4, 5, 6, 0] rfl)
      · refine lv_tableOut (tgt := 1380) hx hb dL_law_40 (Or.inr (by rw [nI_toInt (by omega)]; omega)) (by decide) ?_
        refine lv_iinc (v := nI (6 * (k + 1))) (lv' := [(4, .int (nI (6 * (k + 1)))), (0, .ref b), (1, .ref (ad 30)), (2, .ref (bd 0)), (3, .ref o)]) hx hb dL_law_1380 hl (k := 4) rfl (by rw [hik]; show nI (6 * k) + nI 6 = _; rw [nI_add]; congr 1) (by decide) rfl (fun ls hl => ?_)
        refine lv_goto (tgt := 23) hx hb dL_law_1383 (by decide) ?_
        exact ih (k + 1) Sc Sr f (cN + 0) (sN + 0) (by omega) (by omega) (hmono k Sc Sr hJ) (by omega) (by omega) _ _ _ hP hPm hS (lv_sub hl [1, 2, 3, 4, 0] rfl)
