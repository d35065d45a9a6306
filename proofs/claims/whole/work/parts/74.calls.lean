/-! the small calls -/
theorem i_lt {x : Int32} {n : Nat} (h : n < 2147483648) : (x < nI n) = (x.toInt < n) := by rw [propext Int32.lt_iff_toInt_lt, nI_toInt (by omega)]
theorem lt_i {x : Int32} {n : Nat} (h : n < 2147483648) : (nI n < x) = ((n : Int) < x.toInt) := by rw [propext Int32.lt_iff_toInt_lt, nI_toInt (by omega)]
theorem le_i {x : Int32} {n : Nat} (h : n < 2147483648) : (nI n ≤ x) = ((n : Int) ≤ x.toInt) := by rw [propext Int32.le_iff_toInt_le, nI_toInt (by omega)]
theorem i_le {x : Int32} {n : Nat} (h : n < 2147483648) : (x ≤ nI n) = (x.toInt ≤ n) := by rw [propext Int32.le_iff_toInt_le, nI_toInt (by omega)]
theorem i_lt0 {x : Int32} : (x < 0) = (x.toInt < 0) := by
  rw [propext Int32.lt_iff_toInt_lt]
  rfl
theorem i_ltm {x : Int32} : (x < -1) = (x.toInt < -1) := by
  rw [propext Int32.lt_iff_toInt_lt]
  rfl
theorem idx (x : Int32) {n : Nat} (h : n < 2147483648) : (∃ j, j < n ∧ x = nI j) ∨ x.toInt < 0 ∨ (n : Int) ≤ x.toInt := by
  rcases pk_ix x (n := n) (by omega) with q | q | q
  · rw [i_lt0] at q; exact Or.inr (Or.inl q)
  · rw [le_i h] at q; exact Or.inr (Or.inr q)
  · exact Or.inl q
theorem idx1 (x : Int32) : x = -1 ∨ (∃ v, v < 1000 ∧ x = nI v) ∨ x.toInt < -1 ∨ 1000 ≤ x.toInt := by
  rcases idx x (n := 1000) (by omega) with q | q | q
  · exact Or.inr (Or.inl q)
  · by_cases h : x = -1
    · exact Or.inl h
    · refine Or.inr (Or.inr (Or.inl ?_))
      have h2 : ¬ x.toInt = -1 := fun z => h (Int32.toInt_inj.mp (z.trans (by decide)))
      omega
  · exact Or.inr (Or.inr (Or.inr q))
theorem isIn_t {S : St} {x : Int32} {a b : Nat} (ha : a < 2147483648) (hb : b < 2147483648) (h : (a : Int) ≤ x.toInt ∧ x.toInt ≤ b) : m_X7_isIn S x (nI a) (nI b) = some (nI 1) := by
  unfold m_X7_isIn
  rw [if_neg (by rw [i_lt ha]; omega), if_neg (by rw [lt_i hb]; omega)]
theorem isIn_f {S : St} {x : Int32} {a b : Nat} (ha : a < 2147483648) (hb : b < 2147483648) (h : x.toInt < a ∨ (b : Int) < x.toInt) : m_X7_isIn S x (nI a) (nI b) = some (nI 0) := by
  unfold m_X7_isIn
  by_cases h1 : x < nI a
  · rw [if_pos h1]
  · rw [if_neg h1, if_pos (by rw [lt_i hb]; rw [i_lt ha] at h1; omega)]
theorem isM_t {S : St} {x : Int32} {b : Nat} (hb : b < 2147483648) (h : -1 ≤ x.toInt ∧ x.toInt ≤ b) : m_X7_isIn S x (-1) (nI b) = some (nI 1) := by
  unfold m_X7_isIn
  rw [if_neg (by rw [i_ltm]; omega), if_neg (by rw [lt_i hb]; omega)]
theorem isM_f {S : St} {x : Int32} {b : Nat} (hb : b < 2147483648) (h : x.toInt < -1 ∨ (b : Int) < x.toInt) : m_X7_isIn S x (-1) (nI b) = some (nI 0) := by
  unfold m_X7_isIn
  by_cases h1 : x < -1
  · rw [if_pos h1]
  · rw [if_neg h1, if_pos (by rw [lt_i hb]; rw [i_ltm] at h1; omega)]
theorem nT {j : Nat} (h : j < 2147483648) : (nI j).toInt = (j : Int) := nI_toInt (by omega)
theorem goes_0 {S : St} : m_X7_goes S (nI 0) = some (nI 1, wi S 47 0 (nI 0)) := by
  unfold m_X7_goes
  rw [zb_e, if_pos (by decide)]
theorem goes_n {S : St} {e : Nat} (h : e = 1 ∨ e = 2 ∨ e = 3) : m_X7_goes S (nI e) = some (nI 0, wi S 47 0 (nI e)) := by
  unfold m_X7_goes
  rw [zb_e, if_neg (by rcases h with rfl | rfl | rfl <;> decide)]
theorem rot_t {S : St} {t : Nat} (h : t < 16) : m_X6_refuseOtherTargets S (nI t) = some (.inr S) := by
  unfold m_X6_refuseOtherTargets
  rw [if_neg (nI_pos (by omega)), if_pos (by rw [lt_nI (by omega) (by omega)]; exact h)]
theorem rot_f {S : St} {x : Int32} (h : x.toInt < 0 ∨ ((16 : Nat) : Int) ≤ x.toInt) : m_X6_refuseOtherTargets S x = some (.inl 1) := by
  unfold m_X6_refuseOtherTargets
  by_cases h1 : x < 0
  · rw [if_pos h1]
  · rw [if_neg h1, if_neg (by rw [i_lt (by omega)]; rw [i_lt0] at h1; omega)]
theorem rtg_t {S : St} {t : Nat} (h : t < 16) : m_X7_isTarget S (nI t) = some (nI 1) := by
  unfold m_X7_isTarget
  rw [isIn_t (by omega) (by omega) (by rw [nT (by omega)]; omega), zo_e, show bz (nI 1) = true from by decide, zg_tr]
theorem rtg_f {S : St} {x : Int32} (h : x.toInt < 0 ∨ ((16 : Nat) : Int) ≤ x.toInt) : m_X7_isTarget S x = some (nI 0) := by
  unfold m_X7_isTarget
  rw [isIn_f (by omega) (by omega) (by omega), zo_e, show bz (nI 0) = true from by decide, zg_tr]
theorem zx_r {α β : Type} {a : α} {f : α → Option (Sum Nat β)} : zx (some (.inr a)) f = f a := rfl
theorem zx_l {α β : Type} {e : Nat} {f : α → Option (Sum Nat β)} : zx (some (.inl e)) f = some (.inl e) := rfl
theorem ron_t {S : St} {t c : Nat} (h : t < 16) (hc : c < 2) : m_X6_refuseOtherNodes S (nI t) (nI c) = some (.inr S) := by
  unfold m_X6_refuseOtherNodes
  rw [rot_t h, zx_r, if_neg (nI_pos (by omega)), if_pos (by rw [lt_nI (by omega) (by omega)]; exact hc)]
theorem ron_f {S : St} {x y : Int32} (h : (x.toInt < 0 ∨ ((16 : Nat) : Int) ≤ x.toInt) ∨ y.toInt < 0 ∨ ((2 : Nat) : Int) ≤ y.toInt) : m_X6_refuseOtherNodes S x y = some (.inl 1) := by
  unfold m_X6_refuseOtherNodes
  rcases idx x (n := 16) (by omega) with ⟨t, ht, rfl⟩ | q
  · rw [rot_t ht, zx_r]
    rw [nT (by omega)] at h
    by_cases h1 : y < 0
    · rw [if_pos h1]
    · rw [if_neg h1, if_neg (by rw [i_lt (by omega)]; rw [i_lt0] at h1; omega)]
  · rw [rot_f q, zx_l]
theorem rnd_f {S : St} {x y : Int32} (h : (x.toInt < 0 ∨ ((16 : Nat) : Int) ≤ x.toInt) ∨ y.toInt < 0 ∨ ((2 : Nat) : Int) ≤ y.toInt) : m_X7_isNode S x y = some (nI 0) := by
  unfold m_X7_isNode
  rcases idx x (n := 16) (by omega) with ⟨t, ht, rfl⟩ | q
  · rw [rtg_t ht, zo_e, if_neg (by decide)]
    rw [nT (by omega)] at h
    rw [isIn_f (by omega) (by omega) (by omega), zo_e, if_pos (by decide)]
  · rw [rtg_f q, zo_e, if_pos (by decide)]
theorem FOK_fu {φ : Nat → Option Nat} (h : FOK φ) {i : Nat} {o : Option Nat} (ho : ∀ n, o = some n → n < 1000) : FOK (fu φ i o) := fun j n hj => by
  unfold fu at hj
  split at hj
  · exact ho n hj
  · exact h j n hj
theorem ok_write {k : Nat} {Sc Sr : St} (h : INV k Sc Sr) : OK_write (INV (k + 1)) Sc Sr := by
  intro p1 p2
  rcases idx p1 (n := 20) (by omega) with ⟨i, hi, rfl⟩ | hb
  · have go : ∀ o : Option Nat, (∀ n, o = some n → n < 1000) → p2 = eO o → m_X6_write Sc (nI i) p2 = some (.inr (Sc.1 0 i, tb Sc 0 (upd (Sc.1 0) i p2))) → m_X7_write Sr (nI i) p2 = some (Sr.1 0 i, wi (wi Sr 47 0 (nI 0)) 0 i p2) →
        ∃ (res : Sum Nat (Int32 × St)) (b : Int32) (Sq : St), m_X6_write Sc (nI i) p2 = some res ∧ m_X7_write Sr (nI i) p2 = some (b, Sq) ∧ (∀ e, res = .inl e → ex12 e ∧ rs Sq 47 = tb12 e ∧ INV (k + 1) Sc Sq) ∧ (∀ r Sd, res = .inr (r, Sd) → rs Sq 47 = 0 ∧ cvI r = Int32.toInt64 b ∧ INV (k + 1) Sd Sq) := by
      intro o ho he e1 e2
      obtain ⟨E, g, hE, hW, hc, hr⟩ := INV_mono k Sc Sr h
      have e0 : Sc.1 0 i = Sr.1 0 i := (hc.1 i hi).trans (hr.1 i hi).symm
      refine ⟨_, _, _, e1, e2, fun e q => (by cases q), fun r Sd q => ?_⟩
      cases q
      refine ⟨by rw [rs_v, wi_ne (by omega), wi_at]; rfl, by rw [e0]; rfl, (fu (eφ E) i o, E.2), g, ⟨FOK_fu hE.1 ho, hE.2⟩, hW, ?_, ?_⟩
      · obtain ⟨c0, c1, c2, c3, c4, c5, c12, c14, c15, c16, c17, c8⟩ := hc
        refine ⟨fun j hj => ?_, ?_, ?_, ?_, ?_, ?_, ?_, ?_, ?_, ?_, ?_, ?_⟩
        · rw [tb_s]
          show upd (Sc.1 0) i p2 j = eO (fu (eφ E) i o j)
          by_cases hji : j = i
          · subst hji; rw [pk_us, fu_s, he]
          · rw [pk_un hji, fu_n hji]; exact c0 j hj
        · rw [tb_n (by omega)]; exact c1
        · rw [tb_n (by omega)]; exact c2
        · rw [tb_n (by omega), tb_n (by omega)]; exact c3
        · rw [tb_n (by omega)]; exact c4
        · rw [tb_n (by omega)]; exact c5
        · rw [tb_n (by omega)]; exact c12
        · rw [tb_n (by omega)]; exact c14
        · rw [tb_n (by omega)]; exact c15
        · rw [tb_n (by omega)]; exact c16
        · rw [tb_n (by omega)]; exact c17
        · rw [tb_n (by omega)]; exact c8
      · obtain ⟨d1, d2, d3, d4, d5, d6, d7, d8⟩ := RI_47 (v := nI 0) hr
        have n0 : ∀ k j, ¬ k = 0 → (wi (wi Sr 47 0 (nI 0)) 0 i p2).1 k j = (wi Sr 47 0 (nI 0)).1 k j := fun k j q => wi_ne (by omega)
        refine ⟨fun j hj => ?_, fun t ht => ⟨fun q => ?_, fun r q => ?_⟩, by rw [n0 _ _ (by omega)]; exact d3, MaR_eq (E := E) d4 rfl rfl rfl rfl rfl (fun k j _ _ => n0 k j (by omega)), KeI_eq d5 (fun k j _ _ => n0 k j (by omega)) (fun _ _ _ _ => rfl), CaR_eq d6 (fun k j _ => n0 k j (by omega)) (fun _ => rfl), DoI_eq d7 rfl rfl (fun k j _ => n0 k j (by omega)), CoR_eq d8 rfl rfl (fun j => n0 33 j (by omega))⟩
        · show _ = eO (fu (eφ E) i o j)
          by_cases hji : j = i
          · subst hji; rw [wi_at, fu_s, he]
          · rw [wi_ne (by omega), fu_n hji]; exact d1 j hj
        · rw [n0 _ _ (by omega)]; exact (d2 t ht).1 q
        · have hm := (d2 t ht).2 r q
          unfold RrM at hm ⊢
          rw [n0 _ _ (by omega), n0 _ _ (by omega), n0 _ _ (by omega), n0 _ _ (by omega), n0 _ _ (by omega)]
          refine ⟨hm.1, hm.2.1, hm.2.2.1, hm.2.2.2.1, hm.2.2.2.2.1, fun a x hx => ?_⟩
          rw [n0 _ _ (by omega), n0 _ _ (by omega)]
          exact hm.2.2.2.2.2 a x hx
    have c0 : ¬ nI i < 0 := nI_pos (by omega)
    have c1 : nI i < nI 20 := by rw [lt_nI (by omega) (by omega)]; exact hi
    have st : m_X4_set 0 Sc (nI i / nI 5) (irm (nI i) (nI 5)) p2 = some (tb Sc 0 (upd (Sc.1 0) i p2)) := by
      rw [div_nI (by omega) (by omega) (by omega), irm_nI (by omega) (by omega) (by omega), ts_0 (by omega) (by omega), show i / 5 * 5 + i % 5 = i by omega]
    have rr : (-1 ≤ p2.toInt ∧ p2.toInt ≤ ((999 : Nat) : Int)) → m_X7_write Sr (nI i) p2 = some (Sr.1 0 i, wi (wi Sr 47 0 (nI 0)) 0 i p2) := fun hp => by
      unfold m_X7_write
      rw [isIn_t (by omega) (by omega) (by rw [nT (by omega)]; omega), zo_e, if_neg (by decide), isM_t (by omega) hp, zo_e, if_neg (by decide), goes_0, zo2_e, if_neg (by decide), zg_in hi (by omega), ri_n (by omega), zb_e, zg_in hi (by omega), tn (by omega), zb_e, wi_ne (by omega)]
    rcases idx1 p2 with rfl | ⟨v, hv, rfl⟩ | hb2
    · refine go none (fun n q => by cases q) rfl ?_ (rr (by decide))
      unfold m_X6_write
      rw [if_neg c0, if_pos c1, if_pos rfl, cont_v hi, zo_e, st, zo_e]
    · refine go (some v) (fun n q => by cases q; exact hv) rfl ?_ (rr (by rw [nT (by omega)]; omega))
      unfold m_X6_write m_X6_isValue
      rw [if_neg c0, if_pos c1, if_neg (nI_n1 (by omega)), if_neg (nI_pos (by omega)), if_neg (by rw [le_nI (by omega) (by omega)]; omega), zo_e, if_neg (by decide), cont_v hi, zo_e, st, zo_e]
    · refine ⟨.inl 2, nI 0, wi Sr 47 0 (nI 2), ?_, ?_, fun e q => (by cases q; exact ⟨Or.inr rfl, wi_at, INV_47 h⟩), fun r Sd q => (by cases q)⟩
      · unfold m_X6_write m_X6_isValue
        have hm : ¬ p2 = -1 := fun q => by
          subst q
          have h1 : (-1 : Int32).toInt = -1 := by decide
          omega
        rw [if_neg c0, if_pos c1, if_neg hm]
        by_cases h1 : p2 < 0
        · rw [if_pos h1, zo_e, if_pos (by decide)]
        · rw [if_neg h1, if_pos (by rw [le_i (by omega)]; rw [i_lt0] at h1; omega), zo_e, if_pos (by decide)]
      · unfold m_X7_write
        rw [isIn_t (by omega) (by omega) (by rw [nT (by omega)]; omega), zo_e, if_neg (by decide), isM_f (by omega) (by omega), zo_e, if_pos (by decide), goes_n (by omega), zo2_e, if_pos (by decide)]
  · refine ⟨.inl 1, nI 0, wi Sr 47 0 (nI 1), ?_, ?_, fun e q => (by cases q; exact ⟨Or.inl rfl, wi_at, INV_47 h⟩), fun r Sd q => (by cases q)⟩
    · unfold m_X6_write
      by_cases h1 : p1 < 0
      · rw [if_pos h1]
      · rw [if_neg h1, if_neg (by rw [i_lt (by omega)]; rw [i_lt0] at h1; omega)]
    · unfold m_X7_write
      rw [isIn_f (by omega) (by omega) (by omega), zo_e, if_pos (by decide), goes_n (by omega), zo2_e, if_pos (by decide)]
/-- a call that reads alone -/
theorem ok_done {k : Nat} {Sc Sr : St} (h : INV k Sc Sr) : OK_done (INV (k + 1)) Sc Sr := by
  intro p1 p2
  by_cases hb : (p1.toInt < 0 ∨ ((16 : Nat) : Int) ≤ p1.toInt) ∨ p2.toInt < 0 ∨ ((2 : Nat) : Int) ≤ p2.toInt
  · refine ⟨.inl 1, nI 0, wi Sr 47 0 (nI 1), ?_, ?_, fun e q => (by cases q; exact ⟨rfl, wi_at, INV_47 h⟩), fun r Sd q => (by cases q)⟩
    · unfold m_X6_done
      rw [ron_f hb, zx_l]
    · unfold m_X7_done
      rw [rnd_f hb, zo_e, if_pos (by decide), goes_n (by omega), zo2_e, if_pos (by decide)]
  · rcases idx p1 (n := 16) (by omega) with ⟨t, ht, rfl⟩ | q
    · rcases idx p2 (n := 2) (by omega) with ⟨c, hc2, rfl⟩ | q
      · obtain ⟨E, g, hE, hW, hc, hr⟩ := id h
        have hn : 2 * t + c < 32 := by omega
        refine ⟨.inr (nI (gDn g (2 * t + c)), Sc), nI (gDn g (2 * t + c)), wi Sr 47 0 (nI 0), ?_, ?_, fun e q => (by cases q), fun r Sd q => (by cases q; exact ⟨wi_at, rfl, INV_47 h⟩)⟩
        · unfold m_X6_done m_X6_nodeOf
          rw [ron_t ht hc2, zx_r, zo_e, pk_mul, nI_add, show t * 2 + c = 2 * t + c by omega, tg_s (b := 0) (by omega) hn (by omega), zo_e, (hc.2.2.2.2.2.2.2.2.2.2.2 _ hn).2.1]
        · unfold m_X7_done
          rw [isNode_v ht hc2, zo_e, if_neg (by decide), goes_0, zo2_e, if_neg (by decide), pk_mul, nI_add, zg_in hn (by omega), ri_n (by omega), wi_ne (by omega), (hr.2.2.2.2.2.2.1 _ hn).1]
      · exact absurd (Or.inr q) hb
    · exact absurd (Or.inl q) hb
theorem ok_why {k : Nat} {Sc Sr : St} (h : INV k Sc Sr) : OK_why (INV (k + 1)) Sc Sr := by
  intro p1 p2
  by_cases hb : (p1.toInt < 0 ∨ ((16 : Nat) : Int) ≤ p1.toInt) ∨ p2.toInt < 0 ∨ ((2 : Nat) : Int) ≤ p2.toInt
  · refine ⟨.inl 1, nI 0, wi Sr 47 0 (nI 1), ?_, ?_, fun e q => (by cases q; exact ⟨rfl, wi_at, INV_47 h⟩), fun r Sd q => (by cases q)⟩
    · unfold m_X6_why
      rw [ron_f hb, zx_l]
    · unfold m_X7_why
      rw [rnd_f hb, zo_e, if_pos (by decide), goes_n (by omega), zo2_e, if_pos (by decide)]
  · rcases idx p1 (n := 16) (by omega) with ⟨t, ht, rfl⟩ | q
    · rcases idx p2 (n := 2) (by omega) with ⟨c, hc2, rfl⟩ | q
      · obtain ⟨E, g, hE, hW, hc, hr⟩ := id h
        have hn : 2 * t + c < 32 := by omega
        refine ⟨.inr (nI (gWy g (2 * t + c)), Sc), nI (gWy g (2 * t + c)), wi Sr 47 0 (nI 0), ?_, ?_, fun e q => (by cases q), fun r Sd q => (by cases q; exact ⟨wi_at, rfl, INV_47 h⟩)⟩
        · unfold m_X6_why m_X6_nodeOf
          rw [ron_t ht hc2, zx_r, zo_e, pk_mul, nI_add, show t * 2 + c = 2 * t + c by omega, tg_s (b := 0) (by omega) hn (by omega), zo_e, (hc.2.2.2.2.2.2.2.2.2.2.2 _ hn).2.2.2]
        · unfold m_X7_why
          rw [isNode_v ht hc2, zo_e, if_neg (by decide), goes_0, zo2_e, if_neg (by decide), pk_mul, nI_add, zg_in hn (by omega), ri_n (by omega), wi_ne (by omega), (hr.2.2.2.2.2.2.1 _ hn).2]
      · exact absurd (Or.inr q) hb
    · exact absurd (Or.inl q) hb
theorem ok_build {k : Nat} {Sc Sr : St} (hk : k < 512) (h : INV k Sc Sr) : OK_build (INV (k + 1)) Sc Sr := by
  intro p1 p2
  by_cases hb : (p1.toInt < 0 ∨ ((16 : Nat) : Int) ≤ p1.toInt) ∨ p2.toInt < 0 ∨ ((2 : Nat) : Int) ≤ p2.toInt
  · refine ⟨.inl 1, nI 0, wi Sr 47 0 (nI 1), ?_, ?_, fun e q => (by cases q; exact ⟨rfl, wi_at, INV_47 h⟩), fun r Sd q => (by cases q)⟩
    · unfold m_X6_build
      rw [ron_f hb, zx_l]
    · unfold m_X7_build m_X7_build_J14
      rw [rnd_f hb, zo_e, if_pos (by decide), goes_n (by omega), zo2_e, if_pos (by decide)]
  · rcases idx p1 (n := 16) (by omega) with ⟨t, ht, rfl⟩ | q
    · rcases idx p2 (n := 2) (by omega) with ⟨c, hc2, rfl⟩ | q
      · obtain ⟨E, g, hE, hW, hc, hr⟩ := h
        have hn : 2 * t + c < 32 := by omega
        obtain ⟨S1, a1, a2⟩ := startB_v hE hn (T := 32 * (k + 1)) (by omega) hW hc
        obtain ⟨S2, b1, b2, b3⟩ := rbuild_v hE ht hc2 hW hr
        refine ⟨.inr (enA (aB E (2 * t + c) g).1, S1), _, S2, ?_, b1, fun e q => (by cases q), fun r Sd q => ?_⟩
        · unfold m_X6_build m_X6_nodeOf
          rw [ron_t ht hc2, zx_r, zo_e, pk_mul, nI_add, show t * 2 + c = 2 * t + c by omega, a1, zo2_e]
        · cases q
          exact ⟨b3, rfl, E, _, hE, (WGB_aB hE hn hW).1, RC_T a2 (by omega), b2⟩
      · exact absurd (Or.inr q) hb
    · exact absurd (Or.inl q) hb
theorem RP1_RC {E : Ev} {T : Nat} {g g' : Gs} {S S' : St} {v : Int32} (h : RC E 0 T g S) (hp : RP1 E (wi S (16 + 2 * 1) 0 v) g' S') : RC E 0 T g S' :=
  RC_same h (fun k q1 q2 q3 q4 q5 q6 q7 => by rw [hp.1 k q4 q5, wi_tb, tb_n (by omega)])
theorem ok_plain {k : Nat} {Sc Sr : St} (h : INV k Sc Sr) : OK_plain (INV (k + 1)) Sc Sr := by
  intro p1 p2
  by_cases hb : (p1.toInt < 0 ∨ ((16 : Nat) : Int) ≤ p1.toInt) ∨ p2.toInt < 0 ∨ ((2 : Nat) : Int) ≤ p2.toInt
  · refine ⟨.inl 1, nI 0, wi Sr 47 0 (nI 1), ?_, ?_, fun e q => (by cases q; exact ⟨rfl, wi_at, INV_47 h⟩), fun r Sd q => (by cases q)⟩
    · unfold m_X6_plain
      rw [ron_f hb, zx_l]
    · unfold m_X7_plain
      rw [rnd_f hb, zo_e, if_pos (by decide), goes_n (by omega), zo2_e, if_pos (by decide)]
  · rcases idx p1 (n := 16) (by omega) with ⟨t, ht, rfl⟩ | q
    · rcases idx p2 (n := 2) (by omega) with ⟨c, hc2, rfl⟩ | q
      · obtain ⟨E, g, hE, hW, hc, hr⟩ := INV_mono k Sc Sr h
        have hn : 2 * t + c < 32 := by omega
        obtain ⟨S1, a1, a2⟩ := startP_v hE hn hW hc
        obtain ⟨S2, b1, b2, b3, b4, b5⟩ := rplain_v hE hn hW (RI_47 (v := nI 0) hr)
        refine ⟨.inr (enA (aP E (2 * t + c) g).1, S1), enA (aP E (2 * t + c) g).1, S2, ?_, ?_, fun e q => (by cases q), fun r Sd q => ?_⟩
        · unfold m_X6_plain m_X6_nodeOf
          rw [ron_t ht hc2, zx_r, zo_e, pk_mul, nI_add, show t * 2 + c = 2 * t + c by omega, a1, zo2_e]
        · unfold m_X7_plain
          rw [isNode_v ht hc2, zo_e, if_neg (by decide), goes_0, zo2_e, if_neg (by decide), pk_mul, nI_add, b1, zo2_e]
        · cases q
          exact ⟨by rw [rs_v, b5, wi_at]; rfl, rfl, E, g, hE, hW, RP1_RC hc a2, b2⟩
      · exact absurd (Or.inr q) hb
    · exact absurd (Or.inl q) hb
