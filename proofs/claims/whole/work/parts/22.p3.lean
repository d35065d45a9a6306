/-! the reference's longs: folders, rules, what was read -/
def o1 : Option Nat → Nat
  | none => 0
  | some n => n + 1
def eO64 : Option Nat → Int64
  | none => -1
  | some n => lN n
theorem lN_inj {a b : Nat} (ha : a < 9223372036854775808) (hb : b < 9223372036854775808) (h : lN a = lN b) : a = b := (pk_lEQ (by omega) (by omega)).mp h
theorem eO_64 {o : Option Nat} (h : ∀ n, o = some n → n < 2147483648) : Int32.toInt64 (eO o) = eO64 o := by
  cases o with
  | none => decide
  | some n => exact nI_l (by have := h n rfl; omega)
theorem eO64_1 (o : Option Nat) : eO64 o + 1 = lN (o1 o) := by
  cases o with
  | none => decide
  | some n => exact lN_1 n
theorem lN_n1 {n : Nat} (h : n < 9223372036854775808) : ¬ lN n = -1 := by
  intro q
  have h1 := congrArg Int64.toInt q
  rw [pk_lT (by omega)] at h1
  have h2 : (-1 : Int64).toInt = -1 := by decide
  omega
theorem lN_n2 {n : Nat} (h : n < 9223372036854775808) : ¬ lN n = -2 := by
  intro q
  have h1 := congrArg Int64.toInt q
  rw [pk_lT (by omega)] at h1
  have h2 : (-2 : Int64).toInt = -2 := by decide
  omega
theorem eO64_inj {a b : Option Nat} (ha : ∀ n, a = some n → n < 1000) (hb : ∀ n, b = some n → n < 1000) (h : eO64 a = eO64 b) : a = b := by
  cases a with
  | none =>
    cases b with
    | none => rfl
    | some n => exact absurd h.symm (lN_n1 (by have := hb n rfl; omega))
  | some m =>
    cases b with
    | none => exact absurd h (lN_n1 (by have := ha m rfl; omega))
    | some n => exact congrArg some (lN_inj (by have := ha m rfl; omega) (by have := hb n rfl; omega) h)
theorem eO64_n2 {a : Option Nat} (ha : ∀ n, a = some n → n < 1000) : ¬ eO64 a = -2 := by
  cases a with
  | none => decide
  | some n => exact lN_n2 (by have := ha n rfl; omega)
def encF : Nat → List (Option Nat) → Nat
  | a, [] => a
  | a, o :: t => encF (1024 * a + o1 o) t
theorem o1_inj {a b : Option Nat} (h : o1 a = o1 b) : a = b := by
  cases a <;> cases b <;> simp_all [o1]
theorem encF_inj : ∀ (l m : List (Option Nat)) (a b : Nat), l.length = m.length → (∀ o ∈ l, o1 o < 1024) → (∀ o ∈ m, o1 o < 1024) → encF a l = encF b m → a = b ∧ l = m
  | [], [], a, b, _, _, _, h => ⟨h, rfl⟩
  | [], _ :: _, _, _, h, _, _, _ => by simp at h
  | _ :: _, [], _, _, h, _, _, _ => by simp at h
  | x :: l, y :: m, a, b, hl, h1, h2, h => by
    obtain ⟨e1, e2⟩ := encF_inj l m (1024 * a + o1 x) (1024 * b + o1 y) (by simpa using hl) (fun o ho => h1 o (List.mem_cons_of_mem _ ho)) (fun o ho => h2 o (List.mem_cons_of_mem _ ho)) h
    have b1 := h1 x List.mem_cons_self
    have b2 := h2 y List.mem_cons_self
    refine ⟨by omega, ?_⟩
    rw [o1_inj (show o1 x = o1 y by omega), e2]
theorem encF_le : ∀ (l : List (Option Nat)) (a : Nat), (∀ o ∈ l, o1 o < 1024) → encF a l < (a + 1) * 1024 ^ l.length
  | [], a, _ => by simp [encF]
  | x :: l, a, h => by
    have h1 := encF_le l (1024 * a + o1 x) (fun o ho => h o (List.mem_cons_of_mem _ ho))
    have h2 := h x List.mem_cons_self
    have h3 : (1024 * a + o1 x + 1) * 1024 ^ l.length ≤ (1024 * (a + 1)) * 1024 ^ l.length := Nat.mul_le_mul_right _ (by omega)
    have h4 : (1024 * (a + 1)) * 1024 ^ l.length = (a + 1) * 1024 ^ (x :: l).length := by
      rw [List.length_cons, Nat.pow_succ]
      simp [Nat.mul_comm, Nat.mul_assoc]
    show encF (1024 * a + o1 x) l < _
    omega
/-- the files of a folder -/
def fvals (φ : Nat → Option Nat) (k : Nat) : List (Option Nat) := (List.range' 0 5).map (fun i => φ (5 * k + i))
def FOK (φ : Nat → Option Nat) : Prop := ∀ i n, φ i = some n → n < 1000
theorem o1_lt {o : Option Nat} (h : ∀ n, o = some n → n < 1000) : o1 o < 1024 := by
  cases o with
  | none => decide
  | some n => have := h n rfl; simp only [o1]; omega
theorem folder_l {S : St} {φ : Nat → Option Nat} (hφ : FOK φ) (hS : ∀ i, i < 20 → S.1 0 i = eO (φ i)) {k : Nat} (hk : k < 4) : ∀ (n i d a : Nat), i + d = 5 → d < n → zl2 (m_X7_folder_B5 (nI k) S) n (lN a) (nI i) = some (lN (encF a ((List.range' i d).map (fun i => φ (5 * k + i))))) := by
  intro n
  induction n with
  | zero => intro i d a _ h; omega
  | succ n ih =>
    intro i d a h1 h2
    have hu : zl2 (m_X7_folder_B5 (nI k) S) (n + 1) (lN a) (nI i) = m_X7_folder_B5 (nI k) S (zl2 (m_X7_folder_B5 (nI k) S) n) (lN a) (nI i) := rfl
    rw [hu]
    generalize hG : zl2 (m_X7_folder_B5 (nI k) S) n = G at ih ⊢
    unfold m_X7_folder_B5
    simp only [le_nI (a := 5) (b := i) (by omega) (by omega), zb_e, pk_mul, nI_add]
    match d, h1, h2 with
    | 0, h1, h2 => rw [if_pos (by omega)]; rfl
    | d + 1, h1, h2 =>
      rw [if_neg (by omega), zg_in (by omega) (by omega), ri_n (by omega), hS _ (by omega), eO_64 (fun n q => Nat.lt_trans (hφ _ n q) (by omega))]
      have e : ((1024 : Int64) * lN a + eO64 (φ (5 * k + i))) + 1 = lN (1024 * a + o1 (φ (5 * k + i))) := by
        rw [Int64.add_assoc, eO64_1, show (1024 : Int64) = lN 1024 from rfl, lN_mul, lN_add]
      rw [e, ih (i + 1) d _ (by omega) (by omega)]
      rfl
theorem folder_v {S : St} {φ : Nat → Option Nat} (hφ : FOK φ) (hS : ∀ i, i < 20 → S.1 0 i = eO (φ i)) {k : Nat} (hk : k < 4) : m_X7_folder S (nI k) = some (lN (encF 0 (fvals φ k))) :=
  folder_l hφ hS hk FU 0 5 0 (by omega) (FU_gt (by omega))
theorem fvals_lt {φ : Nat → Option Nat} (hφ : FOK φ) (k : Nat) : ∀ o ∈ fvals φ k, ∀ n, o = some n → n < 1000 := by
  intro o ho n hn
  obtain ⟨i, -, rfl⟩ := List.mem_map.mp ho
  exact hφ _ n hn
theorem fvals_len (φ : Nat → Option Nat) (k : Nat) : (fvals φ k).length = 5 := by simp [fvals]
theorem fvals_get {φ : Nat → Option Nat} {k i : Nat} (hi : i < 5) : (fvals φ k)[i]? = some (φ (5 * k + i)) := by
  unfold fvals
  rw [List.getElem?_map, List.getElem?_range' (by omega)]
  simp
theorem vals_fit {l m : List (Option Nat)} (hl : l.length = 5) (hm : m.length = 5) (h1 : ∀ o ∈ l, ∀ n, o = some n → n < 1000) (h2 : ∀ o ∈ m, ∀ n, o = some n → n < 1000) : lN (encF 0 l) = lN (encF 0 m) ↔ l = m := by
  have b1 := encF_le l 0 (fun o ho => o1_lt (h1 o ho))
  have b2 := encF_le m 0 (fun o ho => o1_lt (h2 o ho))
  rw [hl] at b1
  rw [hm] at b2
  refine ⟨fun h => (encF_inj l m 0 0 (hl.trans hm.symm) (fun o ho => o1_lt (h1 o ho)) (fun o ho => o1_lt (h2 o ho)) (lN_inj (by omega) (by omega) h)).2, fun h => by rw [h]⟩
/-! a rule in one number -/
def encI : List (Nat × Nat) → Nat
  | [] => 0
  | q :: t => (q.1 * 32 + q.2) + 128 * encI t
def encB (r : Rul) : Nat := kd r + 1 + 8 * nb r + 8192 * sl r + 8388608 * (ip r).length
def encR (r : Rul) : Nat := encB r + 67108864 * encI (ip r)
theorem encI_app : ∀ (l : List (Nat × Nat)) (q : Nat × Nat), encI (l ++ [q]) = encI l + (q.1 * 32 + q.2) * 128 ^ l.length
  | [], q => by simp [encI]
  | x :: l, q => by
    have h := encI_app l q
    show (x.1 * 32 + x.2) + 128 * encI (l ++ [q]) = (x.1 * 32 + x.2) + 128 * encI l + (q.1 * 32 + q.2) * 128 ^ (l.length + 1)
    have e : 128 * ((q.1 * 32 + q.2) * 128 ^ l.length) = (q.1 * 32 + q.2) * 128 ^ (l.length + 1) := by
      rw [Nat.pow_succ, Nat.mul_comm 128, Nat.mul_assoc]
    rw [h, Nat.mul_add, e]
    omega
theorem encI_le : ∀ (l : List (Nat × Nat)), (∀ q ∈ l, InOK q) → encI l < 128 ^ l.length
  | [], _ => by simp [encI]
  | x :: l, h => by
    have h1 := encI_le l (fun q hq => h q (List.mem_cons_of_mem _ hq))
    have h2 := h x List.mem_cons_self
    have h3 := lim_le x.1
    unfold InOK at h2
    show (x.1 * 32 + x.2) + 128 * encI l < 128 ^ (l.length + 1)
    rw [Nat.pow_succ]
    omega
theorem encI_inj : ∀ (l m : List (Nat × Nat)), l.length = m.length → (∀ q ∈ l, InOK q) → (∀ q ∈ m, InOK q) → encI l = encI m → l = m
  | [], [], _, _, _, _ => rfl
  | [], _ :: _, h, _, _, _ => by simp at h
  | _ :: _, [], h, _, _, _ => by simp at h
  | x :: l, y :: m, hl, h1, h2, h => by
    have a1 := h1 x List.mem_cons_self
    have a2 := h2 y List.mem_cons_self
    have a3 := lim_le x.1
    have a4 := lim_le y.1
    unfold InOK at a1 a2
    have h' : (x.1 * 32 + x.2) + 128 * encI l = (y.1 * 32 + y.2) + 128 * encI m := h
    have e1 : x.1 = y.1 := by omega
    have e2 : x.2 = y.2 := by omega
    have e3 : encI l = encI m := by omega
    rw [encI_inj l m (by simpa using hl) (fun q hq => h1 q (List.mem_cons_of_mem _ hq)) (fun q hq => h2 q (List.mem_cons_of_mem _ hq)) e3, Prod.ext e1 e2]
theorem encB_le {r : Rul} (h : RulOK r) : encB r < 67108864 := by
  obtain ⟨r1, r2, r3, r4, r5, r6, r7⟩ := h
  unfold encB
  omega
theorem encI_le4 {l : List (Nat × Nat)} (h : ∀ q ∈ l, InOK q) (hl : l.length ≤ 4) : encI l < 268435456 := by
  have h1 := encI_le l h
  have h2 : 128 ^ l.length ≤ 128 ^ 4 := Nat.pow_le_pow_right (by omega) hl
  omega
theorem encR_le {r : Rul} (h : RulOK r) : encR r < 18014398509481984 := by
  have h1 := encB_le h
  have h2 := encI_le4 h.2.2.2.2.2.2 h.2.2.2.2.2.1
  unfold encR
  omega
theorem encR_inj {r s : Rul} (hr : RulOK r) (hs : RulOK s) (h : encR r = encR s) : kd r = kd s ∧ nb r = nb s ∧ sl r = sl s ∧ ip r = ip s := by
  have b1 := encB_le hr
  have b2 := encB_le hs
  obtain ⟨r1, r2, r3, r4, r5, r6, r7⟩ := hr
  obtain ⟨s1, s2, s3, s4, s5, s6, s7⟩ := hs
  unfold encR at h
  have e1 : encB r = encB s := by omega
  have e2 : encI (ip r) = encI (ip s) := by omega
  unfold encB at e1
  have e3 : (ip r).length = (ip s).length := by omega
  exact ⟨by omega, by omega, by omega, encI_inj _ _ e3 r7 s7 e2⟩
/-- the reference's rows hold a rule at a target -/
def RrM (S : St) (t : Nat) (r : Rul) : Prop := S.1 1 t = nI (kd r) ∧ S.1 2 t = nI (nb r) ∧ S.1 3 t = nI (sl r) ∧ S.1 4 t = nI (tm r) ∧ S.1 5 t = nI (ip r).length ∧ ∀ i q, (ip r)[i]? = some q → S.1 6 (4 * t + i) = nI q.1 ∧ S.1 7 (4 * t + i) = nI q.2
theorem ruleOf_l {S : St} {t : Nat} {r : Rul} (ht : t < 16) (hr : RulOK r) (hS : RrM S t r) : ∀ (n i d : Nat), i + d = (ip r).length → d < n → zl2 (m_X7_ruleOf_B49 (nI t) S) n (lN (encB r + 67108864 * encI ((ip r).take i))) (nI i) = some (lN (encR r)) := by
  obtain ⟨h1, h2, h3, h4, h5, h6⟩ := hS
  have hb := encB_le hr
  obtain ⟨r1, r2, r3, r4, r5, r6, r7⟩ := hr
  intro n
  induction n with
  | zero => intro i d _ h; omega
  | succ n ih =>
    intro i d g1 g2
    have hu : zl2 (m_X7_ruleOf_B49 (nI t) S) (n + 1) (lN (encB r + 67108864 * encI ((ip r).take i))) (nI i) = m_X7_ruleOf_B49 (nI t) S (zl2 (m_X7_ruleOf_B49 (nI t) S) n) (lN (encB r + 67108864 * encI ((ip r).take i))) (nI i) := rfl
    rw [hu]
    generalize hG : zl2 (m_X7_ruleOf_B49 (nI t) S) n = G at ih ⊢
    unfold m_X7_ruleOf_B49
    rw [zg_in ht (by omega), ri_n (by omega), h5]
    simp only [le_nI (a := (ip r).length) (b := i) (by omega) (by omega), zb_e, pk_mul, nI_add]
    match d, g1, g2 with
    | 0, g1, g2 =>
      rw [if_pos (by omega), List.take_of_length_le (by omega)]
      rfl
    | d + 1, g1, g2 =>
      have hi : i < (ip r).length := by omega
      obtain ⟨q1, q2⟩ := h6 i _ (List.getElem?_eq_getElem hi)
      have q3 := r7 _ (List.getElem_mem hi)
      have q4 := lim_le (ip r)[i].1
      unfold InOK at q3
      rw [if_neg (by omega), zg_in (by omega) (by omega), zg_in (by omega) (by omega), ri_n (by omega), ri_n (by omega), q1, q2]
      simp only [pk_mul, nI_add]
      rw [nI_l (by omega), wb_shl _ (by omega)]
      have hp : 2 ^ (26 + 7 * i) = 67108864 * 128 ^ i := by
        rw [Nat.pow_add, Nat.pow_mul]
      have ht1 : encI ((ip r).take i) < 128 ^ i := by
        have := encI_le ((ip r).take i) (fun q hq => r7 q (List.mem_of_mem_take hq))
        rwa [List.length_take, Nat.min_eq_left (by omega)] at this
      have ht2 := encI_le4 (l := (ip r).take (i + 1)) (fun q hq => r7 q (List.mem_of_mem_take hq)) (by rw [List.length_take]; omega)
      have ht3 : encI ((ip r).take (i + 1)) = encI ((ip r).take i) + ((ip r)[i].1 * 32 + (ip r)[i].2) * 128 ^ i := by
        rw [List.take_succ, List.getElem?_eq_getElem hi, Option.toList_some, encI_app, List.length_take, Nat.min_eq_left (by omega)]
      have hsum : encB r + 67108864 * encI ((ip r).take i) + ((ip r)[i].1 * 32 + (ip r)[i].2) * 2 ^ (26 + 7 * i) = encB r + 67108864 * encI ((ip r).take (i + 1)) := by
        rw [ht3, hp, Nat.mul_add, ← Nat.add_assoc, Nat.mul_left_comm]
      rw [g_or' (k := 26 + 7 * i) rfl (by rw [hp]; generalize 128 ^ i = z at ht1 ⊢; omega) (by rw [hsum]; omega), hsum, ih (i + 1) d (by omega) (by omega)]
theorem ruleOf_v {S : St} {t : Nat} {r : Rul} (ht : t < 16) (hr : RulOK r) (hS : RrM S t r) : m_X7_ruleOf S (nI t) = some (lN (encR r)) := by
  have hl := ruleOf_l ht hr hS FU 0 (ip r).length (by omega) (FU_gt (by have := hr.2.2.2.2.2.1; omega))
  obtain ⟨h1, h2, h3, h4, h5, h6⟩ := hS
  obtain ⟨r1, r2, r3, r4, r5, r6, r7⟩ := hr
  unfold m_X7_ruleOf
  rw [zg_in ht (by omega), zg_in ht (by omega), zg_in ht (by omega), zg_in ht (by omega), ri_n (by omega), ri_n (by omega), ri_n (by omega), ri_n (by omega), h1, h2, h3, h5, zb_e, nI_l (by omega), nI_l (by omega), nI_l (by omega), nI_l (by omega), lN_1, show (8 : Int64) = lN 8 from rfl, show (8192 : Int64) = lN 8192 from rfl, show (8388608 : Int64) = lN 8388608 from rfl]
  simp only [lN_mul, lN_add]
  simpa [encI, encB] using hl
