/-! what both sides do, without their tables -/
abbrev Ans : Type := Nat ⊕ Nat
def enA : Ans → Int32
  | .inl k => 0 - nI k
  | .inr v => nI v
/-- what is kept of a node: rule, reads, value, from -/
abbrev Kp : Type := Rul × List Rd × Nat × Nat
/-- an entry: rule, configuration, reads, value, from -/
abbrev En : Type := Rul × Nat × List Rd × Nat × Nat
/-- files, rules, poisoned, checked -/
abbrev Ev : Type := (Nat → Option Nat) × (Nat → Option Rul) × (Nat → Bool) × Bool
/-- kept, cache, away, failures, turn, vanish, leaks, done, answers, whys, runs, reads -/
abbrev Gs : Type := (Nat → Option Kp) × List En × (Nat → Bool) × (Nat → Nat) × Nat × Nat × Int32 × (Nat → Nat) × (Nat → Ans) × (Nat → Nat) × Nat × (Nat → List Rd)
def eφ (E : Ev) : Nat → Option Nat := E.1
def eρ (E : Ev) : Nat → Option Rul := E.2.1
def ePo (E : Ev) : Nat → Bool := E.2.2.1
def eCk (E : Ev) : Bool := E.2.2.2
def gK (g : Gs) : Nat → Option Kp := g.1
def gL (g : Gs) : List En := g.2.1
def gAw (g : Gs) : Nat → Bool := g.2.2.1
def gTf (g : Gs) : Nat → Nat := g.2.2.2.1
def gTu (g : Gs) : Nat := g.2.2.2.2.1
def gVn (g : Gs) : Nat := g.2.2.2.2.2.1
def gLk (g : Gs) : Int32 := g.2.2.2.2.2.2.1
def gDn (g : Gs) : Nat → Nat := g.2.2.2.2.2.2.2.1
def gAn (g : Gs) : Nat → Ans := g.2.2.2.2.2.2.2.2.1
def gWy (g : Gs) : Nat → Nat := g.2.2.2.2.2.2.2.2.2.1
def gRn (g : Gs) : Nat := g.2.2.2.2.2.2.2.2.2.2.1
def gRd (g : Gs) : Nat → List Rd := g.2.2.2.2.2.2.2.2.2.2.2
def fu {α : Type} (f : Nat → α) (n : Nat) (v : α) : Nat → α := fun i => if i = n then v else f i
def mkG (a : Nat → Option Kp) (b : List En) (c : Nat → Bool) (d : Nat → Nat) (e f : Nat) (h : Int32) (i : Nat → Nat) (j : Nat → Ans) (k : Nat → Nat) (l : Nat) (m : Nat → List Rd) : Gs := (a, b, c, d, e, f, h, i, j, k, l, m)
def sK (g : Gs) (v : Nat → Option Kp) : Gs := mkG v (gL g) (gAw g) (gTf g) (gTu g) (gVn g) (gLk g) (gDn g) (gAn g) (gWy g) (gRn g) (gRd g)
def sL (g : Gs) (v : List En) : Gs := mkG (gK g) v (gAw g) (gTf g) (gTu g) (gVn g) (gLk g) (gDn g) (gAn g) (gWy g) (gRn g) (gRd g)
def sAw (g : Gs) (v : Nat → Bool) : Gs := mkG (gK g) (gL g) v (gTf g) (gTu g) (gVn g) (gLk g) (gDn g) (gAn g) (gWy g) (gRn g) (gRd g)
def sTf (g : Gs) (v : Nat → Nat) : Gs := mkG (gK g) (gL g) (gAw g) v (gTu g) (gVn g) (gLk g) (gDn g) (gAn g) (gWy g) (gRn g) (gRd g)
def sTu (g : Gs) (v : Nat) : Gs := mkG (gK g) (gL g) (gAw g) (gTf g) v (gVn g) (gLk g) (gDn g) (gAn g) (gWy g) (gRn g) (gRd g)
def sVn (g : Gs) (v : Nat) : Gs := mkG (gK g) (gL g) (gAw g) (gTf g) (gTu g) v (gLk g) (gDn g) (gAn g) (gWy g) (gRn g) (gRd g)
def sLk (g : Gs) (v : Int32) : Gs := mkG (gK g) (gL g) (gAw g) (gTf g) (gTu g) (gVn g) v (gDn g) (gAn g) (gWy g) (gRn g) (gRd g)
def sDn (g : Gs) (n v : Nat) : Gs := mkG (gK g) (gL g) (gAw g) (gTf g) (gTu g) (gVn g) (gLk g) (fu (gDn g) n v) (gAn g) (gWy g) (gRn g) (gRd g)
def sEnd (g : Gs) (n v : Nat) (a : Ans) : Gs := mkG (gK g) (gL g) (gAw g) (gTf g) (gTu g) (gVn g) (gLk g) (fu (gDn g) n v) (fu (gAn g) n a) (gWy g) (gRn g) (gRd g)
def sWy (g : Gs) (n v : Nat) : Gs := mkG (gK g) (gL g) (gAw g) (gTf g) (gTu g) (gVn g) (gLk g) (gDn g) (gAn g) (fu (gWy g) n v) (gRn g) (gRd g)
def sRn (g : Gs) (v : Nat) : Gs := mkG (gK g) (gL g) (gAw g) (gTf g) (gTu g) (gVn g) (gLk g) (gDn g) (gAn g) (gWy g) v (gRd g)
def sRd (g : Gs) (n : Nat) (v : List Rd) : Gs := mkG (gK g) (gL g) (gAw g) (gTf g) (gTu g) (gVn g) (gLk g) (gDn g) (gAn g) (gWy g) (gRn g) (fu (gRd g) n v)
/-- the node that is read -/
def nR (n w y : Nat) : Nat := 2 * y + (if w = 3 then 1 - n % 2 else n % 2)
noncomputable def dcP (p : Prop) : Bool := @decide p (Classical.propDecidable p)
theorem dcP_t {p : Prop} : dcP p = true ↔ p := @decide_eq_true_iff p (Classical.propDecidable p)
theorem dcP_f {p : Prop} : dcP p = false ↔ ¬ p := by
  cases h : dcP p with
  | false => exact ⟨fun _ q => (by rw [dcP_t.mpr q] at h; cases h), fun _ => rfl⟩
  | true => exact ⟨fun q => (by cases q), fun q => absurd (dcP_t.mp h) q⟩
def valEq (a : Ans) (vs : List (Option Nat)) : Bool := match a with
  | .inr v => decide (vs = [some v])
  | .inl _ => false
def acmp (E : Ev) (L : Nat → Gs → Ans × Gs) (n : Nat) : List Rd → Nat → Gs → Nat × Gs
  | [], _, g => (0, g)
  | x :: t, j, g =>
    if x.2.1 = 1 then (if fvals (eφ E) x.2.2.1 = x.2.2.2 then acmp E L n t (j + 1) g else (10 + j, g))
    else if x.2.1 = 0 ∨ x.2.1 = 4 then (if [eφ E x.2.2.1] = x.2.2.2 then acmp E L n t (j + 1) g else (10 + j, g))
    else if valEq (L (nR n x.2.1 x.2.2.1) g).1 x.2.2.2 = true then acmp E L n t (j + 1) (L (nR n x.2.1 x.2.2.1) g).2 else (10 + j, (L (nR n x.2.1 x.2.2.1) g).2)
def ardl (E : Ev) (L : Nat → Gs → Ans × Gs) (n : Nat) : List (Nat × Nat × Nat) → List Rd → Gs → (Nat ⊕ List Rd) × Gs
  | [], acc, g => (.inr acc, g)
  | q :: t, acc, g =>
    if q.2.1 = 1 then ardl E L n t (acc ++ [(q.1, q.2.1, q.2.2, fvals (eφ E) q.2.2)]) g
    else if q.2.1 = 0 then (match eφ E q.2.2 with
      | none => (.inl 3, g)
      | some v => ardl E L n t (acc ++ [(q.1, q.2.1, q.2.2, [some v])]) g)
    else match (L (nR n q.2.1 q.2.2) g).1 with
      | .inl k => (.inl k, (L (nR n q.2.1 q.2.2) g).2)
      | .inr v => ardl E L n t (acc ++ [(q.1, q.2.1, q.2.2, [some v])]) (L (nR n q.2.1 q.2.2) g).2
/-- what a FOLLOW finds -/
def afnd (E : Ev) (r : Rul) (acc : List Rd) : List Rd := if kd r = 3 then acc ++ [(4, 4, sumR acc % 20, [eφ E (sumR acc % 20)])] else acc
def aread (E : Ev) (L : Nat → Gs → Ans × Gs) (n : Nat) (r : Rul) (g : Gs) : (Nat ⊕ List Rd) × Gs :=
  match ardl E L n (expIn r (n % 2)) [] g with
  | (.inl k, g1) => (.inl k, g1)
  | (.inr acc, g1) => (.inr (afnd E r acc), g1)
def sees (r : Rul) (f : Nat) : Bool := (ip r).any (fun q => decide ((q.1 = 0 ∧ q.2 = f) ∨ (q.1 = 1 ∧ q.2 = f / 5)))
def ares (E : Ev) (r : Rul) (rs : List Rd) : Nat :=
  ((if kd r = 1 then sumR rs / 10 else sumR rs) + (if kd r = 4 ∧ sees r (nb r % 20) = true then (eφ E (nb r % 20)).getD 0 else 0) + sl r) % 1000
def aleak (n : Nat) (r : Rul) (g : Gs) : Gs := if kd r = 4 ∧ ¬ sees r (nb r % 20) = true then sLk g (gLk g ||| (nI 1 <<< (nI (n / 2) &&& 31))) else g
noncomputable def sameK (r : Rul) (cf : Nat) (rs : List Rd) (e : En) : Bool := dcP (keyOf e.1 e.2.1 e.2.2.1 = keyOf r cf rs)
def nextM (g : Gs) : Nat × Gs :=
  if gAw g (gTu g) = false then (gTu g, sTu g ((gTu g + 1) % 3))
  else if gAw g ((gTu g + 1) % 3) = false then ((gTu g + 1) % 3, sTu g ((gTu g + 2) % 3))
  else if gAw g ((gTu g + 2) % 3) = false then ((gTu g + 2) % 3, g)
  else (3, g)
/-- tries, the machine on which the action did not fail -/
def arun (t : Nat) : Nat → Gs → Option Nat × Gs
  | 0, g => (none, g)
  | k + 1, g =>
    if 0 < gTf (nextM (sRn g (gRn g + 1))).2 t then arun t k (sTf (nextM (sRn g (gRn g + 1))).2 (fu (gTf (nextM (sRn g (gRn g + 1))).2) t (gTf (nextM (sRn g (gRn g + 1))).2 t - 1)))
    else (some (nextM (sRn g (gRn g + 1))).1, (nextM (sRn g (gRn g + 1))).2)
def aput (m : Nat) (g : Gs) : Gs :=
  sK (sL (sAw g (fu (gAw g) m true)) ((gL g).filter (fun e => decide (¬ e.2.2.2.2 = m))))
    (fun i => match gK g i with
      | none => none
      | some q => if gDn g i = 0 ∧ q.2.2.2 = m then none else some q)
/-- value and from -/
def atell (E : Ev) (m res : Nat) (g : Gs) : (Nat × Nat) × Gs :=
  if eCk E = true ∧ ¬ m = 3 then
    (if ePo E m = true then ((res, 3), aput m (sRn g (gRn g + 1))) else ((res, m), sRn g (gRn g + 1)))
  else if ¬ m = 3 ∧ ePo E m = true then (((res + 1) % 1000, m), g) else ((res, m), g)
def aadd (e : En) (g : Gs) : Gs := sL g (if 100 < ((gL g) ++ [e]).length then ((gL g) ++ [e]).drop 1 else (gL g) ++ [e])
def akeep (n how : Nat) (r : Rul) (rs : List Rd) (v f : Nat) (g : Gs) : Ans × Gs := (.inr v, sEnd (sK g (fu (gK g) n (some (r, rs, v, f)))) n how (.inr v))
def afail (n k : Nat) (g : Gs) : Ans × Gs := (.inl k, sEnd (sK g (fu (gK g) n none)) n 4 (.inl k))
def ago (E : Ev) (n : Nat) (r : Rul) (rs : List Rd) (g : Gs) : Ans × Gs :=
  match arun (n / 2) 3 g with
  | (none, g1) => afail n 5 g1
  | (some m, g1) =>
    akeep n 3 r rs (atell E m (ares E r rs) g1).1.1 (atell E m (ares E r rs) g1).1.2
      (aadd (r, n % 2, rs, (atell E m (ares E r rs) g1).1.1, (atell E m (ares E r rs) g1).1.2) (atell E m (ares E r rs) g1).2)
noncomputable def afet (E : Ev) (n : Nat) (r : Rul) (rs : List Rd) (g : Gs) : Ans × Gs :=
  match (gL g).find? (sameK r (n % 2) rs) with
  | none => ago E n r rs g
  | some e => if 0 < gVn g then ago E n r rs (sL (sVn g (gVn g - 1)) ((gL g).filter (fun e => !sameK r (n % 2) rs e)))
    else akeep n 2 r rs e.2.2.2.1 e.2.2.2.2 g
noncomputable def awhy (E : Ev) (L : Nat → Gs → Ans × Gs) (n : Nat) (g : Gs) : Nat × Gs :=
  match gK g n with
  | none => (1, g)
  | some q => if dcP (eρ E (n / 2) = some q.1) = true then acmp E L n q.2.1 0 g else (2, g)
noncomputable def amake (E : Ev) (L : Nat → Gs → Ans × Gs) (n : Nat) (g : Gs) : Ans × Gs :=
  match eρ E (n / 2) with
  | none => afail n 2 g
  | some r =>
    match aread E L n r g with
    | (.inl k, g1) => afail n k g1
    | (.inr rs, g1) => afet E n r rs (aleak n r (sRd g1 n rs))
noncomputable def abuild (E : Ev) (L : Nat → Gs → Ans × Gs) (n : Nat) (g : Gs) : Ans × Gs :=
  if (awhy E L n g).1 = 0 then
    (match gK g n with
     | none => (.inl 4, g)
     | some q => (.inr q.2.2.1, sEnd (sWy (awhy E L n g).2 n 0) n 1 (.inr q.2.2.1)))
  else amake E L n (sWy (awhy E L n g).2 n (awhy E L n g).1)
def aplain (E : Ev) (L : Nat → Gs → Ans × Gs) (n : Nat) (g : Gs) : Ans × Gs :=
  match eρ E (n / 2) with
  | none => (.inl 2, sEnd g n 4 (.inl 2))
  | some r =>
    match aread E L n r g with
    | (.inl k, g1) => (.inl k, sEnd g1 n 4 (.inl k))
    | (.inr rs, g1) => (.inr (ares E r rs), sEnd (sRd g1 n rs) n 3 (.inr (ares E r rs)))
noncomputable def alook (pl : Bool) (E : Ev) : Nat → Nat → Gs → Ans × Gs
  | 0, _, g => (.inl 4, g)
  | f + 1, n, g =>
    if gDn g n = 5 then (.inl 4, g)
    else if ¬ gDn g n = 0 then (gAn g n, g)
    else if pl = true then aplain E (alook pl E f) n (sDn g n 5)
    else abuild E (alook pl E f) n (sDn g n 5)
