def m_X4_get_J28 (k : Nat) : Option (Int32) :=
  some (blk k)
def m_X4_get (k : Nat) (S : St) (p1 : Int32) (p2 : Int32) : Option (Int32) :=
  if p1 < 0 then
    (
    m_X4_get_J28 k 
    )
  else
    if (mny k) ≤ p1 then
      (
      m_X4_get_J28 k 
      )
    else
      if p2 < 0 then
        (
        m_X4_get_J28 k 
        )
      else
        if (wid k) ≤ p2 then
          (
          m_X4_get_J28 k 
          )
        else
          zb ((p1 * wid k) + p2) fun x1 =>
          if x1 < 0 then
            (
            some (blk k)
            )
          else
            if (Int32.ofNat (rsz k)) ≤ x1 then
              (
              some (blk k)
              )
            else
              zg (inb x1 (rsz k)) <|
              some (ri S k x1)
def rl_X4_get : Room := { frames := 0, cells := 0, slots := 0, locals := 0 }
theorem cdV_X4_get : yX4_get.cls = RX4 ∧ yX4_get.cls ≠ "java/lang/invoke/MethodHandle" ∧ yX4_get.cls ≠ "java/lang/invoke/VarHandle" ∧ (parseMethodDescriptor yX4_get.desc).map (fun d => d.parameters.length) = some 2 := by decide +kernel
def m_X4_set_J28 (S : St) : Option (St) :=
  some S
def m_X4_set (k : Nat) (S : St) (p1 : Int32) (p2 : Int32) (p3 : Int32) : Option (St) :=
  if p1 < 0 then
    (
    m_X4_set_J28 S 
    )
  else
    if (mny k) ≤ p1 then
      (
      m_X4_set_J28 S 
      )
    else
      if p2 < 0 then
        (
        m_X4_set_J28 S 
        )
      else
        if (wid k) ≤ p2 then
          (
          m_X4_set_J28 S 
          )
        else
          zb ((p1 * wid k) + p2) fun x1 =>
          if x1 < 0 then
            (
            some S
            )
          else
            if (Int32.ofNat (rsz k)) ≤ x1 then
              (
              some S
              )
            else
              zg (inb x1 (rsz k)) <|
              zb (wi S k (Int32.toNatClampNeg x1) p3) fun S2 =>
              some S2
def rl_X4_set : Room := { frames := 0, cells := 0, slots := 0, locals := 0 }
theorem cdV_X4_set : yX4_set.cls = RX4 ∧ yX4_set.cls ≠ "java/lang/invoke/MethodHandle" ∧ yX4_set.cls ≠ "java/lang/invoke/VarHandle" ∧ (parseMethodDescriptor yX4_set.desc).map (fun d => d.parameters.length) = some 3 := by decide +kernel
def m_X4_clear_B29 (k : Nat) (t1 : Int32) (rec29 : St → Int32 → Option (St)) (S2 : St) (x3 : Int32) : Option (St) :=
  if x3 < 0 then
    (
    some S2
    )
  else
    if (Int32.ofNat (rsz k)) ≤ x3 then
      (
      some S2
      )
    else
      if (t1 + wid k) ≤ x3 then
        (
        some S2
        )
      else
        zg (inb x3 (rsz k)) <|
        zb (wi S2 k (Int32.toNatClampNeg x3) (blk k)) fun S4 =>
        zb (x3 + (nI 1)) fun x5 =>
        rec29 S4 x5
def m_X4_clear_J26 (k : Nat) (S : St) (t1 : Int32) : Option (St) :=
  zl2 (m_X4_clear_B29 k t1) FU S t1
def m_X4_clear_J21 (k : Nat) (S : St) : Option (St) :=
  m_X4_clear_J26 k S (Int32.ofNat (rsz k))
def m_X4_clear (k : Nat) (S : St) (p1 : Int32) : Option (St) :=
  if p1 < 0 then
    (
    m_X4_clear_J21 k S 
    )
  else
    if (mny k) ≤ p1 then
      (
      m_X4_clear_J21 k S 
      )
    else
      m_X4_clear_J26 k S (p1 * wid k)
def rl_X4_clear : Room := { frames := 0, cells := 0, slots := 0, locals := 0 }
theorem cdV_X4_clear : yX4_clear.cls = RX4 ∧ yX4_clear.cls ≠ "java/lang/invoke/MethodHandle" ∧ yX4_clear.cls ≠ "java/lang/invoke/VarHandle" ∧ (parseMethodDescriptor yX4_clear.desc).map (fun d => d.parameters.length) = some 1 := by decide +kernel
def m_X4_copy_B3 (k : Nat) (k2 : Nat) (p3 : Int32) (p1 : Int32) (rec3 : St → Int32 → Option (St)) (S1 : St) (x2 : Int32) : Option (St) :=
  if (wid k) ≤ x2 then
    (
    some S1
    )
  else
    if (wid k2) ≤ x2 then
      (
      some S1
      )
    else
      zo (m_X4_get k2 S1 p3 x2) fun x3 =>
      zo (m_X4_set k S1 p1 x2 x3) fun S4 =>
      zb (x2 + (nI 1)) fun x5 =>
      rec3 S4 x5
def m_X4_copy (k : Nat) (k2 : Nat) (S : St) (p1 : Int32) (p3 : Int32) : Option (St) :=
  zl2 (m_X4_copy_B3 k k2 p3 p1) FU S (nI 0)
def rl_X4_copy : Room := { frames := 1, cells := 0, slots := 0, locals := 25 }
theorem cdV_X4_copy : yX4_copy.cls = RX4 ∧ yX4_copy.cls ≠ "java/lang/invoke/MethodHandle" ∧ yX4_copy.cls ≠ "java/lang/invoke/VarHandle" ∧ (parseMethodDescriptor yX4_copy.desc).map (fun d => d.parameters.length) = some 3 := by decide +kernel
def m_X4_isSame_B4 (p5 : Int32) (k : Nat) (S : St) (p1 : Int32) (k2 : Nat) (p3 : Int32) (rec4 : Int32 → Option (Int32)) (x1 : Int32) : Option (Int32) :=
  if p5 ≤ x1 then
    (
    some (nI 1)
    )
  else
    zo (m_X4_get k S p1 x1) fun x2 =>
    zo (m_X4_get k2 S p3 x1) fun x3 =>
    if x2 = x3 then
      (
      zb (x1 + (nI 1)) fun x4 =>
      rec4 x4
      )
    else
      some (nI 0)
def m_X4_isSame (k : Nat) (k2 : Nat) (S : St) (p1 : Int32) (p3 : Int32) (p4 : Int32) (p5 : Int32) : Option (Int32) :=
  zl1 (m_X4_isSame_B4 p5 k S p1 k2 p3) FU p4
def rl_X4_isSame : Room := { frames := 1, cells := 0, slots := 0, locals := 24 }
theorem cdV_X4_isSame : yX4_isSame.cls = RX4 ∧ yX4_isSame.cls ≠ "java/lang/invoke/MethodHandle" ∧ yX4_isSame.cls ≠ "java/lang/invoke/VarHandle" ∧ (parseMethodDescriptor yX4_isSame.desc).map (fun d => d.parameters.length) = some 5 := by decide +kernel
def m_X4_howManyFilled_B4 (k : Nat) (S : St) (rec4 : Int32 → Int32 → Option (Int32)) (x1 : Int32) (x2 : Int32) : Option (Int32) :=
  if (mny k) ≤ x2 then
    (
    some x1
    )
  else
    zo (m_X4_get k S x2 (nI 1)) fun x3 =>
    if x3 = (-1) then
      (
      zb (x2 + (nI 1)) fun x4 =>
      rec4 x1 x4
      )
    else
      zb (x1 + (nI 1)) fun x5 =>
      zb (x2 + (nI 1)) fun x6 =>
      rec4 x5 x6
def m_X4_howManyFilled (k : Nat) (S : St) : Option (Int32) :=
  zl2 (m_X4_howManyFilled_B4 k S) FU (nI 0) (nI 0)
def rl_X4_howManyFilled : Room := { frames := 1, cells := 0, slots := 0, locals := 24 }
theorem cdV_X4_howManyFilled : yX4_howManyFilled.cls = RX4 ∧ yX4_howManyFilled.cls ≠ "java/lang/invoke/MethodHandle" ∧ yX4_howManyFilled.cls ≠ "java/lang/invoke/VarHandle" ∧ (parseMethodDescriptor yX4_howManyFilled.desc).map (fun d => d.parameters.length) = some 0 := by decide +kernel
def m_X0_firstToGo_B4 (S : St) (rec4 : Int32 → Int32 → Option (Int32)) (x1 : Int32) (x2 : Int32) : Option (Int32) :=
  if (nI 100) ≤ x2 then
    (
    some x1
    )
  else
    zo (m_X4_get 3 S x2 (nI 52)) fun x3 =>
    zo (m_X4_get 3 S x1 (nI 52)) fun x4 =>
    if x4 ≤ x3 then
      (
      zb (x2 + (nI 1)) fun x5 =>
      rec4 x1 x5
      )
    else
      zb (x2 + (nI 1)) fun x6 =>
      rec4 x2 x6
def m_X0_firstToGo (S : St) : Option (Int32) :=
  zl2 (m_X0_firstToGo_B4 S) FU (nI 0) (nI 1)
def rl_X0_firstToGo : Room := { frames := 1, cells := 0, slots := 0, locals := 24 }
theorem cdV_X0_firstToGo : yX0_firstToGo.cls = RX0 ∧ yX0_firstToGo.cls ≠ "java/lang/invoke/MethodHandle" ∧ yX0_firstToGo.cls ≠ "java/lang/invoke/VarHandle" ∧ (parseMethodDescriptor yX0_firstToGo.desc).map (fun d => d.parameters.length) = some 0 := by decide +kernel
def m_X0_add (k2 : Nat) (S : St) (p2 : Int32) : Option (St) :=
  zo (m_X0_firstToGo S) fun x1 =>
  zo (m_X4_copy 3 k2 S x1 p2) fun S2 =>
  zo (m_X4_set 3 S2 x1 (nI 52) (rs S2 13)) fun S3 =>
  zb (wi S3 13 0 (rs S3 13 + (nI 1))) fun S4 =>
  some S4
def rl_X0_add : Room := { frames := 2, cells := 0, slots := 0, locals := 49 }
theorem cdV_X0_add : yX0_add.cls = RX0 ∧ yX0_add.cls ≠ "java/lang/invoke/MethodHandle" ∧ yX0_add.cls ≠ "java/lang/invoke/VarHandle" ∧ (parseMethodDescriptor yX0_add.desc).map (fun d => d.parameters.length) = some 2 := by decide +kernel
def m_X0_find_B2 (k2 : Nat) (S : St) (p2 : Int32) (rec2 : Int32 → Option (Int32)) (x1 : Int32) : Option (Int32) :=
  if (nI 100) ≤ x1 then
    (
    some (-1)
    )
  else
    zo (m_X4_isSame 3 k2 S x1 p2 (nI 1) (nI 50)) fun x2 =>
    if x2 = 0 then
      (
      zb (x1 + (nI 1)) fun x3 =>
      rec2 x3
      )
    else
      some x1
def m_X0_find (k2 : Nat) (S : St) (p2 : Int32) : Option (Int32) :=
  zl1 (m_X0_find_B2 k2 S p2) FU (nI 0)
def rl_X0_find : Room := { frames := 2, cells := 0, slots := 0, locals := 50 }
theorem cdV_X0_find : yX0_find.cls = RX0 ∧ yX0_find.cls ≠ "java/lang/invoke/MethodHandle" ∧ yX0_find.cls ≠ "java/lang/invoke/VarHandle" ∧ (parseMethodDescriptor yX0_find.desc).map (fun d => d.parameters.length) = some 2 := by decide +kernel
def m_X0_loseAllFrom_B2 (p1 : Int32) (rec2 : St → Int32 → Option (St)) (S1 : St) (x2 : Int32) : Option (St) :=
  if (nI 100) ≤ x2 then
    (
    some S1
    )
  else
    zo (m_X4_get 3 S1 x2 (nI 51)) fun x3 =>
    if x3 = p1 then
      (
      zo (m_X4_clear 3 S1 x2) fun S5 =>
      zb (x2 + (nI 1)) fun x6 =>
      rec2 S5 x6
      )
    else
      zb (x2 + (nI 1)) fun x4 =>
      rec2 S1 x4
def m_X0_loseAllFrom (S : St) (p1 : Int32) : Option (St) :=
  zl2 (m_X0_loseAllFrom_B2 p1) FU S (nI 0)
def rl_X0_loseAllFrom : Room := { frames := 1, cells := 0, slots := 0, locals := 24 }
theorem cdV_X0_loseAllFrom : yX0_loseAllFrom.cls = RX0 ∧ yX0_loseAllFrom.cls ≠ "java/lang/invoke/MethodHandle" ∧ yX0_loseAllFrom.cls ≠ "java/lang/invoke/VarHandle" ∧ (parseMethodDescriptor yX0_loseAllFrom.desc).map (fun d => d.parameters.length) = some 1 := by decide +kernel
def m_X3_isAway (S : St) (p1 : Int32) : Option (Int32) :=
  zo (m_X4_get 4 S p1 (nI 1)) fun x1 =>
  if x1 = (nI 1) then
    (
    some (nI 1)
    )
  else
    some (nI 0)
def rl_X3_isAway : Room := { frames := 1, cells := 0, slots := 0, locals := 24 }
theorem cdV_X3_isAway : yX3_isAway.cls = RX3 ∧ yX3_isAway.cls ≠ "java/lang/invoke/MethodHandle" ∧ yX3_isAway.cls ≠ "java/lang/invoke/VarHandle" ∧ (parseMethodDescriptor yX3_isAway.desc).map (fun d => d.parameters.length) = some 1 := by decide +kernel
def m_X3_takeNext_B2 (rec2 : St → Int32 → Option ((Int32 × St))) (S1 : St) (x2 : Int32) : Option ((Int32 × St)) :=
  if (nI 3) ≤ x2 then
    (
    some ((nI 3), S1)
    )
  else
    zb (rs S1 15) fun x3 =>
    zb (wi S1 15 0 (irm (rs S1 15 + (nI 1)) (nI 3))) fun S4 =>
    zo (m_X3_isAway S4 x3) fun x5 =>
    if x5 = 0 then
      (
      some (x3, S4)
      )
    else
      zb (x2 + (nI 1)) fun x6 =>
      rec2 S4 x6
def m_X3_takeNext (S : St) : Option ((Int32 × St)) :=
  zl2 m_X3_takeNext_B2 FU S (nI 0)
def rl_X3_takeNext : Room := { frames := 2, cells := 0, slots := 0, locals := 45 }
theorem cdV_X3_takeNext : yX3_takeNext.cls = RX3 ∧ yX3_takeNext.cls ≠ "java/lang/invoke/MethodHandle" ∧ yX3_takeNext.cls ≠ "java/lang/invoke/VarHandle" ∧ (parseMethodDescriptor yX3_takeNext.desc).map (fun d => d.parameters.length) = some 0 := by decide +kernel
def m_X3_usesUpFailure (S : St) (p1 : Int32) : Option ((Int32 × St)) :=
  zo (m_X4_get 5 S p1 (nI 0)) fun x1 =>
  if x1 ≤ 0 then
    (
    if x1 ≤ 0 then
      (
      some ((nI 0), S)
      )
    else
      some ((nI 1), S)
    )
  else
    zo (m_X4_set 5 S p1 (nI 0) (x1 - (nI 1))) fun S2 =>
    if x1 ≤ 0 then
      (
      some ((nI 0), S2)
      )
    else
      some ((nI 1), S2)
def rl_X3_usesUpFailure : Room := { frames := 1, cells := 0, slots := 0, locals := 25 }
theorem cdV_X3_usesUpFailure : yX3_usesUpFailure.cls = RX3 ∧ yX3_usesUpFailure.cls ≠ "java/lang/invoke/MethodHandle" ∧ yX3_usesUpFailure.cls ≠ "java/lang/invoke/VarHandle" ∧ (parseMethodDescriptor yX3_usesUpFailure.desc).map (fun d => d.parameters.length) = some 1 := by decide +kernel
def m_X3_tells (S : St) (p1 : Int32) (p2 : Int32) : Option (Int32) :=
  zo (m_X4_get 4 S p1 (nI 0)) fun x1 =>
  if x1 = (nI 1) then
    (
    some (irm (p2 + (nI 1)) (nI 1000))
    )
  else
    some p2
def rl_X3_tells : Room := { frames := 1, cells := 0, slots := 0, locals := 24 }
theorem cdV_X3_tells : yX3_tells.cls = RX3 ∧ yX3_tells.cls ≠ "java/lang/invoke/MethodHandle" ∧ yX3_tells.cls ≠ "java/lang/invoke/VarHandle" ∧ (parseMethodDescriptor yX3_tells.desc).map (fun d => d.parameters.length) = some 2 := by decide +kernel
def m_X3_allAway_B4 (S : St) (rec4 : Int32 → Int32 → Option (Int32)) (x1 : Int32) (x2 : Int32) : Option (Int32) :=
  if (nI 3) ≤ x2 then
    (
    some x1
    )
  else
    zo (m_X3_isAway S x2) fun x3 =>
    if x3 = 0 then
      (
      zb (x2 + (nI 1)) fun x4 =>
      rec4 x1 x4
      )
    else
      zb (x1 ||| ((nI 1) <<< (x2 &&& 31))) fun x5 =>
      zb (x2 + (nI 1)) fun x6 =>
      rec4 x5 x6
def m_X3_allAway (S : St) : Option (Int32) :=
  zl2 (m_X3_allAway_B4 S) FU (nI 0) (nI 0)
def rl_X3_allAway : Room := { frames := 2, cells := 0, slots := 0, locals := 45 }
theorem cdV_X3_allAway : yX3_allAway.cls = RX3 ∧ yX3_allAway.cls ≠ "java/lang/invoke/MethodHandle" ∧ yX3_allAway.cls ≠ "java/lang/invoke/VarHandle" ∧ (parseMethodDescriptor yX3_allAway.desc).map (fun d => d.parameters.length) = some 0 := by decide +kernel
def m_X3_bringBack (S : St) (p1 : Int32) (p2 : Int32) : Option ((Int32 × St)) :=
  zo (m_X3_isAway S p1) fun x1 =>
  zo (m_X4_set 4 S p1 (nI 1) (nI 0)) fun S2 =>
  if p2 = 0 then
    (
    zo (m_X4_set 4 S2 p1 (nI 0) (nI 0)) fun S3 =>
    zg (bz x1) <|
    some (x1, S3)
    )
  else
    zo (m_X4_set 4 S2 p1 (nI 0) (nI 1)) fun S4 =>
    zg (bz x1) <|
    some (x1, S4)
def rl_X3_bringBack : Room := { frames := 2, cells := 0, slots := 0, locals := 45 }
theorem cdV_X3_bringBack : yX3_bringBack.cls = RX3 ∧ yX3_bringBack.cls ≠ "java/lang/invoke/MethodHandle" ∧ yX3_bringBack.cls ≠ "java/lang/invoke/VarHandle" ∧ (parseMethodDescriptor yX3_bringBack.desc).map (fun d => d.parameters.length) = some 2 := by decide +kernel
def m_X3_letFail (S : St) (p1 : Int32) (p2 : Int32) : Option ((Int32 × St)) :=
  zo (m_X4_get 5 S p1 (nI 0)) fun x1 =>
  zo (m_X4_set 5 S p1 (nI 0) p2) fun S2 =>
  some (x1, S2)
def rl_X3_letFail : Room := { frames := 1, cells := 0, slots := 0, locals := 25 }
theorem cdV_X3_letFail : yX3_letFail.cls = RX3 ∧ yX3_letFail.cls ≠ "java/lang/invoke/MethodHandle" ∧ yX3_letFail.cls ≠ "java/lang/invoke/VarHandle" ∧ (parseMethodDescriptor yX3_letFail.desc).map (fun d => d.parameters.length) = some 2 := by decide +kernel
def m_X6_contentOf (k2 : Nat) (S : St) (p1 : Int32) : Option (Int32) :=
  zo (m_X4_get k2 S (p1 / (nI 5)) (irm p1 (nI 5))) fun x1 =>
  some x1
def rl_X6_contentOf : Room := { frames := 1, cells := 0, slots := 0, locals := 24 }
theorem cdS_X6_contentOf : yX6_contentOf.cls ≠ "java/lang/invoke/MethodHandle" ∧ yX6_contentOf.cls ≠ "java/lang/invoke/VarHandle" ∧ (parseMethodDescriptor yX6_contentOf.desc).map (fun d => d.parameters.length) = some 2 := by decide +kernel
def m_X6_nodeOf (S : St) (p0 : Int32) (p1 : Int32) : Option (Int32) :=
  some ((p0 * (nI 2)) + p1)
def rl_X6_nodeOf : Room := { frames := 0, cells := 0, slots := 0, locals := 0 }
theorem cdS_X6_nodeOf : yX6_nodeOf.cls ≠ "java/lang/invoke/MethodHandle" ∧ yX6_nodeOf.cls ≠ "java/lang/invoke/VarHandle" ∧ (parseMethodDescriptor yX6_nodeOf.desc).map (fun d => d.parameters.length) = some 2 := by decide +kernel
def m_X6_nodeRead (S : St) (p0 : Int32) (p1 : Int32) (p2 : Int32) : Option (Int32) :=
  zb (irm p0 (nI 2)) fun x1 =>
  if p1 = (nI 3) then
    (
    zo (m_X6_nodeOf S p2 ((nI 1) - x1)) fun x3 =>
    some x3
    )
  else
    zo (m_X6_nodeOf S p2 x1) fun x2 =>
    some x2
def rl_X6_nodeRead : Room := { frames := 1, cells := 0, slots := 0, locals := 21 }
theorem cdS_X6_nodeRead : yX6_nodeRead.cls ≠ "java/lang/invoke/MethodHandle" ∧ yX6_nodeRead.cls ≠ "java/lang/invoke/VarHandle" ∧ (parseMethodDescriptor yX6_nodeRead.desc).map (fun d => d.parameters.length) = some 3 := by decide +kernel
def m_X6_clearAll_B7 (k2 : Nat) (x1 : Int32) (rec7 : St → Int32 → Option ((Int32 × St))) (S2 : St) (x3 : Int32) : Option ((Int32 × St)) :=
  if (mny k2) ≤ x3 then
    (
    some (x1, S2)
    )
  else
    zo (m_X4_clear k2 S2 x3) fun S4 =>
    zb (x3 + (nI 1)) fun x5 =>
    rec7 S4 x5
def m_X6_clearAll (k2 : Nat) (S : St) : Option ((Int32 × St)) :=
  zo (m_X4_howManyFilled k2 S) fun x1 =>
  zl2 (m_X6_clearAll_B7 k2 x1) FU S (nI 0)
def rl_X6_clearAll : Room := { frames := 2, cells := 0, slots := 0, locals := 46 }
theorem cdS_X6_clearAll : yX6_clearAll.cls ≠ "java/lang/invoke/MethodHandle" ∧ yX6_clearAll.cls ≠ "java/lang/invoke/VarHandle" ∧ (parseMethodDescriptor yX6_clearAll.desc).map (fun d => d.parameters.length) = some 1 := by decide +kernel
def m_X6_isValue (S : St) (p0 : Int32) : Option (Int32) :=
  if p0 < 0 then
    (
    some (nI 0)
    )
  else
    if (nI 1000) ≤ p0 then
      (
      some (nI 0)
      )
    else
      some (nI 1)
def rl_X6_isValue : Room := { frames := 0, cells := 0, slots := 0, locals := 0 }
theorem cdS_X6_isValue : yX6_isValue.cls ≠ "java/lang/invoke/MethodHandle" ∧ yX6_isValue.cls ≠ "java/lang/invoke/VarHandle" ∧ (parseMethodDescriptor yX6_isValue.desc).map (fun d => d.parameters.length) = some 1 := by decide +kernel
def m_X6_howManyOf (S : St) (p0 : Int32) : Option (Int32) :=
  if p0 = 0 then
    (
    some (nI 20)
    )
  else
    if p0 = (nI 1) then
      (
      some (nI 4)
      )
    else
      some (nI 16)
def rl_X6_howManyOf : Room := { frames := 0, cells := 0, slots := 0, locals := 0 }
theorem cdS_X6_howManyOf : yX6_howManyOf.cls ≠ "java/lang/invoke/MethodHandle" ∧ yX6_howManyOf.cls ≠ "java/lang/invoke/VarHandle" ∧ (parseMethodDescriptor yX6_howManyOf.desc).map (fun d => d.parameters.length) = some 1 := by decide +kernel
def m_X6_away (S : St) : Option (Int32) :=
  zo (m_X3_allAway S) fun x1 =>
  some x1
def rl_X6_away : Room := { frames := 3, cells := 0, slots := 0, locals := 67 }
theorem cdV_X6_away : yX6_away.cls = RX6 ∧ yX6_away.cls ≠ "java/lang/invoke/MethodHandle" ∧ yX6_away.cls ≠ "java/lang/invoke/VarHandle" ∧ (parseMethodDescriptor yX6_away.desc).map (fun d => d.parameters.length) = some 0 := by decide +kernel
def m_X6_checks (S : St) (p1 : Int32) : Option ((Int32 × St)) :=
  zb (rs S 14) fun x1 =>
  zg (bz p1) <|
  zb (wi S 14 0 p1) fun S2 =>
  zg (bz x1) <|
  some (x1, S2)
def rl_X6_checks : Room := { frames := 0, cells := 0, slots := 0, locals := 0 }
theorem cdV_X6_checks : yX6_checks.cls = RX6 ∧ yX6_checks.cls ≠ "java/lang/invoke/MethodHandle" ∧ yX6_checks.cls ≠ "java/lang/invoke/VarHandle" ∧ (parseMethodDescriptor yX6_checks.desc).map (fun d => d.parameters.length) = some 1 := by decide +kernel
def m_X6_empty (S : St) : Option ((Int32 × St)) :=
  zo2 (m_X6_clearAll 3 S) fun x1 S2 =>
  some (x1, S2)
def rl_X6_empty : Room := { frames := 3, cells := 0, slots := 0, locals := 68 }
theorem cdV_X6_empty : yX6_empty.cls = RX6 ∧ yX6_empty.cls ≠ "java/lang/invoke/MethodHandle" ∧ yX6_empty.cls ≠ "java/lang/invoke/VarHandle" ∧ (parseMethodDescriptor yX6_empty.desc).map (fun d => d.parameters.length) = some 0 := by decide +kernel
def m_X6_entries (S : St) : Option (Int32) :=
  zo (m_X4_howManyFilled 3 S) fun x1 =>
  some x1
def rl_X6_entries : Room := { frames := 2, cells := 0, slots := 0, locals := 46 }
theorem cdV_X6_entries : yX6_entries.cls = RX6 ∧ yX6_entries.cls ≠ "java/lang/invoke/MethodHandle" ∧ yX6_entries.cls ≠ "java/lang/invoke/VarHandle" ∧ (parseMethodDescriptor yX6_entries.desc).map (fun d => d.parameters.length) = some 0 := by decide +kernel
def m_X6_forget (S : St) : Option ((Int32 × St)) :=
  zo2 (m_X6_clearAll 2 S) fun x1 S2 =>
  some (x1, S2)
def rl_X6_forget : Room := { frames := 3, cells := 0, slots := 0, locals := 68 }
theorem cdV_X6_forget : yX6_forget.cls = RX6 ∧ yX6_forget.cls ≠ "java/lang/invoke/MethodHandle" ∧ yX6_forget.cls ≠ "java/lang/invoke/VarHandle" ∧ (parseMethodDescriptor yX6_forget.desc).map (fun d => d.parameters.length) = some 0 := by decide +kernel
def m_X6_leaks (S : St) : Option (Int32) :=
  some (rs S (17 + 2 * 0))
def rl_X6_leaks : Room := { frames := 0, cells := 0, slots := 0, locals := 0 }
theorem cdV_X6_leaks : yX6_leaks.cls = RX6 ∧ yX6_leaks.cls ≠ "java/lang/invoke/MethodHandle" ∧ yX6_leaks.cls ≠ "java/lang/invoke/VarHandle" ∧ (parseMethodDescriptor yX6_leaks.desc).map (fun d => d.parameters.length) = some 0 := by decide +kernel
def m_X1_has (S : St) (p0 : Int32) (p1 : Int32) : Option (Int32) :=
  if ((p0 >>> (p1 &&& 31)) &&& (nI 1)) = (nI 1) then
    (
    some (nI 1)
    )
  else
    some (nI 0)
def rl_X1_has : Room := { frames := 0, cells := 0, slots := 0, locals := 0 }
theorem cdS_X1_has : yX1_has.cls ≠ "java/lang/invoke/MethodHandle" ∧ yX1_has.cls ≠ "java/lang/invoke/VarHandle" ∧ (parseMethodDescriptor yX1_has.desc).map (fun d => d.parameters.length) = some 2 := by decide +kernel
def m_X1_allFrom_B21 (x3 : Int32) (rec12 : Int32 → Int32 → Option (Int32)) (S : St) (rec21 : Int32 → Int32 → Option (Int32)) (x4 : Int32) (x5 : Int32) : Option (Int32) :=
  if (nI 16) ≤ x5 then
    (
    zb (x3 + (nI 1)) fun x6 =>
    rec12 x4 x6
    )
  else
    zo (m_X1_has S x4 x5) fun x7 =>
    if x7 = 0 then
      (
      zb (x5 + (nI 1)) fun x8 =>
      rec21 x4 x8
      )
    else
      zo (m_X4_get 6 S x5 (nI 0)) fun x9 =>
      zb (x4 ||| x9) fun x10 =>
      zb (x5 + (nI 1)) fun x11 =>
      rec21 x10 x11
def m_X1_allFrom_B12 (S : St) (rec12 : Int32 → Int32 → Option (Int32)) (x2 : Int32) (x3 : Int32) : Option (Int32) :=
  if (nI 16) ≤ x3 then
    (
    some x2
    )
  else
    zl2 (m_X1_allFrom_B21 x3 rec12 S) FU x2 (nI 0)
def m_X1_allFrom (S : St) (p1 : Int32) : Option (Int32) :=
  zo (m_X4_get 6 S p1 (nI 0)) fun x1 =>
  zl2 (m_X1_allFrom_B12 S) FU x1 (nI 0)
def rl_X1_allFrom : Room := { frames := 1, cells := 0, slots := 0, locals := 24 }
theorem cdV_X1_allFrom : yX1_allFrom.cls = RX1 ∧ yX1_allFrom.cls ≠ "java/lang/invoke/MethodHandle" ∧ yX1_allFrom.cls ≠ "java/lang/invoke/VarHandle" ∧ (parseMethodDescriptor yX1_allFrom.desc).map (fun d => d.parameters.length) = some 1 := by decide +kernel
def m_X1_directNeeds_B15 (x1 : Int32) (S : St) (p1 : Int32) (rec15 : Int32 → Int32 → Option (Int32)) (x2 : Int32) (x3 : Int32) : Option (Int32) :=
  if x1 ≤ x3 then
    (
    some x2
    )
  else
    if (nI 4) ≤ x3 then
      (
      some x2
      )
    else
      zo (m_X4_get 1 S p1 (((nI 5) + (x3 * (nI 2))) + (nI 0))) fun x4 =>
      if x4 = (nI 2) then
        (
        zo (m_X4_get 1 S p1 (((nI 5) + (x3 * (nI 2))) + (nI 1))) fun x5 =>
        zb (x2 ||| ((nI 1) <<< (x5 &&& 31))) fun x6 =>
        zb (x3 + (nI 1)) fun x7 =>
        rec15 x6 x7
        )
      else
        if x4 = (nI 3) then
          (
          zo (m_X4_get 1 S p1 (((nI 5) + (x3 * (nI 2))) + (nI 1))) fun x9 =>
          zb (x2 ||| ((nI 1) <<< (x9 &&& 31))) fun x10 =>
          zb (x3 + (nI 1)) fun x11 =>
          rec15 x10 x11
          )
        else
          zb (x3 + (nI 1)) fun x8 =>
          rec15 x2 x8
def m_X1_directNeeds (S : St) (p1 : Int32) : Option (Int32) :=
  zo (m_X4_get 1 S p1 (nI 4)) fun x1 =>
  zl2 (m_X1_directNeeds_B15 x1 S p1) FU (nI 0) (nI 0)
def rl_X1_directNeeds : Room := { frames := 1, cells := 0, slots := 0, locals := 24 }
theorem cdV_X1_directNeeds : yX1_directNeeds.cls = RX1 ∧ yX1_directNeeds.cls ≠ "java/lang/invoke/MethodHandle" ∧ yX1_directNeeds.cls ≠ "java/lang/invoke/VarHandle" ∧ (parseMethodDescriptor yX1_directNeeds.desc).map (fun d => d.parameters.length) = some 1 := by decide +kernel
def m_X1_draw_B2 (rec2 : St → Int32 → Option (St)) (S1 : St) (x2 : Int32) : Option (St) :=
  if (nI 16) ≤ x2 then
    (
    some S1
    )
  else
    zo (m_X1_directNeeds S1 x2) fun x3 =>
    zo (m_X4_set 6 S1 x2 (nI 0) x3) fun S4 =>
    zb (x2 + (nI 1)) fun x5 =>
    rec2 S4 x5
def m_X1_draw (S : St) : Option (St) :=
  zl2 m_X1_draw_B2 FU S (nI 0)
def rl_X1_draw : Room := { frames := 2, cells := 0, slots := 0, locals := 49 }
theorem cdV_X1_draw : yX1_draw.cls = RX1 ∧ yX1_draw.cls ≠ "java/lang/invoke/MethodHandle" ∧ yX1_draw.cls ≠ "java/lang/invoke/VarHandle" ∧ (parseMethodDescriptor yX1_draw.desc).map (fun d => d.parameters.length) = some 0 := by decide +kernel
def m_X1_lowestAt_B2 (S : St) (p1 : Int32) (p2 : Int32) (rec2 : Int32 → Option (Int32)) (x1 : Int32) : Option (Int32) :=
  if (nI 16) ≤ x1 then
    (
    some (-1)
    )
  else
    zo (m_X1_has S p1 x1) fun x2 =>
    if x2 = 0 then
      (
      zb (x1 + (nI 1)) fun x3 =>
      rec2 x3
      )
    else
      zo (m_X4_get 6 S x1 (nI 1)) fun x4 =>
      if x4 = p2 then
        (
        some x1
        )
      else
        zb (x1 + (nI 1)) fun x5 =>
        rec2 x5
def m_X1_lowestAt (S : St) (p1 : Int32) (p2 : Int32) : Option (Int32) :=
  zl1 (m_X1_lowestAt_B2 S p1 p2) FU (nI 0)
def rl_X1_lowestAt : Room := { frames := 1, cells := 0, slots := 0, locals := 24 }
theorem cdV_X1_lowestAt : yX1_lowestAt.cls = RX1 ∧ yX1_lowestAt.cls ≠ "java/lang/invoke/MethodHandle" ∧ yX1_lowestAt.cls ≠ "java/lang/invoke/VarHandle" ∧ (parseMethodDescriptor yX1_lowestAt.desc).map (fun d => d.parameters.length) = some 2 := by decide +kernel
def m_X1_measure_J102 (x9 : Int32) (rec51 : St → Int32 → Int32 → Option (St)) (S13 : St) (x12 : Int32) : Option (St) :=
  zb (x9 + (nI 1)) fun x14 =>
  rec51 S13 x12 x14
def m_X1_measure_B51 (x6 : Int32) (rec39 : St → Int32 → Int32 → Option (St)) (x5 : Int32) (rec51 : St → Int32 → Int32 → Option (St)) (S7 : St) (x8 : Int32) (x9 : Int32) : Option (St) :=
  if (nI 16) ≤ x9 then
    (
    zb (x6 + (nI 1)) fun x10 =>
    rec39 S7 x8 x10
    )
  else
    zo (m_X1_has S7 x5 x9) fun x11 =>
    if x11 = 0 then
      (
      zo (m_X4_get 6 S7 x9 (nI 0)) fun x15 =>
      if (x15 &&& x5) = 0 then
        (
        m_X1_measure_J102 x9 rec51 S7 x8
        )
      else
        zo (m_X4_set 6 S7 x9 (nI 1) x6) fun S16 =>
        zb (x8 ||| ((nI 1) <<< (x9 &&& 31))) fun x17 =>
        m_X1_measure_J102 x9 rec51 S16 x17
      )
    else
      m_X1_measure_J102 x9 rec51 S7 x8
def m_X1_measure_B39 (rec39 : St → Int32 → Int32 → Option (St)) (S4 : St) (x5 : Int32) (x6 : Int32) : Option (St) :=
  if (nI 16) ≤ x6 then
    (
    some S4
    )
  else
    zl3 (m_X1_measure_B51 x6 rec39 x5) FU S4 x5 (nI 0)
def m_X1_measure_J24 (S1 : St) (x2 : Int32) (rec2 : St → Int32 → Option (St)) (t18 : Int32) : Option (St) :=
  zo (m_X4_set 6 S1 x2 (nI 1) t18) fun S19 =>
  zb (x2 + (nI 1)) fun x20 =>
  rec2 S19 x20
def m_X1_measure_B2 (p1 : Int32) (rec2 : St → Int32 → Option (St)) (S1 : St) (x2 : Int32) : Option (St) :=
  if (nI 16) ≤ x2 then
    (
    zb ((nI 1) <<< (p1 &&& 31)) fun x3 =>
    zl3 m_X1_measure_B39 FU S1 x3 (nI 1)
    )
  else
    if x2 = p1 then
      (
      m_X1_measure_J24 S1 x2 rec2 (nI 0)
      )
    else
      m_X1_measure_J24 S1 x2 rec2 (-1)
def m_X1_measure (S : St) (p1 : Int32) : Option (St) :=
  zl2 (m_X1_measure_B2 p1) FU S (nI 0)
def rl_X1_measure : Room := { frames := 1, cells := 0, slots := 0, locals := 25 }
theorem cdV_X1_measure : yX1_measure.cls = RX1 ∧ yX1_measure.cls ≠ "java/lang/invoke/MethodHandle" ∧ yX1_measure.cls ≠ "java/lang/invoke/VarHandle" ∧ (parseMethodDescriptor yX1_measure.desc).map (fun d => d.parameters.length) = some 1 := by decide +kernel
def m_X1_onShortestWay_B36 (p3 : Int32) (S1 : St) (x2 : Int32) (rec36 : Int32 → Int32 → Option ((Int32 × St))) (x3 : Int32) (x4 : Int32) : Option ((Int32 × St)) :=
  if p3 ≤ x4 then
    (
    some (x3, S1)
    )
  else
    if (nI 16) ≤ x4 then
      (
      some (x3, S1)
      )
    else
      zo (m_X4_get 6 S1 x3 (nI 0)) fun x5 =>
      zo (m_X1_lowestAt S1 x5 ((x2 - x4) - (nI 1))) fun x6 =>
      zb (x4 + (nI 1)) fun x7 =>
      rec36 x6 x7
def m_X1_onShortestWay (S : St) (p1 : Int32) (p2 : Int32) (p3 : Int32) : Option ((Int32 × St)) :=
  zo (m_X1_measure S p2) fun S1 =>
  zo (m_X4_get 6 S1 p1 (nI 1)) fun x2 =>
  if x2 = (-1) then
    (
    some ((-1), S1)
    )
  else
    if p3 ≤ x2 then
      (
      zl2 (m_X1_onShortestWay_B36 p3 S1 x2) FU p1 (nI 0)
      )
    else
      some ((-1), S1)
def rl_X1_onShortestWay : Room := { frames := 2, cells := 0, slots := 0, locals := 50 }
theorem cdV_X1_onShortestWay : yX1_onShortestWay.cls = RX1 ∧ yX1_onShortestWay.cls ≠ "java/lang/invoke/MethodHandle" ∧ yX1_onShortestWay.cls ≠ "java/lang/invoke/VarHandle" ∧ (parseMethodDescriptor yX1_onShortestWay.desc).map (fun d => d.parameters.length) = some 3 := by decide +kernel
def m_X1_shortestRing_J78 (x3 : Int32) (rec9 : Int32 → Int32 → Option ((Int32 × St))) (x7 : Int32) : Option ((Int32 × St)) :=
  zb (x3 + (nI 1)) fun x8 =>
  rec9 x7 x8
def m_X1_shortestRing_J78b (x3 : Int32) (rec9 : Int32 → Int32 → Option ((Int32 × St))) (x9 : Int32) : Option ((Int32 × St)) :=
  zb (x3 + (nI 1)) fun x10 =>
  rec9 x9 x10
def m_X1_shortestRing_J78bb (x3 : Int32) (rec9 : Int32 → Int32 → Option ((Int32 × St))) (x11 : Int32) : Option ((Int32 × St)) :=
  zb (x3 + (nI 1)) fun x12 =>
  rec9 x11 x12
def m_X1_shortestRing_B9 (S1 : St) (p1 : Int32) (rec9 : Int32 → Int32 → Option ((Int32 × St))) (x2 : Int32) (x3 : Int32) : Option ((Int32 × St)) :=
  if (nI 16) ≤ x3 then
    (
    some (x2, S1)
    )
  else
    zo (m_X4_get 6 S1 x3 (nI 1)) fun x4 =>
    zo (m_X4_get 6 S1 p1 (nI 0)) fun x5 =>
    zo (m_X1_has S1 x5 x3) fun x6 =>
    if x6 = 0 then
      (
      m_X1_shortestRing_J78 x3 rec9 x2
      )
    else
      if x4 = (-1) then
        (
        m_X1_shortestRing_J78b x3 rec9 x2
        )
      else
        if x2 = (-1) then
          (
          zb (x4 + (nI 1)) fun x13 =>
          m_X1_shortestRing_J78bb x3 rec9 x13
          )
        else
          if x2 ≤ (x4 + (nI 1)) then
            (
            m_X1_shortestRing_J78bb x3 rec9 x2
            )
          else
            zb (x4 + (nI 1)) fun x14 =>
            m_X1_shortestRing_J78bb x3 rec9 x14
def m_X1_shortestRing (S : St) (p1 : Int32) : Option ((Int32 × St)) :=
  zo (m_X1_measure S p1) fun S1 =>
  zl2 (m_X1_shortestRing_B9 S1 p1) FU (-1) (nI 0)
def rl_X1_shortestRing : Room := { frames := 2, cells := 0, slots := 0, locals := 50 }
theorem cdV_X1_shortestRing : yX1_shortestRing.cls = RX1 ∧ yX1_shortestRing.cls ≠ "java/lang/invoke/MethodHandle" ∧ yX1_shortestRing.cls ≠ "java/lang/invoke/VarHandle" ∧ (parseMethodDescriptor yX1_shortestRing.desc).map (fun d => d.parameters.length) = some 1 := by decide +kernel
def m_X1_thatNeed_B4 (S : St) (p1 : Int32) (rec4 : Int32 → Int32 → Option (Int32)) (x1 : Int32) (x2 : Int32) : Option (Int32) :=
  if (nI 16) ≤ x2 then
    (
    some x1
    )
  else
    zo (m_X1_allFrom S x2) fun x3 =>
    if (x3 &&& p1) = 0 then
      (
      zb (x2 + (nI 1)) fun x4 =>
      rec4 x1 x4
      )
    else
      zb (x1 ||| ((nI 1) <<< (x2 &&& 31))) fun x5 =>
      zb (x2 + (nI 1)) fun x6 =>
      rec4 x5 x6
def m_X1_thatNeed (S : St) (p1 : Int32) : Option (Int32) :=
  zl2 (m_X1_thatNeed_B4 S p1) FU (nI 0) (nI 0)
def rl_X1_thatNeed : Room := { frames := 2, cells := 0, slots := 0, locals := 48 }
theorem cdV_X1_thatNeed : yX1_thatNeed.cls = RX1 ∧ yX1_thatNeed.cls ≠ "java/lang/invoke/MethodHandle" ∧ yX1_thatNeed.cls ≠ "java/lang/invoke/VarHandle" ∧ (parseMethodDescriptor yX1_thatNeed.desc).map (fun d => d.parameters.length) = some 1 := by decide +kernel
def m_X1_withFile_J110 (x2 : Int32) (rec4 : Int32 → Int32 → Option (Int32)) (x4 : Int32) : Option (Int32) :=
  zb (x2 + (nI 1)) fun x6 =>
  rec4 x4 x6
def m_X1_withFile_J104 (x5 : Int32) (rec24 : Int32 → Int32 → Option (Int32)) (x9 : Int32) : Option (Int32) :=
  zb (x5 + (nI 1)) fun x10 =>
  rec24 x9 x10
def m_X1_withFile_J98 (x4 : Int32) (x2 : Int32) (x5 : Int32) (rec24 : Int32 → Int32 → Option (Int32)) : Option (Int32) :=
  zb (x4 ||| ((nI 1) <<< (x2 &&& 31))) fun x11 =>
  m_X1_withFile_J104 x5 rec24 x11
def m_X1_withFile_J84 (x7 : Int32) (x8 : Int32) (p1 : Int32) (x4 : Int32) (x2 : Int32) (x5 : Int32) (rec24 : Int32 → Int32 → Option (Int32)) : Option (Int32) :=
  if x7 = (nI 1) then
    (
    if x8 = (p1 / (nI 5)) then
      (
      m_X1_withFile_J98 x4 x2 x5 rec24 
      )
    else
      m_X1_withFile_J104 x5 rec24 x4
    )
  else
    m_X1_withFile_J104 x5 rec24 x4
def m_X1_withFile_B24 (x3 : Int32) (x2 : Int32) (rec4 : Int32 → Int32 → Option (Int32)) (S : St) (p1 : Int32) (rec24 : Int32 → Int32 → Option (Int32)) (x4 : Int32) (x5 : Int32) : Option (Int32) :=
  if x3 ≤ x5 then
    (
    m_X1_withFile_J110 x2 rec4 x4 
    )
  else
    if (nI 4) ≤ x5 then
      (
      m_X1_withFile_J110 x2 rec4 x4 
      )
    else
      zo (m_X4_get 1 S x2 (((nI 5) + (x5 * (nI 2))) + (nI 0))) fun x7 =>
      zo (m_X4_get 1 S x2 (((nI 5) + (x5 * (nI 2))) + (nI 1))) fun x8 =>
      if x7 = 0 then
        (
        if x8 = p1 then
          (
          m_X1_withFile_J98 x4 x2 x5 rec24 
          )
        else
          m_X1_withFile_J84 x7 x8 p1 x4 x2 x5 rec24 
        )
      else
        m_X1_withFile_J84 x7 x8 p1 x4 x2 x5 rec24 
def m_X1_withFile_B4 (S : St) (p1 : Int32) (rec4 : Int32 → Int32 → Option (Int32)) (x1 : Int32) (x2 : Int32) : Option (Int32) :=
  if (nI 16) ≤ x2 then
    (
    some x1
    )
  else
    zo (m_X4_get 1 S x2 (nI 4)) fun x3 =>
    zl2 (m_X1_withFile_B24 x3 x2 rec4 S p1) FU x1 (nI 0)
def m_X1_withFile (S : St) (p1 : Int32) : Option (Int32) :=
  zl2 (m_X1_withFile_B4 S p1) FU (nI 0) (nI 0)
def rl_X1_withFile : Room := { frames := 1, cells := 0, slots := 0, locals := 24 }
theorem cdV_X1_withFile : yX1_withFile.cls = RX1 ∧ yX1_withFile.cls ≠ "java/lang/invoke/MethodHandle" ∧ yX1_withFile.cls ≠ "java/lang/invoke/VarHandle" ∧ (parseMethodDescriptor yX1_withFile.desc).map (fun d => d.parameters.length) = some 1 := by decide +kernel
def m_X2_valueOfRead_B7 (p2 : Int32) (b : Nat) (S : St) (p1 : Int32) (rec7 : Int32 → Int32 → Option (Int32)) (x2 : Int32) (x3 : Int32) : Option (Int32) :=
  if (p2 + (nI 7)) ≤ x3 then
    (
    some (irm x2 (nI 1000))
    )
  else
    zo (m_X4_get (9 + 2 * b) S p1 x3) fun x4 =>
    if x4 = (-1) then
      (
      zb (x2 + (nI 0)) fun x7 =>
      zb (x3 + (nI 1)) fun x8 =>
      rec7 x7 x8
      )
    else
      zb (x2 + x4) fun x5 =>
      zb (x3 + (nI 1)) fun x6 =>
      rec7 x5 x6
def m_X2_valueOfRead (b : Nat) (S : St) (p1 : Int32) (p2 : Int32) : Option (Int32) :=
  zb (p2 + (nI 2)) fun x1 =>
  zl2 (m_X2_valueOfRead_B7 p2 b S p1) FU (nI 0) x1
def rl_X2_valueOfRead : Room := { frames := 1, cells := 0, slots := 0, locals := 24 }
theorem cdV_X2_valueOfRead : yX2_valueOfRead.cls = RX2 ∧ yX2_valueOfRead.cls ≠ "java/lang/invoke/MethodHandle" ∧ yX2_valueOfRead.cls ≠ "java/lang/invoke/VarHandle" ∧ (parseMethodDescriptor yX2_valueOfRead.desc).map (fun d => d.parameters.length) = some 2 := by decide +kernel
def m_X2_sumOfReads_B16 (x1 : Int32) (b : Nat) (S : St) (p1 : Int32) (rec16 : Int32 → Int32 → Option (Int32)) (x2 : Int32) (x3 : Int32) : Option (Int32) :=
  if x1 ≤ x3 then
    (
    some x2
    )
  else
    if (nI 5) ≤ x3 then
      (
      some x2
      )
    else
      zo (m_X2_valueOfRead b S p1 ((nI 15) + (x3 * (nI 7)))) fun x4 =>
      zb (x2 + x4) fun x5 =>
      zb (x3 + (nI 1)) fun x6 =>
      rec16 x5 x6
def m_X2_sumOfReads (b : Nat) (S : St) (p1 : Int32) : Option (Int32) :=
  zo (m_X4_get (9 + 2 * b) S p1 (nI 14)) fun x1 =>
  zl2 (m_X2_sumOfReads_B16 x1 b S p1) FU (nI 0) (nI 0)
def rl_X2_sumOfReads : Room := { frames := 2, cells := 0, slots := 0, locals := 49 }
theorem cdV_X2_sumOfReads : yX2_sumOfReads.cls = RX2 ∧ yX2_sumOfReads.cls ≠ "java/lang/invoke/MethodHandle" ∧ yX2_sumOfReads.cls ≠ "java/lang/invoke/VarHandle" ∧ (parseMethodDescriptor yX2_sumOfReads.desc).map (fun d => d.parameters.length) = some 1 := by decide +kernel
def m_X2_end (b : Nat) (S : St) (p1 : Int32) (p2 : Int32) (p3 : Int32) : Option ((Int32 × St)) :=
  zo (m_X4_set (8 + 2 * b) S p1 (nI 0) p2) fun S1 =>
  zo (m_X4_set (8 + 2 * b) S1 p1 (nI 1) p3) fun S2 =>
  some (p3, S2)
def rl_X2_end : Room := { frames := 1, cells := 0, slots := 0, locals := 25 }
theorem cdV_X2_end : yX2_end.cls = RX2 ∧ yX2_end.cls ≠ "java/lang/invoke/MethodHandle" ∧ yX2_end.cls ≠ "java/lang/invoke/VarHandle" ∧ (parseMethodDescriptor yX2_end.desc).map (fun d => d.parameters.length) = some 3 := by decide +kernel
def m_X2_seesItsFile_J101 (x4 : Int32) (rec26 : Int32 → Option (Int32)) : Option (Int32) :=
  zb (x4 + (nI 1)) fun x7 =>
  rec26 x7
def m_X2_seesItsFile_J85 (x5 : Int32) (x6 : Int32) (x2 : Int32) (x4 : Int32) (rec26 : Int32 → Option (Int32)) : Option (Int32) :=
  if x5 = (nI 1) then
    (
    if x6 = (x2 / (nI 5)) then
      (
      some (nI 1)
      )
    else
      m_X2_seesItsFile_J101 x4 rec26 
    )
  else
    m_X2_seesItsFile_J101 x4 rec26 
def m_X2_seesItsFile_B26 (x3 : Int32) (b : Nat) (S : St) (p1 : Int32) (x2 : Int32) (rec26 : Int32 → Option (Int32)) (x4 : Int32) : Option (Int32) :=
  if x3 ≤ x4 then
    (
    some (nI 0)
    )
  else
    if (nI 4) ≤ x4 then
      (
      some (nI 0)
      )
    else
      zo (m_X4_get (9 + 2 * b) S p1 (((nI 5) + (x4 * (nI 2))) + (nI 0))) fun x5 =>
      zo (m_X4_get (9 + 2 * b) S p1 (((nI 5) + (x4 * (nI 2))) + (nI 1))) fun x6 =>
      if x5 = 0 then
        (
        if x6 = x2 then
          (
          some (nI 1)
          )
        else
          m_X2_seesItsFile_J85 x5 x6 x2 x4 rec26 
        )
      else
        m_X2_seesItsFile_J85 x5 x6 x2 x4 rec26 
def m_X2_seesItsFile (b : Nat) (S : St) (p1 : Int32) : Option (Int32) :=
  zo (m_X4_get (9 + 2 * b) S p1 (nI 2)) fun x1 =>
  zb (irm x1 (nI 20)) fun x2 =>
  zo (m_X4_get (9 + 2 * b) S p1 (nI 4)) fun x3 =>
  zl1 (m_X2_seesItsFile_B26 x3 b S p1 x2) FU (nI 0)
def rl_X2_seesItsFile : Room := { frames := 1, cells := 0, slots := 0, locals := 24 }
theorem cdV_X2_seesItsFile : yX2_seesItsFile.cls = RX2 ∧ yX2_seesItsFile.cls ≠ "java/lang/invoke/MethodHandle" ∧ yX2_seesItsFile.cls ≠ "java/lang/invoke/VarHandle" ∧ (parseMethodDescriptor yX2_seesItsFile.desc).map (fun d => d.parameters.length) = some 1 := by decide +kernel
def m_X2_resultOf (b : Nat) (S : St) (p1 : Int32) : Option (Int32) :=
  zo (m_X2_sumOfReads b S p1) fun x1 =>
  zo (m_X4_get (9 + 2 * b) S p1 (nI 1)) fun x2 =>
  if x2 = (nI 1) then
    (
    zb (x1 / (nI 10)) fun x12 =>
    if x2 = (nI 4) then
      (
      zo (m_X2_seesItsFile b S p1) fun x14 =>
      if x14 = 0 then
        (
        zo (m_X4_get (9 + 2 * b) S p1 (nI 3)) fun x15 =>
        some (irm (x12 + x15) (nI 1000))
        )
      else
        zo (m_X4_get (9 + 2 * b) S p1 (nI 2)) fun x16 =>
        zo (m_X6_contentOf 0 S (irm x16 (nI 20))) fun x17 =>
        if x17 = (-1) then
          (
          zb (x12 + (nI 0)) fun x20 =>
          zo (m_X4_get (9 + 2 * b) S p1 (nI 3)) fun x21 =>
          some (irm (x20 + x21) (nI 1000))
          )
        else
          zb (x12 + x17) fun x18 =>
          zo (m_X4_get (9 + 2 * b) S p1 (nI 3)) fun x19 =>
          some (irm (x18 + x19) (nI 1000))
      )
    else
      zo (m_X4_get (9 + 2 * b) S p1 (nI 3)) fun x13 =>
      some (irm (x12 + x13) (nI 1000))
    )
  else
    if x2 = (nI 4) then
      (
      zo (m_X2_seesItsFile b S p1) fun x4 =>
      if x4 = 0 then
        (
        zo (m_X4_get (9 + 2 * b) S p1 (nI 3)) fun x5 =>
        some (irm (x1 + x5) (nI 1000))
        )
      else
        zo (m_X4_get (9 + 2 * b) S p1 (nI 2)) fun x6 =>
        zo (m_X6_contentOf 0 S (irm x6 (nI 20))) fun x7 =>
        if x7 = (-1) then
          (
          zb (x1 + (nI 0)) fun x10 =>
          zo (m_X4_get (9 + 2 * b) S p1 (nI 3)) fun x11 =>
          some (irm (x10 + x11) (nI 1000))
          )
        else
          zb (x1 + x7) fun x8 =>
          zo (m_X4_get (9 + 2 * b) S p1 (nI 3)) fun x9 =>
          some (irm (x8 + x9) (nI 1000))
      )
    else
      zo (m_X4_get (9 + 2 * b) S p1 (nI 3)) fun x3 =>
      some (irm (x1 + x3) (nI 1000))
def rl_X2_resultOf : Room := { frames := 3, cells := 0, slots := 0, locals := 73 }
theorem cdV_X2_resultOf : yX2_resultOf.cls = RX2 ∧ yX2_resultOf.cls ≠ "java/lang/invoke/MethodHandle" ∧ yX2_resultOf.cls ≠ "java/lang/invoke/VarHandle" ∧ (parseMethodDescriptor yX2_resultOf.desc).map (fun d => d.parameters.length) = some 1 := by decide +kernel
def m_X2_fail (b : Nat) (S : St) (p1 : Int32) (p2 : Int32) : Option ((Int32 × St)) :=
  zo (m_X4_clear 2 S p1) fun S1 =>
  zo2 (m_X2_end b S1 p1 (nI 4) p2) fun x2 S3 =>
  some (x2, S3)
def rl_X2_fail : Room := { frames := 2, cells := 0, slots := 0, locals := 48 }
theorem cdV_X2_fail : yX2_fail.cls = RX2 ∧ yX2_fail.cls ≠ "java/lang/invoke/MethodHandle" ∧ yX2_fail.cls ≠ "java/lang/invoke/VarHandle" ∧ (parseMethodDescriptor yX2_fail.desc).map (fun d => d.parameters.length) = some 2 := by decide +kernel
def m_X2_noteLeak (b : Nat) (S : St) (p1 : Int32) : Option (St) :=
  zo (m_X4_get (9 + 2 * b) S p1 (nI 1)) fun x1 =>
  if x1 = (nI 4) then
    (
    zo (m_X2_seesItsFile b S p1) fun x2 =>
    if x2 = 0 then
      (
      zb (wi S (17 + 2 * b) 0 (rs S (17 + 2 * b) ||| ((nI 1) <<< ((p1 / (nI 2)) &&& 31)))) fun S3 =>
      some S3
      )
    else
      some S
    )
  else
    some S
def rl_X2_noteLeak : Room := { frames := 2, cells := 0, slots := 0, locals := 50 }
theorem cdV_X2_noteLeak : yX2_noteLeak.cls = RX2 ∧ yX2_noteLeak.cls ≠ "java/lang/invoke/MethodHandle" ∧ yX2_noteLeak.cls ≠ "java/lang/invoke/VarHandle" ∧ (parseMethodDescriptor yX2_noteLeak.desc).map (fun d => d.parameters.length) = some 1 := by decide +kernel
def m_X2_isFetched (b : Nat) (S : St) (p1 : Int32) : Option ((Int32 × St)) :=
  zo (m_X0_find (9 + 2 * b) S p1) fun x1 =>
  if x1 = (-1) then
    (
    some ((nI 0), S)
    )
  else
    if (rs S 12) ≤ 0 then
      (
      zo (m_X4_get 3 S x1 (nI 50)) fun x2 =>
      zo (m_X4_set (9 + 2 * b) S p1 (nI 50) x2) fun S3 =>
      zo (m_X4_get 3 S3 x1 (nI 51)) fun x4 =>
      zo (m_X4_set (9 + 2 * b) S3 p1 (nI 51) x4) fun S5 =>
      some ((nI 1), S5)
      )
    else
      zb (wi S 12 0 (rs S 12 - (nI 1))) fun S6 =>
      zo (m_X4_clear 3 S6 x1) fun S7 =>
      some ((nI 0), S7)
def rl_X2_isFetched : Room := { frames := 3, cells := 0, slots := 0, locals := 73 }
theorem cdV_X2_isFetched : yX2_isFetched.cls = RX2 ∧ yX2_isFetched.cls ≠ "java/lang/invoke/MethodHandle" ∧ yX2_isFetched.cls ≠ "java/lang/invoke/VarHandle" ∧ (parseMethodDescriptor yX2_isFetched.desc).map (fun d => d.parameters.length) = some 1 := by decide +kernel
def m_X2_keep (b : Nat) (S : St) (p1 : Int32) (p2 : Int32) : Option ((Int32 × St)) :=
  zo (m_X4_copy 2 (9 + 2 * b) S p1 p1) fun S1 =>
  zo (m_X4_get 2 S1 p1 (nI 50)) fun x2 =>
  zo2 (m_X2_end b S1 p1 p2 x2) fun x3 S4 =>
  some (x3, S4)
def rl_X2_keep : Room := { frames := 2, cells := 0, slots := 0, locals := 49 }
theorem cdV_X2_keep : yX2_keep.cls = RX2 ∧ yX2_keep.cls ≠ "java/lang/invoke/MethodHandle" ∧ yX2_keep.cls ≠ "java/lang/invoke/VarHandle" ∧ (parseMethodDescriptor yX2_keep.desc).map (fun d => d.parameters.length) = some 2 := by decide +kernel
def m_X2_runUntilGood_B2 (b : Nat) (p1 : Int32) (rec2 : St → Int32 → Option ((Int32 × St))) (S1 : St) (x2 : Int32) : Option ((Int32 × St)) :=
  if (nI 3) ≤ x2 then
    (
    some ((-1), S1)
    )
  else
    zo2 (m_X3_takeNext S1) fun x3 S4 =>
    zb (wi S4 (16 + 2 * b) 0 (rs S4 (16 + 2 * b) + (nI 1))) fun S5 =>
    zo2 (m_X3_usesUpFailure S5 (p1 / (nI 2))) fun x6 S7 =>
    if x6 = 0 then
      (
      some (x3, S7)
      )
    else
      zb (x2 + (nI 1)) fun x8 =>
      rec2 S7 x8
def m_X2_runUntilGood (b : Nat) (S : St) (p1 : Int32) : Option ((Int32 × St)) :=
  zl2 (m_X2_runUntilGood_B2 b p1) FU S (nI 0)
def rl_X2_runUntilGood : Room := { frames := 3, cells := 0, slots := 0, locals := 67 }
theorem cdV_X2_runUntilGood : yX2_runUntilGood.cls = RX2 ∧ yX2_runUntilGood.cls ≠ "java/lang/invoke/MethodHandle" ∧ yX2_runUntilGood.cls ≠ "java/lang/invoke/VarHandle" ∧ (parseMethodDescriptor yX2_runUntilGood.desc).map (fun d => d.parameters.length) = some 1 := by decide +kernel
def m_X2_putAway_J63 (x4 : Int32) (rec23 : St → Int32 → Option (St)) (S6 : St) : Option (St) :=
  zb (x4 + (nI 1)) fun x7 =>
  rec23 S6 x7
def m_X2_putAway_B23 (b : Nat) (p1 : Int32) (rec23 : St → Int32 → Option (St)) (S3 : St) (x4 : Int32) : Option (St) :=
  if (nI 32) ≤ x4 then
    (
    some S3
    )
  else
    zo (m_X4_get (8 + 2 * b) S3 x4 (nI 0)) fun x5 =>
    if x5 = 0 then
      (
      zo (m_X4_get 2 S3 x4 (nI 51)) fun x8 =>
      if x8 = p1 then
        (
        zo (m_X4_clear 2 S3 x4) fun S9 =>
        m_X2_putAway_J63 x4 rec23 S9
        )
      else
        m_X2_putAway_J63 x4 rec23 S3
      )
    else
      m_X2_putAway_J63 x4 rec23 S3
def m_X2_putAway (b : Nat) (S : St) (p1 : Int32) : Option (St) :=
  zo (m_X4_set 4 S p1 (nI 1) (nI 1)) fun S1 =>
  zo (m_X0_loseAllFrom S1 p1) fun S2 =>
  zl2 (m_X2_putAway_B23 b p1) FU S2 (nI 0)
def rl_X2_putAway : Room := { frames := 2, cells := 0, slots := 0, locals := 46 }
theorem cdV_X2_putAway : yX2_putAway.cls = RX2 ∧ yX2_putAway.cls ≠ "java/lang/invoke/MethodHandle" ∧ yX2_putAway.cls ≠ "java/lang/invoke/VarHandle" ∧ (parseMethodDescriptor yX2_putAway.desc).map (fun d => d.parameters.length) = some 1 := by decide +kernel
def m_X2_tell_J30 (b : Nat) (S : St) (p1 : Int32) (x1 : Int32) (p2 : Int32) : Option (St) :=
  zo (m_X4_set (9 + 2 * b) S p1 (nI 50) x1) fun S2 =>
  zo (m_X4_set (9 + 2 * b) S2 p1 (nI 51) p2) fun S3 =>
  some S3
def m_X2_tell (b : Nat) (S : St) (p1 : Int32) (p2 : Int32) (p3 : Int32) : Option (St) :=
  zo (m_X3_tells S p2 p3) fun x1 =>
  if (rs S 14) = 0 then
    (
    m_X2_tell_J30 b S p1 x1 p2 
    )
  else
    if p2 = (nI 3) then
      (
      m_X2_tell_J30 b S p1 x1 p2 
      )
    else
      zb (wi S (16 + 2 * b) 0 (rs S (16 + 2 * b) + (nI 1))) fun S4 =>
      if x1 = p3 then
        (
        zo (m_X4_set (9 + 2 * b) S4 p1 (nI 50) x1) fun S5 =>
        zo (m_X4_set (9 + 2 * b) S5 p1 (nI 51) p2) fun S6 =>
        some S6
        )
      else
        zo (m_X2_putAway b S4 p2) fun S7 =>
        zo (m_X4_set (9 + 2 * b) S7 p1 (nI 50) p3) fun S8 =>
        zo (m_X4_set (9 + 2 * b) S8 p1 (nI 51) (nI 3)) fun S9 =>
        some S9
def rl_X2_tell : Room := { frames := 3, cells := 0, slots := 0, locals := 68 }
theorem cdV_X2_tell : yX2_tell.cls = RX2 ∧ yX2_tell.cls ≠ "java/lang/invoke/MethodHandle" ∧ yX2_tell.cls ≠ "java/lang/invoke/VarHandle" ∧ (parseMethodDescriptor yX2_tell.desc).map (fun d => d.parameters.length) = some 3 := by decide +kernel
def m_X2_howMany_B4 (b : Nat) (S : St) (p1 : Int32) (rec4 : Int32 → Int32 → Option (Int32)) (x1 : Int32) (x2 : Int32) : Option (Int32) :=
  if (nI 32) ≤ x2 then
    (
    some x1
    )
  else
    zo (m_X4_get (8 + 2 * b) S x2 (nI 0)) fun x3 =>
    if x3 = p1 then
      (
      zb (x1 + (nI 1)) fun x5 =>
      zb (x2 + (nI 1)) fun x6 =>
      rec4 x5 x6
      )
    else
      zb (x2 + (nI 1)) fun x4 =>
      rec4 x1 x4
def m_X2_howMany (b : Nat) (S : St) (p1 : Int32) : Option (Int32) :=
  zl2 (m_X2_howMany_B4 b S p1) FU (nI 0) (nI 0)
def rl_X2_howMany : Room := { frames := 1, cells := 0, slots := 0, locals := 24 }
theorem cdV_X2_howMany : yX2_howMany.cls = RX2 ∧ yX2_howMany.cls ≠ "java/lang/invoke/MethodHandle" ∧ yX2_howMany.cls ≠ "java/lang/invoke/VarHandle" ∧ (parseMethodDescriptor yX2_howMany.desc).map (fun d => d.parameters.length) = some 1 := by decide +kernel
def m_X2_loseKeptFromAway_B2 (rec2 : St → Int32 → Option (St)) (S1 : St) (x2 : Int32) : Option (St) :=
  if (nI 32) ≤ x2 then
    (
    some S1
    )
  else
    zo (m_X4_get 2 S1 x2 (nI 51)) fun x3 =>
    zo (m_X3_isAway S1 x3) fun x4 =>
    if x4 = 0 then
      (
      zb (x2 + (nI 1)) fun x5 =>
      rec2 S1 x5
      )
    else
      zo (m_X4_clear 2 S1 x2) fun S6 =>
      zb (x2 + (nI 1)) fun x7 =>
      rec2 S6 x7
def m_X2_loseKeptFromAway (b : Nat) (S : St) : Option (St) :=
  zl2 m_X2_loseKeptFromAway_B2 FU S (nI 0)
def rl_X2_loseKeptFromAway : Room := { frames := 2, cells := 0, slots := 0, locals := 45 }
theorem cdV_X2_loseKeptFromAway : yX2_loseKeptFromAway.cls = RX2 ∧ yX2_loseKeptFromAway.cls ≠ "java/lang/invoke/MethodHandle" ∧ yX2_loseKeptFromAway.cls ≠ "java/lang/invoke/VarHandle" ∧ (parseMethodDescriptor yX2_loseKeptFromAway.desc).map (fun d => d.parameters.length) = some 0 := by decide +kernel
def m_X2_valueNow (LK : St → Int32 → Int32 → Option (Int32 × St)) (b : Nat) (S : St) (p1 : Int32) (p2 : Int32) (p3 : Int32) (p4 : Int32) : Option ((Int32 × St)) :=
  if p2 = 0 then
    (
    zo (m_X6_contentOf 0 S p3) fun x1 =>
    if x1 = (-1) then
      (
      if p2 = 0 then
        (
        some ((-3), S)
        )
      else
        some (x1, S)
      )
    else
      some (x1, S)
    )
  else
    if p2 = (nI 4) then
      (
      zo (m_X6_contentOf 0 S p3) fun x5 =>
      if x5 = (-1) then
        (
        if p2 = 0 then
          (
          some ((-3), S)
          )
        else
          some (x5, S)
        )
      else
        some (x5, S)
      )
    else
      zo (m_X6_nodeRead S p1 p2 p3) fun x2 =>
      zo2 (LK S x2 (p4 + (nI 1))) fun x3 S4 =>
      some (x3, S4)
def rl_X2_valueNow (rf rl : Nat) : Room := { frames := rf + 2, cells := 0, slots := 0, locals := rl + 45 }
theorem cdV_X2_valueNow : yX2_valueNow.cls = RX2 ∧ yX2_valueNow.cls ≠ "java/lang/invoke/MethodHandle" ∧ yX2_valueNow.cls ≠ "java/lang/invoke/VarHandle" ∧ (parseMethodDescriptor yX2_valueNow.desc).map (fun d => d.parameters.length) = some 4 := by decide +kernel
def m_X2_isAsItWas_B65 (S : St) (x2 : Int32) (p1 : Int32) (p2 : Int32) (rec65 : Int32 → Option ((Int32 × St))) (x3 : Int32) : Option ((Int32 × St)) :=
  if (nI 5) ≤ x3 then
    (
    some ((nI 1), S)
    )
  else
    zo (m_X4_get 0 S x2 x3) fun x4 =>
    zo (m_X4_get 2 S p1 ((p2 + (nI 2)) + x3)) fun x5 =>
    if x4 = x5 then
      (
      zb (x3 + (nI 1)) fun x6 =>
      rec65 x6
      )
    else
      some ((nI 0), S)
def m_X2_isAsItWas (LK : St → Int32 → Int32 → Option (Int32 × St)) (b : Nat) (S : St) (p1 : Int32) (p2 : Int32) (p3 : Int32) : Option ((Int32 × St)) :=
  zo (m_X4_get 2 S p1 (p2 + (nI 0))) fun x1 =>
  zo (m_X4_get 2 S p1 (p2 + (nI 1))) fun x2 =>
  if x1 = (nI 1) then
    (
    zl1 (m_X2_isAsItWas_B65 S x2 p1 p2) FU (nI 0)
    )
  else
    zo2 (m_X2_valueNow LK b S p1 x1 x2 p3) fun x7 S8 =>
    zo (m_X4_get 2 S8 p1 (p2 + (nI 2))) fun x9 =>
    if x7 = x9 then
      (
      some ((nI 1), S8)
      )
    else
      some ((nI 0), S8)
def rl_X2_isAsItWas (rf rl : Nat) : Room := { frames := rf + 3, cells := 0, slots := 0, locals := rl + 70 }
theorem cdV_X2_isAsItWas : yX2_isAsItWas.cls = RX2 ∧ yX2_isAsItWas.cls ≠ "java/lang/invoke/MethodHandle" ∧ yX2_isAsItWas.cls ≠ "java/lang/invoke/VarHandle" ∧ (parseMethodDescriptor yX2_isAsItWas.desc).map (fun d => d.parameters.length) = some 3 := by decide +kernel
def m_X2_whyNotReused_B52 (x3 : Int32) (LK : St → Int32 → Int32 → Option (Int32 × St)) (b : Nat) (p1 : Int32) (p2 : Int32) (rec52 : St → Int32 → Option ((Int32 × St))) (S4 : St) (x5 : Int32) : Option ((Int32 × St)) :=
  if x3 ≤ x5 then
    (
    some ((nI 0), S4)
    )
  else
    if (nI 5) ≤ x5 then
      (
      some ((nI 0), S4)
      )
    else
      zo2 (m_X2_isAsItWas LK b S4 p1 ((nI 15) + (x5 * (nI 7))) p2) fun x6 S7 =>
      if x6 = 0 then
        (
        some (((nI 10) + x5), S7)
        )
      else
        zb (x5 + (nI 1)) fun x8 =>
        rec52 S7 x8
def m_X2_whyNotReused (LK : St → Int32 → Int32 → Option (Int32 × St)) (b : Nat) (S : St) (p1 : Int32) (p2 : Int32) : Option ((Int32 × St)) :=
  zo (m_X4_get 2 S p1 (nI 1)) fun x1 =>
  if x1 = (-1) then
    (
    some ((nI 1), S)
    )
  else
    zo (m_X4_isSame 2 1 S p1 (p1 / (nI 2)) (nI 0) (nI 13)) fun x2 =>
    if x2 = 0 then
      (
      some ((nI 2), S)
      )
    else
      zo (m_X4_get 2 S p1 (nI 14)) fun x3 =>
      zl2 (m_X2_whyNotReused_B52 x3 LK b p1 p2) FU S (nI 0)
def rl_X2_whyNotReused (rf rl : Nat) : Room := { frames := rf + 4, cells := 0, slots := 0, locals := rl + 96 }
theorem cdV_X2_whyNotReused : yX2_whyNotReused.cls = RX2 ∧ yX2_whyNotReused.cls ≠ "java/lang/invoke/MethodHandle" ∧ yX2_whyNotReused.cls ≠ "java/lang/invoke/VarHandle" ∧ (parseMethodDescriptor yX2_whyNotReused.desc).map (fun d => d.parameters.length) = some 2 := by decide +kernel
def m_X2_read_B108 (p3 : Int32) (b : Nat) (p1 : Int32) (x2 : Int32) (rec108 : St → Int32 → Option ((Int32 × St))) (S6 : St) (x7 : Int32) : Option ((Int32 × St)) :=
  if (nI 5) ≤ x7 then
    (
    some ((nI 0), S6)
    )
  else
    zo (m_X4_get 0 S6 p3 x7) fun x8 =>
    zo (m_X4_set (9 + 2 * b) S6 p1 ((x2 + (nI 2)) + x7) x8) fun S9 =>
    zb (x7 + (nI 1)) fun x10 =>
    rec108 S9 x10
def m_X2_read (LK : St → Int32 → Int32 → Option (Int32 × St)) (b : Nat) (S : St) (p1 : Int32) (p2 : Int32) (p3 : Int32) (p4 : Int32) : Option ((Int32 × St)) :=
  zo (m_X4_get (9 + 2 * b) S p1 (nI 14)) fun x1 =>
  zb ((nI 15) + (x1 * (nI 7))) fun x2 =>
  zo (m_X4_set (9 + 2 * b) S p1 (nI 14) (x1 + (nI 1))) fun S3 =>
  zo (m_X4_set (9 + 2 * b) S3 p1 (x2 + (nI 0)) p2) fun S4 =>
  zo (m_X4_set (9 + 2 * b) S4 p1 (x2 + (nI 1)) p3) fun S5 =>
  if p2 = (nI 1) then
    (
    zl2 (m_X2_read_B108 p3 b p1 x2) FU S5 (nI 0)
    )
  else
    zo2 (m_X2_valueNow LK b S5 p1 p2 p3 p4) fun x11 S12 =>
    zo (m_X4_set (9 + 2 * b) S12 p1 (x2 + (nI 2)) x11) fun S13 =>
    if (-1) ≤ x11 then
      (
      some ((nI 0), S13)
      )
    else
      some (x11, S13)
def rl_X2_read (rf rl : Nat) : Room := { frames := rf + 3, cells := 0, slots := 0, locals := rl + 70 }
theorem cdV_X2_read : yX2_read.cls = RX2 ∧ yX2_read.cls ≠ "java/lang/invoke/MethodHandle" ∧ yX2_read.cls ≠ "java/lang/invoke/VarHandle" ∧ (parseMethodDescriptor yX2_read.desc).map (fun d => d.parameters.length) = some 4 := by decide +kernel
def m_X2_readInputs_B122 (t9 : Int32) (x3 : Int32) (b : Nat) (p1 : Int32) (LK : St → Int32 → Int32 → Option (Int32 × St)) (p2 : Int32) (rec122 : St → Int32 → Option ((Int32 × St))) (S10 : St) (x11 : Int32) : Option ((Int32 × St)) :=
  if t9 ≤ x11 then
    (
    if x3 = (nI 3) then
      (
      zo (m_X2_sumOfReads b S10 p1) fun x12 =>
      zo2 (m_X2_read LK b S10 p1 (nI 4) (irm x12 (nI 20)) p2) fun x13 S14 =>
      some (x13, S14)
      )
    else
      some ((nI 0), S10)
    )
  else
    if (nI 4) ≤ x11 then
      (
      if x3 = (nI 3) then
        (
        zo (m_X2_sumOfReads b S10 p1) fun x15 =>
        zo2 (m_X2_read LK b S10 p1 (nI 4) (irm x15 (nI 20)) p2) fun x16 S17 =>
        some (x16, S17)
        )
      else
        some ((nI 0), S10)
      )
    else
      zb ((nI 5) + (x11 * (nI 2))) fun x18 =>
      zo (m_X4_get (9 + 2 * b) S10 p1 (x18 + (nI 0))) fun x19 =>
      zo (m_X4_get (9 + 2 * b) S10 p1 (x18 + (nI 1))) fun x20 =>
      zo2 (m_X2_read LK b S10 p1 x19 x20 p2) fun x21 S22 =>
      if 0 ≤ x21 then
        (
        zb (x11 + (nI 1)) fun x23 =>
        rec122 S22 x23
        )
      else
        some (x21, S22)
def m_X2_readInputs_J116 (x3 : Int32) (b : Nat) (p1 : Int32) (LK : St → Int32 → Int32 → Option (Int32 × St)) (p2 : Int32) (S6 : St) (t8 : Int32) (t9 : Int32) : Option ((Int32 × St)) :=
  zl2 (m_X2_readInputs_B122 t9 x3 b p1 LK p2) FU S6 t8
def m_X2_readInputs_J114 (x3 : Int32) (b : Nat) (p1 : Int32) (LK : St → Int32 → Int32 → Option (Int32 × St)) (p2 : Int32) (S6 : St) (t8 : Int32) (x7 : Int32) : Option ((Int32 × St)) :=
  m_X2_readInputs_J116 x3 b p1 LK p2 S6 t8 x7
def m_X2_readInputs_J91 (x3 : Int32) (x7 : Int32) (b : Nat) (p1 : Int32) (LK : St → Int32 → Int32 → Option (Int32 × St)) (p2 : Int32) (S6 : St) (t8 : Int32) : Option ((Int32 × St)) :=
  if x3 = (nI 2) then
    (
    if x7 ≤ (t8 + (nI 1)) then
      (
      m_X2_readInputs_J114 x3 b p1 LK p2 S6 t8 x7 
      )
    else
      m_X2_readInputs_J116 x3 b p1 LK p2 S6 t8 (t8 + (nI 1))
    )
  else
    m_X2_readInputs_J114 x3 b p1 LK p2 S6 t8 x7 
def m_X2_readInputs (LK : St → Int32 → Int32 → Option (Int32 × St)) (b : Nat) (S : St) (p1 : Int32) (p2 : Int32) : Option ((Int32 × St)) :=
  zo (m_X4_clear (9 + 2 * b) S p1) fun S1 =>
  zo (m_X4_copy (9 + 2 * b) 1 S1 p1 (p1 / (nI 2))) fun S2 =>
  zo (m_X4_get (9 + 2 * b) S2 p1 (nI 1)) fun x3 =>
  if x3 = (-1) then
    (
    some ((-2), S2)
    )
  else
    zb (irm p1 (nI 2)) fun x4 =>
    zo (m_X4_set (9 + 2 * b) S2 p1 (nI 13) x4) fun S5 =>
    zo (m_X4_set (9 + 2 * b) S5 p1 (nI 14) (nI 0)) fun S6 =>
    zo (m_X4_get (9 + 2 * b) S6 p1 (nI 4)) fun x7 =>
    if x3 = (nI 2) then
      (
      m_X2_readInputs_J91 x3 x7 b p1 LK p2 S6 x4
      )
    else
      m_X2_readInputs_J91 x3 x7 b p1 LK p2 S6 (nI 0)
def rl_X2_readInputs (rf rl : Nat) : Room := { frames := rf + 4, cells := 0, slots := 0, locals := rl + 97 }
theorem cdV_X2_readInputs : yX2_readInputs.cls = RX2 ∧ yX2_readInputs.cls ≠ "java/lang/invoke/MethodHandle" ∧ yX2_readInputs.cls ≠ "java/lang/invoke/VarHandle" ∧ (parseMethodDescriptor yX2_readInputs.desc).map (fun d => d.parameters.length) = some 2 := by decide +kernel
def m_X2_answerPlainly (LK : St → Int32 → Int32 → Option (Int32 × St)) (b : Nat) (S : St) (p1 : Int32) (p2 : Int32) : Option ((Int32 × St)) :=
  zo2 (m_X2_readInputs LK b S p1 p2) fun x1 S2 =>
  if 0 ≤ x1 then
    (
    zo (m_X2_resultOf b S2 p1) fun x3 =>
    zo2 (m_X2_end b S2 p1 (nI 3) x3) fun x4 S5 =>
    some (x4, S5)
    )
  else
    zo2 (m_X2_end b S2 p1 (nI 4) x1) fun x6 S7 =>
    some (x6, S7)
def rl_X2_answerPlainly (rf rl : Nat) : Room := { frames := rf + 5, cells := 0, slots := 0, locals := rl + 127 }
theorem cdV_X2_answerPlainly : yX2_answerPlainly.cls = RX2 ∧ yX2_answerPlainly.cls ≠ "java/lang/invoke/MethodHandle" ∧ yX2_answerPlainly.cls ≠ "java/lang/invoke/VarHandle" ∧ (parseMethodDescriptor yX2_answerPlainly.desc).map (fun d => d.parameters.length) = some 2 := by decide +kernel
def m_X2_answerByKept (LK : St → Int32 → Int32 → Option (Int32 × St)) (b : Nat) (S : St) (p1 : Int32) (p2 : Int32) : Option ((Int32 × St)) :=
  zo2 (m_X2_whyNotReused LK b S p1 p2) fun x1 S2 =>
  zo (m_X4_set (8 + 2 * b) S2 p1 (nI 2) x1) fun S3 =>
  if x1 = 0 then
    (
    zo (m_X4_get 2 S3 p1 (nI 50)) fun x22 =>
    zo2 (m_X2_end b S3 p1 (nI 1) x22) fun x23 S24 =>
    some (x23, S24)
    )
  else
    zo2 (m_X2_readInputs LK b S3 p1 p2) fun x4 S5 =>
    if 0 ≤ x4 then
      (
      zo (m_X2_noteLeak b S5 p1) fun S6 =>
      zo2 (m_X2_isFetched b S6 p1) fun x7 S8 =>
      if x7 = 0 then
        (
        zo2 (m_X2_runUntilGood b S8 p1) fun x9 S10 =>
        if x9 = (-1) then
          (
          zo2 (m_X2_fail b S10 p1 (-5)) fun x16 S17 =>
          some (x16, S17)
          )
        else
          zo (m_X2_resultOf b S10 p1) fun x11 =>
          zo (m_X2_tell b S10 p1 x9 x11) fun S12 =>
          zo (m_X0_add (9 + 2 * b) S12 p1) fun S13 =>
          zo2 (m_X2_keep b S13 p1 (nI 3)) fun x14 S15 =>
          some (x14, S15)
        )
      else
        zo2 (m_X2_keep b S8 p1 (nI 2)) fun x18 S19 =>
        some (x18, S19)
      )
    else
      zo2 (m_X2_fail b S5 p1 x4) fun x20 S21 =>
      some (x20, S21)
def rl_X2_answerByKept (rf rl : Nat) : Room := { frames := rf + 5, cells := 0, slots := 0, locals := rl + 127 }
theorem cdV_X2_answerByKept : yX2_answerByKept.cls = RX2 ∧ yX2_answerByKept.cls ≠ "java/lang/invoke/MethodHandle" ∧ yX2_answerByKept.cls ≠ "java/lang/invoke/VarHandle" ∧ (parseMethodDescriptor yX2_answerByKept.desc).map (fun d => d.parameters.length) = some 2 := by decide +kernel
def m_X2_look (LK : St → Int32 → Int32 → Option (Int32 × St)) (b : Nat) (S : St) (p1 : Int32) (p2 : Int32) : Option ((Int32 × St)) :=
  zo (m_X4_get (8 + 2 * b) S p1 (nI 0)) fun x1 =>
  if x1 = (nI 5) then
    (
    some ((-4), S)
    )
  else
    if p2 < (nI 32) then
      (
      if x1 = 0 then
        (
        zo (m_X4_set (8 + 2 * b) S p1 (nI 0) (nI 5)) fun S2 =>
        if (nI b) = 0 then
          (
          zo2 (m_X2_answerByKept LK b S2 p1 p2) fun x3 S4 =>
          some (x3, S4)
          )
        else
          zo2 (m_X2_answerPlainly LK b S2 p1 p2) fun x5 S6 =>
          some (x5, S6)
        )
      else
        zo (m_X4_get (8 + 2 * b) S p1 (nI 1)) fun x7 =>
        some (x7, S)
      )
    else
      some ((-4), S)
def rl_X2_look (rf rl : Nat) : Room := { frames := rf + 6, cells := 0, slots := 0, locals := rl + 152 }
theorem cdV_X2_look : yX2_look.cls = RX2 ∧ yX2_look.cls ≠ "java/lang/invoke/MethodHandle" ∧ yX2_look.cls ≠ "java/lang/invoke/VarHandle" ∧ (parseMethodDescriptor yX2_look.desc).map (fun d => d.parameters.length) = some 2 := by decide +kernel
def m_X2_lookF (b : Nat) : St → Int32 → Int32 → Option (Int32 × St) := zl3 (fun LK => m_X2_look LK b) 40
def rlk (n : Nat) : Room := { frames := n * 6, cells := 0, slots := 0, locals := n * 152 }
def rl_X2_lookF : Room := { frames := 240, cells := 0, slots := 0, locals := 6080 }
def m_X2_start_B7 (b : Nat) (p1 : Int32) (rec7 : St → Int32 → Option ((Int32 × St))) (S2 : St) (x3 : Int32) : Option ((Int32 × St)) :=
  if (nI 32) ≤ x3 then
    (
    zo2 (m_X2_lookF b S2 p1 (nI 0)) fun x4 S5 =>
    if (nI b) = 0 then
      (
      zo (m_X2_loseKeptFromAway b S5) fun S6 =>
      some (x4, S6)
      )
    else
      some (x4, S5)
    )
  else
    zo (m_X4_clear (8 + 2 * b) S2 x3) fun S7 =>
    zb (x3 + (nI 1)) fun x8 =>
    rec7 S7 x8
def m_X2_start (b : Nat) (S : St) (p1 : Int32) : Option ((Int32 × St)) :=
  zb (wi S (16 + 2 * b) 0 (nI 0)) fun S1 =>
  zl2 (m_X2_start_B7 b p1) FU S1 (nI 0)
def rl_X2_start : Room := { frames := 241, cells := 0, slots := 0, locals := 6103 }
theorem cdV_X2_start : yX2_start.cls = RX2 ∧ yX2_start.cls ≠ "java/lang/invoke/MethodHandle" ∧ yX2_start.cls ≠ "java/lang/invoke/VarHandle" ∧ (parseMethodDescriptor yX2_start.desc).map (fun d => d.parameters.length) = some 1 := by decide +kernel
def m_X5_howManyRunning_B4 (S : St) (p1 : Int32) (rec4 : Int32 → Int32 → Option (Int32)) (x1 : Int32) (x2 : Int32) : Option (Int32) :=
  if (nI 32) ≤ x2 then
    (
    some x1
    )
  else
    zo (m_X4_get 7 S x2 (nI 1)) fun x3 =>
    if x3 ≤ p1 then
      (
      zb (x2 + (nI 1)) fun x4 =>
      rec4 x1 x4
      )
    else
      zb (x1 + (nI 1)) fun x5 =>
      zb (x2 + (nI 1)) fun x6 =>
      rec4 x5 x6
def m_X5_howManyRunning (S : St) (p1 : Int32) : Option (Int32) :=
  zl2 (m_X5_howManyRunning_B4 S p1) FU (nI 0) (nI 0)
def rl_X5_howManyRunning : Room := { frames := 1, cells := 0, slots := 0, locals := 24 }
theorem cdV_X5_howManyRunning : yX5_howManyRunning.cls = RX5 ∧ yX5_howManyRunning.cls ≠ "java/lang/invoke/MethodHandle" ∧ yX5_howManyRunning.cls ≠ "java/lang/invoke/VarHandle" ∧ (parseMethodDescriptor yX5_howManyRunning.desc).map (fun d => d.parameters.length) = some 1 := by decide +kernel
def m_X5_nodeReadAt (S : St) (p1 : Int32) (p2 : Int32) : Option (Int32) :=
  zb ((nI 15) + (p2 * (nI 7))) fun x1 =>
  zo (m_X4_get (9 + 2 * 1) S p1 (x1 + (nI 0))) fun x2 =>
  zo (m_X4_get (9 + 2 * 1) S p1 (x1 + (nI 1))) fun x3 =>
  if x2 = (nI 2) then
    (
    zo (m_X6_nodeRead S p1 x2 x3) fun x4 =>
    some x4
    )
  else
    if x2 = (nI 3) then
      (
      zo (m_X6_nodeRead S p1 x2 x3) fun x5 =>
      some x5
      )
    else
      some (-1)
def rl_X5_nodeReadAt : Room := { frames := 2, cells := 0, slots := 0, locals := 44 }
theorem cdV_X5_nodeReadAt : yX5_nodeReadAt.cls = RX5 ∧ yX5_nodeReadAt.cls ≠ "java/lang/invoke/MethodHandle" ∧ yX5_nodeReadAt.cls ≠ "java/lang/invoke/VarHandle" ∧ (parseMethodDescriptor yX5_nodeReadAt.desc).map (fun d => d.parameters.length) = some 2 := by decide +kernel
def m_X5_canBegin_B30 (S : St) (p1 : Int32) (p2 : Int32) (rec30 : Int32 → Option (Int32)) (x3 : Int32) : Option (Int32) :=
  if (nI 5) ≤ x3 then
    (
    some (nI 1)
    )
  else
    zo (m_X5_nodeReadAt S p1 x3) fun x4 =>
    if x4 = (-1) then
      (
      if (nI 0) ≤ p2 then
        (
        zb (x3 + (nI 1)) fun x7 =>
        rec30 x7
        )
      else
        some (nI 0)
      )
    else
      zo (m_X4_get 7 S x4 (nI 1)) fun x5 =>
      if x5 = (-1) then
        (
        some (nI 0)
        )
      else
        if x5 ≤ p2 then
          (
          zb (x3 + (nI 1)) fun x6 =>
          rec30 x6
          )
        else
          some (nI 0)
def m_X5_canBegin (S : St) (p1 : Int32) (p2 : Int32) : Option (Int32) :=
  zo (m_X4_get 7 S p1 (nI 0)) fun x1 =>
  if x1 = (-1) then
    (
    some (nI 0)
    )
  else
    zo (m_X4_get 7 S p1 (nI 1)) fun x2 =>
    if x2 = (-1) then
      (
      zl1 (m_X5_canBegin_B30 S p1 p2) FU (nI 0)
      )
    else
      some (nI 0)
def rl_X5_canBegin : Room := { frames := 3, cells := 0, slots := 0, locals := 69 }
theorem cdV_X5_canBegin : yX5_canBegin.cls = RX5 ∧ yX5_canBegin.cls ≠ "java/lang/invoke/MethodHandle" ∧ yX5_canBegin.cls ≠ "java/lang/invoke/VarHandle" ∧ (parseMethodDescriptor yX5_canBegin.desc).map (fun d => d.parameters.length) = some 2 := by decide +kernel
def m_X5_bestToBegin_J52 (x3 : Int32) (rec7 : Int32 → Int32 → Int32 → Option (Int32)) (x5 : Int32) (x6 : Int32) : Option (Int32) :=
  zb (x3 + (nI 1)) fun x7 =>
  rec7 x5 x6 x7
def m_X5_bestToBegin_B7 (S : St) (p1 : Int32) (rec7 : Int32 → Int32 → Int32 → Option (Int32)) (x1 : Int32) (x2 : Int32) (x3 : Int32) : Option (Int32) :=
  if (nI 32) ≤ x3 then
    (
    some x1
    )
  else
    zo (m_X5_canBegin S x3 p1) fun x4 =>
    if x4 = 0 then
      (
      m_X5_bestToBegin_J52 x3 rec7 x1 x2
      )
    else
      zo (m_X4_get 7 S x3 (nI 0)) fun x8 =>
      if x8 ≤ x2 then
        (
        m_X5_bestToBegin_J52 x3 rec7 x1 x2
        )
      else
        zo (m_X4_get 7 S x3 (nI 0)) fun x9 =>
        m_X5_bestToBegin_J52 x3 rec7 x3 x9
def m_X5_bestToBegin (S : St) (p1 : Int32) : Option (Int32) :=
  zl3 (m_X5_bestToBegin_B7 S p1) FU (-1) (-1) (nI 0)
def rl_X5_bestToBegin : Room := { frames := 4, cells := 0, slots := 0, locals := 94 }
theorem cdV_X5_bestToBegin : yX5_bestToBegin.cls = RX5 ∧ yX5_bestToBegin.cls ≠ "java/lang/invoke/MethodHandle" ∧ yX5_bestToBegin.cls ≠ "java/lang/invoke/VarHandle" ∧ (parseMethodDescriptor yX5_bestToBegin.desc).map (fun d => d.parameters.length) = some 1 := by decide +kernel
def m_X5_timeOf (S : St) (p1 : Int32) : Option (Int32) :=
  zo (m_X4_get (9 + 2 * 1) S p1 (nI 0)) fun x1 =>
  some x1
def rl_X5_timeOf : Room := { frames := 1, cells := 0, slots := 0, locals := 24 }
theorem cdV_X5_timeOf : yX5_timeOf.cls = RX5 ∧ yX5_timeOf.cls ≠ "java/lang/invoke/MethodHandle" ∧ yX5_timeOf.cls ≠ "java/lang/invoke/VarHandle" ∧ (parseMethodDescriptor yX5_timeOf.desc).map (fun d => d.parameters.length) = some 1 := by decide +kernel
def m_X5_beginAt_B8 (p1 : Int32) (rec8 : St → Int32 → Option (St)) (S3 : St) (x4 : Int32) : Option (St) :=
  if x4 ≤ 0 then
    (
    some S3
    )
  else
    zo (m_X5_bestToBegin S3 p1) fun x5 =>
    if x5 = (-1) then
      (
      zb (x4 + (-1)) fun x6 =>
      rec8 S3 x6
      )
    else
      zo (m_X5_timeOf S3 x5) fun x7 =>
      zo (m_X4_set 7 S3 x5 (nI 1) (p1 + x7)) fun S8 =>
      zb (x4 + (-1)) fun x9 =>
      rec8 S8 x9
def m_X5_beginAt (S : St) (p1 : Int32) (p2 : Int32) : Option (St) :=
  zo (m_X5_howManyRunning S p1) fun x1 =>
  zb (p2 - x1) fun x2 =>
  zl2 (m_X5_beginAt_B8 p1) FU S x2
def rl_X5_beginAt : Room := { frames := 5, cells := 0, slots := 0, locals := 118 }
theorem cdV_X5_beginAt : yX5_beginAt.cls = RX5 ∧ yX5_beginAt.cls ≠ "java/lang/invoke/MethodHandle" ∧ yX5_beginAt.cls ≠ "java/lang/invoke/VarHandle" ∧ (parseMethodDescriptor yX5_beginAt.desc).map (fun d => d.parameters.length) = some 2 := by decide +kernel
def m_X5_makesWaysLonger_J80 (x3 : Int32) (rec4 : St → Int32 → Int32 → Option ((Int32 × St))) (S7 : St) (x6 : Int32) : Option ((Int32 × St)) :=
  zb (x3 + (nI 1)) fun x8 =>
  rec4 S7 x6 x8
def m_X5_makesWaysLonger_J43 (x4 : Int32) (x3 : Int32) (rec4 : St → Int32 → Int32 → Option ((Int32 × St))) (S1 : St) (x2 : Int32) (t5 : Int32) : Option ((Int32 × St)) :=
  if x4 = (-1) then
    (
    m_X5_makesWaysLonger_J80 x3 rec4 S1 x2
    )
  else
    zo (m_X4_get 7 S1 x4 (nI 0)) fun x9 =>
    if t5 ≤ x9 then
      (
      m_X5_makesWaysLonger_J80 x3 rec4 S1 x2
      )
    else
      zo (m_X4_set 7 S1 x4 (nI 0) t5) fun S10 =>
      m_X5_makesWaysLonger_J80 x3 rec4 S10 (nI 1)
def m_X5_makesWaysLonger_B4 (p1 : Int32) (rec4 : St → Int32 → Int32 → Option ((Int32 × St))) (S1 : St) (x2 : Int32) (x3 : Int32) : Option ((Int32 × St)) :=
  if (nI 5) ≤ x3 then
    (
    zg (bz x2) <|
    some (x2, S1)
    )
  else
    zo (m_X5_nodeReadAt S1 p1 x3) fun x4 =>
    if x4 = (-1) then
      (
      m_X5_makesWaysLonger_J43 x4 x3 rec4 S1 x2 (-1)
      )
    else
      zo (m_X4_get 7 S1 p1 (nI 0)) fun x11 =>
      zo (m_X5_timeOf S1 x4) fun x12 =>
      m_X5_makesWaysLonger_J43 x4 x3 rec4 S1 x2 (x11 + x12)
def m_X5_makesWaysLonger (S : St) (p1 : Int32) : Option ((Int32 × St)) :=
  zl3 (m_X5_makesWaysLonger_B4 p1) FU S (nI 0) (nI 0)
def rl_X5_makesWaysLonger : Room := { frames := 3, cells := 0, slots := 0, locals := 69 }
theorem cdV_X5_makesWaysLonger : yX5_makesWaysLonger.cls = RX5 ∧ yX5_makesWaysLonger.cls ≠ "java/lang/invoke/MethodHandle" ∧ yX5_makesWaysLonger.cls ≠ "java/lang/invoke/VarHandle" ∧ (parseMethodDescriptor yX5_makesWaysLonger.desc).map (fun d => d.parameters.length) = some 1 := by decide +kernel
def m_X5_measureWaysUp_B55 (x7 : Int32) (rec40 : St → Int32 → Int32 → Option (St)) (rec55 : St → Int32 → Int32 → Option (St)) (S8 : St) (x9 : Int32) (x10 : Int32) : Option (St) :=
  if (nI 32) ≤ x10 then
    (
    zb (x7 + (nI 1)) fun x11 =>
    rec40 S8 x9 x11
    )
  else
    zo (m_X4_get 7 S8 x10 (nI 0)) fun x12 =>
    if x12 = (-1) then
      (
      zb (x9 ||| (nI 0)) fun x13 =>
      zb (x10 + (nI 1)) fun x14 =>
      rec55 S8 x13 x14
      )
    else
      zo2 (m_X5_makesWaysLonger S8 x10) fun x15 S16 =>
      if x15 = 0 then
        (
        zb (x9 ||| (nI 0)) fun x17 =>
        zb (x10 + (nI 1)) fun x18 =>
        rec55 S16 x17 x18
        )
      else
        zb (x9 ||| (nI 1)) fun x19 =>
        zb (x10 + (nI 1)) fun x20 =>
        rec55 S16 x19 x20
def m_X5_measureWaysUp_B40 (rec40 : St → Int32 → Int32 → Option (St)) (S5 : St) (x6 : Int32) (x7 : Int32) : Option (St) :=
  if (nI 32) ≤ x7 then
    (
    some S5
    )
  else
    if x6 = 0 then
      (
      some S5
      )
    else
      zl3 (m_X5_measureWaysUp_B55 x7 rec40) FU S5 (nI 0) (nI 0)
def m_X5_measureWaysUp_B2 (p1 : Int32) (rec2 : St → Int32 → Option (St)) (S1 : St) (x2 : Int32) : Option (St) :=
  if (nI 32) ≤ x2 then
    (
    zo (m_X5_timeOf S1 p1) fun x3 =>
    zo (m_X4_set 7 S1 p1 (nI 0) x3) fun S4 =>
    zl3 m_X5_measureWaysUp_B40 FU S4 (nI 1) (nI 0)
    )
  else
    zo (m_X4_clear 7 S1 x2) fun S21 =>
    zb (x2 + (nI 1)) fun x22 =>
    rec2 S21 x22
def m_X5_measureWaysUp (S : St) (p1 : Int32) : Option (St) :=
  zl2 (m_X5_measureWaysUp_B2 p1) FU S (nI 0)
def rl_X5_measureWaysUp : Room := { frames := 4, cells := 0, slots := 0, locals := 94 }
theorem cdV_X5_measureWaysUp : yX5_measureWaysUp.cls = RX5 ∧ yX5_measureWaysUp.cls ≠ "java/lang/invoke/MethodHandle" ∧ yX5_measureWaysUp.cls ≠ "java/lang/invoke/VarHandle" ∧ (parseMethodDescriptor yX5_measureWaysUp.desc).map (fun d => d.parameters.length) = some 1 := by decide +kernel
def m_X5_nextEnd_J41 (x2 : Int32) (rec4 : Int32 → Int32 → Option (Int32)) (x4 : Int32) : Option (Int32) :=
  zb (x2 + (nI 1)) fun x5 =>
  rec4 x4 x5
def m_X5_nextEnd_B4 (S : St) (p1 : Int32) (rec4 : Int32 → Int32 → Option (Int32)) (x1 : Int32) (x2 : Int32) : Option (Int32) :=
  if (nI 32) ≤ x2 then
    (
    some x1
    )
  else
    zo (m_X4_get 7 S x2 (nI 1)) fun x3 =>
    if x3 ≤ p1 then
      (
      m_X5_nextEnd_J41 x2 rec4 x1
      )
    else
      if x1 = (-1) then
        (
        m_X5_nextEnd_J41 x2 rec4 x3
        )
      else
        if x1 ≤ x3 then
          (
          m_X5_nextEnd_J41 x2 rec4 x1
          )
        else
          m_X5_nextEnd_J41 x2 rec4 x3
def m_X5_nextEnd (S : St) (p1 : Int32) : Option (Int32) :=
  zl2 (m_X5_nextEnd_B4 S p1) FU (-1) (nI 0)
def rl_X5_nextEnd : Room := { frames := 1, cells := 0, slots := 0, locals := 24 }
theorem cdV_X5_nextEnd : yX5_nextEnd.cls = RX5 ∧ yX5_nextEnd.cls ≠ "java/lang/invoke/MethodHandle" ∧ yX5_nextEnd.cls ≠ "java/lang/invoke/VarHandle" ∧ (parseMethodDescriptor yX5_nextEnd.desc).map (fun d => d.parameters.length) = some 1 := by decide +kernel
def m_X5_endOf_B10 (p1 : Int32) (p2 : Int32) (rec10 : St → Int32 → Int32 → Option ((Int32 × St))) (S2 : St) (x3 : Int32) (x4 : Int32) : Option ((Int32 × St)) :=
  if (nI 32) < x4 then
    (
    zo (m_X4_get 7 S2 p1 (nI 1)) fun x5 =>
    some (x5, S2)
    )
  else
    zo (m_X4_get 7 S2 p1 (nI 1)) fun x6 =>
    if x6 = (-1) then
      (
      zo (m_X5_beginAt S2 x3 p2) fun S8 =>
      zo (m_X5_nextEnd S8 x3) fun x9 =>
      zb (x4 + (nI 1)) fun x10 =>
      rec10 S8 x9 x10
      )
    else
      zo (m_X4_get 7 S2 p1 (nI 1)) fun x7 =>
      some (x7, S2)
def m_X5_endOf (S : St) (p1 : Int32) (p2 : Int32) : Option ((Int32 × St)) :=
  zo (m_X5_measureWaysUp S p1) fun S1 =>
  zl3 (m_X5_endOf_B10 p1 p2) FU S1 (nI 0) (nI 0)
def rl_X5_endOf : Room := { frames := 6, cells := 0, slots := 0, locals := 142 }
theorem cdV_X5_endOf : yX5_endOf.cls = RX5 ∧ yX5_endOf.cls ≠ "java/lang/invoke/MethodHandle" ∧ yX5_endOf.cls ≠ "java/lang/invoke/VarHandle" ∧ (parseMethodDescriptor yX5_endOf.desc).map (fun d => d.parameters.length) = some 2 := by decide +kernel
def m_X6_refuseOtherTargets (S : St) (p0 : Int32) : Option (Sum Nat St) :=
  if p0 < 0 then
    (
    some (.inl 1)
    )
  else
    if p0 < (nI 16) then
      (
      some (.inr S)
      )
    else
      some (.inl 1)
def rl_X6_refuseOtherTargets : Room := { frames := 6, cells := 1, slots := 6, locals := 82 }
theorem cdS_X6_refuseOtherTargets : yX6_refuseOtherTargets.cls ≠ "java/lang/invoke/MethodHandle" ∧ yX6_refuseOtherTargets.cls ≠ "java/lang/invoke/VarHandle" ∧ (parseMethodDescriptor yX6_refuseOtherTargets.desc).map (fun d => d.parameters.length) = some 1 := by decide +kernel
def m_X6_refuseOtherNodes (S : St) (p0 : Int32) (p1 : Int32) : Option (Sum Nat St) :=
  zx (m_X6_refuseOtherTargets S p0) fun _ =>
  if p1 < 0 then
    (
    some (.inl 1)
    )
  else
    if p1 < (nI 2) then
      (
      some (.inr S)
      )
    else
      some (.inl 1)
def rl_X6_refuseOtherNodes : Room := { frames := 7, cells := 2, slots := 12, locals := 102 }
theorem cdS_X6_refuseOtherNodes : yX6_refuseOtherNodes.cls ≠ "java/lang/invoke/MethodHandle" ∧ yX6_refuseOtherNodes.cls ≠ "java/lang/invoke/VarHandle" ∧ (parseMethodDescriptor yX6_refuseOtherNodes.desc).map (fun d => d.parameters.length) = some 2 := by decide +kernel
def m_X6_write (S : St) (p1 : Int32) (p2 : Int32) : Option (Sum Nat (Int32 × St)) :=
  if p1 < 0 then
    (
    some (.inl 1)
    )
  else
    if p1 < (nI 20) then
      (
      if p2 = (-1) then
        (
        zo (m_X6_contentOf 0 S p1) fun x1 =>
        zo (m_X4_set 0 S (p1 / (nI 5)) (irm p1 (nI 5)) p2) fun S2 =>
        some (.inr (x1, S2))
        )
      else
        zo (m_X6_isValue S p2) fun x3 =>
        if x3 = 0 then
          (
          some (.inl 2)
          )
        else
          zo (m_X6_contentOf 0 S p1) fun x4 =>
          zo (m_X4_set 0 S (p1 / (nI 5)) (irm p1 (nI 5)) p2) fun S5 =>
          some (.inr (x4, S5))
      )
    else
      some (.inl 1)
def rl_X6_write : Room := { frames := 6, cells := 1, slots := 6, locals := 82 }
theorem cdV_X6_write : yX6_write.cls = RX6 ∧ yX6_write.cls ≠ "java/lang/invoke/MethodHandle" ∧ yX6_write.cls ≠ "java/lang/invoke/VarHandle" ∧ (parseMethodDescriptor yX6_write.desc).map (fun d => d.parameters.length) = some 2 := by decide +kernel
def m_X6_rule (S : St) (p1 : Int32) (p2 : Int32) (p3 : Int32) (p4 : Int32) (p5 : Int32) : Option (Sum Nat (Int32 × St)) :=
  zx (m_X6_refuseOtherTargets S p1) fun _ =>
  if p2 < (-1) then
    (
    some (.inl 2)
    )
  else
    if p2 ≤ (nI 4) then
      (
      zo (m_X6_isValue S p3) fun x2 =>
      if x2 = 0 then
        (
        some (.inl 2)
        )
      else
        zo (m_X6_isValue S p4) fun x3 =>
        if x3 = 0 then
          (
          some (.inl 2)
          )
        else
          if p5 < (nI 1) then
            (
            some (.inl 2)
            )
          else
            if p5 ≤ (nI 20) then
              (
              zo (m_X4_get 1 S p1 (nI 1)) fun x4 =>
              if x4 = (-1) then
                (
                zo (m_X4_clear 1 S p1) fun S5 =>
                if p2 = (-1) then
                  (
                  some (.inr ((nI 0), S5))
                  )
                else
                  zo (m_X4_set 1 S5 p1 (nI 0) p5) fun S6 =>
                  zo (m_X4_set 1 S6 p1 (nI 1) p2) fun S7 =>
                  zo (m_X4_set 1 S7 p1 (nI 2) p3) fun S8 =>
                  zo (m_X4_set 1 S8 p1 (nI 3) p4) fun S9 =>
                  zo (m_X4_set 1 S9 p1 (nI 4) (nI 0)) fun S10 =>
                  some (.inr ((nI 0), S10))
                )
              else
                zo (m_X4_clear 1 S p1) fun S11 =>
                if p2 = (-1) then
                  (
                  some (.inr ((nI 1), S11))
                  )
                else
                  zo (m_X4_set 1 S11 p1 (nI 0) p5) fun S12 =>
                  zo (m_X4_set 1 S12 p1 (nI 1) p2) fun S13 =>
                  zo (m_X4_set 1 S13 p1 (nI 2) p3) fun S14 =>
                  zo (m_X4_set 1 S14 p1 (nI 3) p4) fun S15 =>
                  zo (m_X4_set 1 S15 p1 (nI 4) (nI 0)) fun S16 =>
                  some (.inr ((nI 1), S16))
              )
            else
              some (.inl 2)
      )
    else
      some (.inl 2)
def rl_X6_rule : Room := { frames := 7, cells := 2, slots := 12, locals := 102 }
theorem cdV_X6_rule : yX6_rule.cls = RX6 ∧ yX6_rule.cls ≠ "java/lang/invoke/MethodHandle" ∧ yX6_rule.cls ≠ "java/lang/invoke/VarHandle" ∧ (parseMethodDescriptor yX6_rule.desc).map (fun d => d.parameters.length) = some 5 := by decide +kernel
def m_X6_input_J47 (t2 : Int32) (S : St) (p1 : Int32) (p2 : Int32) (p3 : Int32) : Option (Sum Nat (Int32 × St)) :=
  if t2 = 0 then
    (
    some (.inl 2)
    )
  else
    zo (m_X4_get 1 S p1 (nI 4)) fun x3 =>
    zo (m_X4_get 1 S p1 (nI 1)) fun x4 =>
    if x4 = (-1) then
      (
      some (.inl 3)
      )
    else
      if x3 < (nI 4) then
        (
        zo (m_X4_set 1 S p1 (((nI 5) + (x3 * (nI 2))) + (nI 0)) p2) fun S5 =>
        zo (m_X4_set 1 S5 p1 (((nI 5) + (x3 * (nI 2))) + (nI 1)) p3) fun S6 =>
        zo (m_X4_set 1 S6 p1 (nI 4) (x3 + (nI 1))) fun S7 =>
        some (.inr ((x3 + (nI 1)), S7))
        )
      else
        some (.inl 3)
def m_X6_input_J18 (S : St) (p1 : Int32) (p2 : Int32) (p3 : Int32) (t2 : Int32) : Option (Sum Nat (Int32 × St)) :=
  if t2 = 0 then
    (
    m_X6_input_J47 t2 S p1 p2 p3 
    )
  else
    if p3 < 0 then
      (
      some (.inl 1)
      )
    else
      zo (m_X6_howManyOf S p2) fun x8 =>
      if p3 < x8 then
        (
        m_X6_input_J47 t2 S p1 p2 p3 
        )
      else
        some (.inl 1)
def m_X6_input_J17 (S : St) (p1 : Int32) (p2 : Int32) (p3 : Int32) : Option (Sum Nat (Int32 × St)) :=
  m_X6_input_J18 S p1 p2 p3 (nI 0)
def m_X6_input (S : St) (p1 : Int32) (p2 : Int32) (p3 : Int32) : Option (Sum Nat (Int32 × St)) :=
  zx (m_X6_refuseOtherTargets S p1) fun _ =>
  if p2 < 0 then
    (
    m_X6_input_J17 S p1 p2 p3 
    )
  else
    if (nI 3) < p2 then
      (
      m_X6_input_J17 S p1 p2 p3 
      )
    else
      m_X6_input_J18 S p1 p2 p3 (nI 1)
def rl_X6_input : Room := { frames := 7, cells := 2, slots := 12, locals := 102 }
theorem cdV_X6_input : yX6_input.cls = RX6 ∧ yX6_input.cls ≠ "java/lang/invoke/MethodHandle" ∧ yX6_input.cls ≠ "java/lang/invoke/VarHandle" ∧ (parseMethodDescriptor yX6_input.desc).map (fun d => d.parameters.length) = some 3 := by decide +kernel
def m_X6_fails (S : St) (p1 : Int32) (p2 : Int32) : Option (Sum Nat (Int32 × St)) :=
  zx (m_X6_refuseOtherTargets S p1) fun _ =>
  if p2 < 0 then
    (
    some (.inl 2)
    )
  else
    if p2 ≤ (nI 20) then
      (
      zo2 (m_X3_letFail S p1 p2) fun x2 S3 =>
      some (.inr (x2, S3))
      )
    else
      some (.inl 2)
def rl_X6_fails : Room := { frames := 7, cells := 2, slots := 12, locals := 102 }
theorem cdV_X6_fails : yX6_fails.cls = RX6 ∧ yX6_fails.cls ≠ "java/lang/invoke/MethodHandle" ∧ yX6_fails.cls ≠ "java/lang/invoke/VarHandle" ∧ (parseMethodDescriptor yX6_fails.desc).map (fun d => d.parameters.length) = some 2 := by decide +kernel
def m_X6_poison (S : St) (p1 : Int32) (p2 : Int32) : Option (Sum Nat (Int32 × St)) :=
  if p1 < 0 then
    (
    some (.inl 1)
    )
  else
    if p1 < (nI 3) then
      (
      zo2 (m_X3_bringBack S p1 p2) fun x1 S2 =>
      zg (bz x1) <|
      some (.inr (x1, S2))
      )
    else
      some (.inl 1)
def rl_X6_poison : Room := { frames := 6, cells := 1, slots := 6, locals := 82 }
theorem cdV_X6_poison : yX6_poison.cls = RX6 ∧ yX6_poison.cls ≠ "java/lang/invoke/MethodHandle" ∧ yX6_poison.cls ≠ "java/lang/invoke/VarHandle" ∧ (parseMethodDescriptor yX6_poison.desc).map (fun d => d.parameters.length) = some 2 := by decide +kernel
def m_X6_vanish (S : St) (p1 : Int32) : Option (Sum Nat (Int32 × St)) :=
  if p1 < 0 then
    (
    some (.inl 2)
    )
  else
    if p1 ≤ (nI 20) then
      (
      zb (rs S 12) fun x1 =>
      zb (wi S 12 0 p1) fun S2 =>
      some (.inr (x1, S2))
      )
    else
      some (.inl 2)
def rl_X6_vanish : Room := { frames := 6, cells := 1, slots := 6, locals := 82 }
theorem cdV_X6_vanish : yX6_vanish.cls = RX6 ∧ yX6_vanish.cls ≠ "java/lang/invoke/MethodHandle" ∧ yX6_vanish.cls ≠ "java/lang/invoke/VarHandle" ∧ (parseMethodDescriptor yX6_vanish.desc).map (fun d => d.parameters.length) = some 1 := by decide +kernel
def m_X6_build (S : St) (p1 : Int32) (p2 : Int32) : Option (Sum Nat (Int32 × St)) :=
  zx (m_X6_refuseOtherNodes S p1 p2) fun _ =>
  zo (m_X6_nodeOf S p1 p2) fun x2 =>
  zo2 (m_X2_start 0 S x2) fun x3 S4 =>
  some (.inr (x3, S4))
def rl_X6_build : Room := { frames := 242, cells := 2, slots := 12, locals := 6125 }
theorem cdV_X6_build : yX6_build.cls = RX6 ∧ yX6_build.cls ≠ "java/lang/invoke/MethodHandle" ∧ yX6_build.cls ≠ "java/lang/invoke/VarHandle" ∧ (parseMethodDescriptor yX6_build.desc).map (fun d => d.parameters.length) = some 2 := by decide +kernel
def m_X6_plain (S : St) (p1 : Int32) (p2 : Int32) : Option (Sum Nat (Int32 × St)) :=
  zx (m_X6_refuseOtherNodes S p1 p2) fun _ =>
  zo (m_X6_nodeOf S p1 p2) fun x2 =>
  zo2 (m_X2_start 1 S x2) fun x3 S4 =>
  some (.inr (x3, S4))
def rl_X6_plain : Room := { frames := 242, cells := 2, slots := 12, locals := 6125 }
theorem cdV_X6_plain : yX6_plain.cls = RX6 ∧ yX6_plain.cls ≠ "java/lang/invoke/MethodHandle" ∧ yX6_plain.cls ≠ "java/lang/invoke/VarHandle" ∧ (parseMethodDescriptor yX6_plain.desc).map (fun d => d.parameters.length) = some 2 := by decide +kernel
def m_X6_done (S : St) (p1 : Int32) (p2 : Int32) : Option (Sum Nat (Int32 × St)) :=
  zx (m_X6_refuseOtherNodes S p1 p2) fun _ =>
  zo (m_X6_nodeOf S p1 p2) fun x2 =>
  zo (m_X4_get (8 + 2 * 0) S x2 (nI 0)) fun x3 =>
  some (.inr (x3, S))
def rl_X6_done : Room := { frames := 8, cells := 2, slots := 12, locals := 123 }
theorem cdV_X6_done : yX6_done.cls = RX6 ∧ yX6_done.cls ≠ "java/lang/invoke/MethodHandle" ∧ yX6_done.cls ≠ "java/lang/invoke/VarHandle" ∧ (parseMethodDescriptor yX6_done.desc).map (fun d => d.parameters.length) = some 2 := by decide +kernel
def m_X6_why (S : St) (p1 : Int32) (p2 : Int32) : Option (Sum Nat (Int32 × St)) :=
  zx (m_X6_refuseOtherNodes S p1 p2) fun _ =>
  zo (m_X6_nodeOf S p1 p2) fun x2 =>
  zo (m_X4_get (8 + 2 * 0) S x2 (nI 2)) fun x3 =>
  some (.inr (x3, S))
def rl_X6_why : Room := { frames := 8, cells := 2, slots := 12, locals := 123 }
theorem cdV_X6_why : yX6_why.cls = RX6 ∧ yX6_why.cls ≠ "java/lang/invoke/MethodHandle" ∧ yX6_why.cls ≠ "java/lang/invoke/VarHandle" ∧ (parseMethodDescriptor yX6_why.desc).map (fun d => d.parameters.length) = some 2 := by decide +kernel
def m_X6_counts (S : St) (p1 : Int32) : Option (Sum Nat (Int32 × St)) :=
  if p1 < 0 then
    (
    some (.inl 2)
    )
  else
    if p1 < (nI 4) then
      (
      if p1 = 0 then
        (
        some (.inr (rs S (16 + 2 * 0), S))
        )
      else
        if p1 = (nI 1) then
          (
          zo (m_X2_howMany 0 S (nI 2)) fun x3 =>
          some (.inr (x3, S))
          )
        else
          if p1 = (nI 2) then
            (
            zo (m_X2_howMany 0 S (nI 1)) fun x2 =>
            some (.inr (x2, S))
            )
          else
            zo (m_X2_howMany 0 S (nI 0)) fun x1 =>
            some (.inr (((nI 32) - x1), S))
      )
    else
      some (.inl 2)
def rl_X6_counts : Room := { frames := 6, cells := 1, slots := 6, locals := 82 }
theorem cdV_X6_counts : yX6_counts.cls = RX6 ∧ yX6_counts.cls ≠ "java/lang/invoke/MethodHandle" ∧ yX6_counts.cls ≠ "java/lang/invoke/VarHandle" ∧ (parseMethodDescriptor yX6_counts.desc).map (fun d => d.parameters.length) = some 1 := by decide +kernel
def m_X6_needs (S : St) (p1 : Int32) : Option (Sum Nat (Int32 × St)) :=
  zx (m_X6_refuseOtherTargets S p1) fun _ =>
  zo (m_X1_draw S) fun S2 =>
  zo (m_X1_allFrom S2 p1) fun x3 =>
  some (.inr (x3, S2))
def rl_X6_needs : Room := { frames := 7, cells := 1, slots := 6, locals := 102 }
theorem cdV_X6_needs : yX6_needs.cls = RX6 ∧ yX6_needs.cls ≠ "java/lang/invoke/MethodHandle" ∧ yX6_needs.cls ≠ "java/lang/invoke/VarHandle" ∧ (parseMethodDescriptor yX6_needs.desc).map (fun d => d.parameters.length) = some 1 := by decide +kernel
def m_X6_users (S : St) (p1 : Int32) : Option (Sum Nat (Int32 × St)) :=
  if p1 < (nI 100) then
    (
    if p1 < 0 then
      (
      some (.inl 1)
      )
    else
      if p1 < (nI 16) then
        (
        zo (m_X1_draw S) fun S1 =>
        zo (m_X1_thatNeed S1 ((nI 1) <<< (p1 &&& 31))) fun x2 =>
        some (.inr (x2, S1))
        )
      else
        some (.inl 1)
    )
  else
    if (nI 120) ≤ p1 then
      (
      if p1 < 0 then
        (
        some (.inl 1)
        )
      else
        if p1 < (nI 16) then
          (
          zo (m_X1_draw S) fun S3 =>
          zo (m_X1_thatNeed S3 ((nI 1) <<< (p1 &&& 31))) fun x4 =>
          some (.inr (x4, S3))
          )
        else
          some (.inl 1)
      )
    else
      zo (m_X1_draw S) fun S5 =>
      zo (m_X1_withFile S5 (p1 - (nI 100))) fun x6 =>
      zo (m_X1_thatNeed S5 x6) fun x7 =>
      some (.inr ((x6 ||| x7), S5))
def rl_X6_users : Room := { frames := 6, cells := 1, slots := 6, locals := 82 }
theorem cdV_X6_users : yX6_users.cls = RX6 ∧ yX6_users.cls ≠ "java/lang/invoke/MethodHandle" ∧ yX6_users.cls ≠ "java/lang/invoke/VarHandle" ∧ (parseMethodDescriptor yX6_users.desc).map (fun d => d.parameters.length) = some 1 := by decide +kernel
def m_X6_ring (S : St) (p1 : Int32) : Option (Sum Nat (Int32 × St)) :=
  zx (m_X6_refuseOtherTargets S p1) fun _ =>
  zo (m_X1_draw S) fun S2 =>
  zo2 (m_X1_shortestRing S2 p1) fun x3 S4 =>
  some (.inr (x3, S4))
def rl_X6_ring : Room := { frames := 7, cells := 1, slots := 6, locals := 102 }
theorem cdV_X6_ring : yX6_ring.cls = RX6 ∧ yX6_ring.cls ≠ "java/lang/invoke/MethodHandle" ∧ yX6_ring.cls ≠ "java/lang/invoke/VarHandle" ∧ (parseMethodDescriptor yX6_ring.desc).map (fun d => d.parameters.length) = some 1 := by decide +kernel
def m_X6_way (S : St) (p1 : Int32) (p2 : Int32) (p3 : Int32) : Option (Sum Nat (Int32 × St)) :=
  zx (m_X6_refuseOtherTargets S p1) fun _ =>
  zx (m_X6_refuseOtherTargets S p2) fun _ =>
  if 0 ≤ p3 then
    (
    if p1 = p2 then
      (
      some (.inl 2)
      )
    else
      zo (m_X1_draw S) fun S3 =>
      zo2 (m_X1_onShortestWay S3 p1 p2 p3) fun x4 S5 =>
      some (.inr (x4, S5))
    )
  else
    some (.inl 1)
def rl_X6_way : Room := { frames := 7, cells := 3, slots := 18, locals := 102 }
theorem cdV_X6_way : yX6_way.cls = RX6 ∧ yX6_way.cls ≠ "java/lang/invoke/MethodHandle" ∧ yX6_way.cls ≠ "java/lang/invoke/VarHandle" ∧ (parseMethodDescriptor yX6_way.desc).map (fun d => d.parameters.length) = some 3 := by decide +kernel
def m_X6_time (S : St) (p1 : Int32) (p2 : Int32) (p3 : Int32) : Option (Sum Nat (Int32 × St)) :=
  zx (m_X6_refuseOtherNodes S p1 p2) fun _ =>
  if p3 < (nI 1) then
    (
    some (.inl 2)
    )
  else
    if p3 ≤ (nI 3) then
      (
      zo (m_X6_nodeOf S p1 p2) fun x2 =>
      zo2 (m_X2_start 1 S x2) fun x3 S4 =>
      if 0 ≤ x3 then
        (
        zo2 (m_X5_endOf S4 x2 p3) fun x5 S6 =>
        some (.inr (x5, S6))
        )
      else
        some (.inr ((-1), S4))
      )
    else
      some (.inl 2)
def rl_X6_time : Room := { frames := 242, cells := 3, slots := 18, locals := 6125 }
theorem cdV_X6_time : yX6_time.cls = RX6 ∧ yX6_time.cls ≠ "java/lang/invoke/MethodHandle" ∧ yX6_time.cls ≠ "java/lang/invoke/VarHandle" ∧ (parseMethodDescriptor yX6_time.desc).map (fun d => d.parameters.length) = some 3 := by decide +kernel
def m_X7_away_B9 (S1 : St) (rec9 : Int32 → Int32 → Option ((Int32 × St))) (x2 : Int32) (x3 : Int32) : Option ((Int32 × St)) :=
  if (nI 3) ≤ x3 then
    (
    some (x2, S1)
    )
  else
    zg (inb x3 3) <|
    if (ri S1 10 x3) = 0 then
      (
      zb (x2 ||| (nI 0)) fun x4 =>
      zb (x3 + (nI 1)) fun x5 =>
      rec9 x4 x5
      )
    else
      zb (x2 ||| ((nI 1) <<< (x3 &&& 31))) fun x6 =>
      zb (x3 + (nI 1)) fun x7 =>
      rec9 x6 x7
def m_X7_away (S : St) : Option ((Int32 × St)) :=
  zb (wi S 47 0 (nI 0)) fun S1 =>
  zl2 (m_X7_away_B9 S1) FU (nI 0) (nI 0)
def rl_X7_away : Room := { frames := 0, cells := 0, slots := 0, locals := 0 }
theorem cdV_X7_away : yX7_away.cls = RX7 ∧ yX7_away.cls ≠ "java/lang/invoke/MethodHandle" ∧ yX7_away.cls ≠ "java/lang/invoke/VarHandle" ∧ (parseMethodDescriptor yX7_away.desc).map (fun d => d.parameters.length) = some 0 := by decide +kernel
def m_X7_has (S : St) (p0 : Int32) (p1 : Int32) : Option (Int32) :=
  if ((p0 >>> (p1 &&& 31)) &&& (nI 1)) = (nI 1) then
    (
    some (nI 1)
    )
  else
    some (nI 0)
def rl_X7_has : Room := { frames := 0, cells := 0, slots := 0, locals := 0 }
theorem cdS_X7_has : yX7_has.cls ≠ "java/lang/invoke/MethodHandle" ∧ yX7_has.cls ≠ "java/lang/invoke/VarHandle" ∧ (parseMethodDescriptor yX7_has.desc).map (fun d => d.parameters.length) = some 2 := by decide +kernel
def m_X7_beginsNext_J128 (x2 : Int32) (rec5 : Int32 → Int32 → Option (Int32)) (t6 : Int32) : Option (Int32) :=
  zb (x2 + (-1)) fun x7 =>
  rec5 t6 x7
def m_X7_beginsNext_J127 (x2 : Int32) (rec5 : Int32 → Int32 → Option (Int32)) (x1 : Int32) : Option (Int32) :=
  m_X7_beginsNext_J128 x2 rec5 x1
def m_X7_beginsNext_J123 (x2 : Int32) (rec5 : Int32 → Int32 → Option (Int32)) : Option (Int32) :=
  m_X7_beginsNext_J128 x2 rec5 x2
def m_X7_beginsNext_J90 (x5 : Int32) (rec38 : Int32 → Int32 → Option (Int32)) (t8 : Int32) : Option (Int32) :=
  zb (x5 + (nI 1)) fun x9 =>
  rec38 t8 x9
def m_X7_beginsNext_J89 (x5 : Int32) (rec38 : Int32 → Int32 → Option (Int32)) : Option (Int32) :=
  m_X7_beginsNext_J90 x5 rec38 (nI 0)
def m_X7_beginsNext_J85 (x5 : Int32) (rec38 : Int32 → Int32 → Option (Int32)) : Option (Int32) :=
  m_X7_beginsNext_J90 x5 rec38 (nI 1)
def m_X7_beginsNext_B38 (x2 : Int32) (rec5 : Int32 → Int32 → Option (Int32)) (x1 : Int32) (S : St) (p1 : Int32) (rec38 : Int32 → Int32 → Option (Int32)) (x4 : Int32) (x5 : Int32) : Option (Int32) :=
  if (nI 32) ≤ x5 then
    (
    if x4 = 0 then
      (
      m_X7_beginsNext_J127 x2 rec5 x1 
      )
    else
      if x1 = (-1) then
        (
        m_X7_beginsNext_J123 x2 rec5 
        )
      else
        zg (inb x2 32) <|
        zg (inb x1 32) <|
        if (ri S 45 x2) < (ri S 45 x1) then
          (
          m_X7_beginsNext_J127 x2 rec5 x1 
          )
        else
          m_X7_beginsNext_J123 x2 rec5 
    )
  else
    if x4 = 0 then
      (
      m_X7_beginsNext_J89 x5 rec38 
      )
    else
      zg (inb x2 32) <|
      zo (m_X7_has S (ri S 44 x2) x5) fun x10 =>
      if x10 = 0 then
        (
        m_X7_beginsNext_J85 x5 rec38 
        )
      else
        zg (inb x5 32) <|
        if (ri S 46 x5) ≤ 0 then
          (
          m_X7_beginsNext_J89 x5 rec38 
          )
        else
          zg (inb x5 32) <|
          if p1 < (ri S 46 x5) then
            (
            m_X7_beginsNext_J89 x5 rec38 
            )
          else
            m_X7_beginsNext_J85 x5 rec38 
def m_X7_beginsNext_J33 (x2 : Int32) (rec5 : Int32 → Int32 → Option (Int32)) (x1 : Int32) (S : St) (p1 : Int32) (t3 : Int32) : Option (Int32) :=
  zl2 (m_X7_beginsNext_B38 x2 rec5 x1 S p1) FU t3 (nI 0)
def m_X7_beginsNext_J32 (x2 : Int32) (rec5 : Int32 → Int32 → Option (Int32)) (x1 : Int32) (S : St) (p1 : Int32) : Option (Int32) :=
  m_X7_beginsNext_J33 x2 rec5 x1 S p1 (nI 0)
def m_X7_beginsNext_B5 (S : St) (p1 : Int32) (rec5 : Int32 → Int32 → Option (Int32)) (x1 : Int32) (x2 : Int32) : Option (Int32) :=
  if x2 < 0 then
    (
    some x1
    )
  else
    zg (inb x2 32) <|
    if (ri S 29 x2) = (nI 2) then
      (
      zg (inb x2 32) <|
      if (ri S 46 x2) = 0 then
        (
        m_X7_beginsNext_J33 x2 rec5 x1 S p1 (nI 1)
        )
      else
        m_X7_beginsNext_J32 x2 rec5 x1 S p1 
      )
    else
      m_X7_beginsNext_J32 x2 rec5 x1 S p1 
def m_X7_beginsNext (S : St) (p1 : Int32) : Option (Int32) :=
  zl2 (m_X7_beginsNext_B5 S p1) FU (-1) (nI 31)
def rl_X7_beginsNext : Room := { frames := 1, cells := 0, slots := 0, locals := 21 }
theorem cdV_X7_beginsNext : yX7_beginsNext.cls = RX7 ∧ yX7_beginsNext.cls ≠ "java/lang/invoke/MethodHandle" ∧ yX7_beginsNext.cls ≠ "java/lang/invoke/VarHandle" ∧ (parseMethodDescriptor yX7_beginsNext.desc).map (fun d => d.parameters.length) = some 1 := by decide +kernel
def m_X7_isIn (S : St) (p0 : Int32) (p1 : Int32) (p2 : Int32) : Option (Int32) :=
  if p0 < p1 then
    (
    some (nI 0)
    )
  else
    if p2 < p0 then
      (
      some (nI 0)
      )
    else
      some (nI 1)
def rl_X7_isIn : Room := { frames := 0, cells := 0, slots := 0, locals := 0 }
theorem cdS_X7_isIn : yX7_isIn.cls ≠ "java/lang/invoke/MethodHandle" ∧ yX7_isIn.cls ≠ "java/lang/invoke/VarHandle" ∧ (parseMethodDescriptor yX7_isIn.desc).map (fun d => d.parameters.length) = some 3 := by decide +kernel
def m_X7_isTarget (S : St) (p0 : Int32) : Option (Int32) :=
  zo (m_X7_isIn S p0 (nI 0) (nI 15)) fun x1 =>
  zg (bz x1) <|
  some x1
def rl_X7_isTarget : Room := { frames := 1, cells := 0, slots := 0, locals := 22 }
theorem cdS_X7_isTarget : yX7_isTarget.cls ≠ "java/lang/invoke/MethodHandle" ∧ yX7_isTarget.cls ≠ "java/lang/invoke/VarHandle" ∧ (parseMethodDescriptor yX7_isTarget.desc).map (fun d => d.parameters.length) = some 1 := by decide +kernel
def m_X7_isNode (S : St) (p0 : Int32) (p1 : Int32) : Option (Int32) :=
  zo (m_X7_isTarget S p0) fun x1 =>
  if x1 = 0 then
    (
    some (nI 0)
    )
  else
    zo (m_X7_isIn S p1 (nI 0) (nI 1)) fun x2 =>
    if x2 = 0 then
      (
      some (nI 0)
      )
    else
      some (nI 1)
def rl_X7_isNode : Room := { frames := 2, cells := 0, slots := 0, locals := 42 }
theorem cdS_X7_isNode : yX7_isNode.cls ≠ "java/lang/invoke/MethodHandle" ∧ yX7_isNode.cls ≠ "java/lang/invoke/VarHandle" ∧ (parseMethodDescriptor yX7_isNode.desc).map (fun d => d.parameters.length) = some 2 := by decide +kernel
def m_X7_goes (S : St) (p1 : Int32) : Option ((Int32 × St)) :=
  zb (wi S 47 0 p1) fun S1 =>
  if p1 = 0 then
    (
    some ((nI 1), S1)
    )
  else
    some ((nI 0), S1)
def rl_X7_goes : Room := { frames := 0, cells := 0, slots := 0, locals := 0 }
theorem cdV_X7_goes : yX7_goes.cls = RX7 ∧ yX7_goes.cls ≠ "java/lang/invoke/MethodHandle" ∧ yX7_goes.cls ≠ "java/lang/invoke/VarHandle" ∧ (parseMethodDescriptor yX7_goes.desc).map (fun d => d.parameters.length) = some 1 := by decide +kernel
def m_X7_ruleOf_B49 (p1 : Int32) (S : St) (rec49 : Int64 → Int32 → Option (Int64)) (x2 : Int64) (x3 : Int32) : Option (Int64) :=
  zg (inb p1 16) <|
  if (ri S 5 p1) ≤ x3 then
    (
    some x2
    )
  else
    zg (inb (((nI 4) * p1) + x3) 64) <|
    zg (inb (((nI 4) * p1) + x3) 64) <|
    zb (x2 ||| ((Int32.toInt64 (((ri S 6 (((nI 4) * p1) + x3)) * (nI 32)) + (ri S 7 (((nI 4) * p1) + x3)))) <<< ((((nI 26) + ((nI 7) * x3))).toInt64 &&& 63))) fun x4 =>
    zb (x3 + (nI 1)) fun x5 =>
    rec49 x4 x5
def m_X7_ruleOf (S : St) (p1 : Int32) : Option (Int64) :=
  zg (inb p1 16) <|
  zg (inb p1 16) <|
  zg (inb p1 16) <|
  zg (inb p1 16) <|
  zb (((((Int32.toInt64 (ri S 1 p1)) + (1 : Int64)) + ((8 : Int64) * (Int32.toInt64 (ri S 2 p1)))) + ((8192 : Int64) * (Int32.toInt64 (ri S 3 p1)))) + ((8388608 : Int64) * (Int32.toInt64 (ri S 5 p1)))) fun x1 =>
  zl2 (m_X7_ruleOf_B49 p1 S) FU x1 (nI 0)
def rl_X7_ruleOf : Room := { frames := 0, cells := 0, slots := 0, locals := 0 }
theorem cdV_X7_ruleOf : yX7_ruleOf.cls = RX7 ∧ yX7_ruleOf.cls ≠ "java/lang/invoke/MethodHandle" ∧ yX7_ruleOf.cls ≠ "java/lang/invoke/VarHandle" ∧ (parseMethodDescriptor yX7_ruleOf.desc).map (fun d => d.parameters.length) = some 1 := by decide +kernel
def m_X7_pushes_J108 (p1 : Int32) (S6 : St) : Option (St) :=
  zg (inb p1 32) <|
  zb (wi S6 36 (Int32.toNatClampNeg p1) (nI 0)) fun S8 =>
  zg (inb p1 32) <|
  if (ri S8 15 p1) = 0 then
    (
    zg (inb p1 32) <|
    zb (wi S8 32 (Int32.toNatClampNeg p1) (nI 1)) fun S9 =>
    some S9
    )
  else
    zg (inb p1 32) <|
    zb (wi S8 32 (Int32.toNatClampNeg p1) (nI 2)) fun S10 =>
    some S10
def m_X7_pushes (S : St) (p1 : Int32) : Option (St) :=
  zg (inb (rs S 34) 40) <|
  zb (wi S 35 (Int32.toNatClampNeg (rs S 34)) p1) fun S1 =>
  zb (wi S1 34 0 (rs S1 34 + (nI 1))) fun S2 =>
  zg (inb p1 32) <|
  zb (wi S2 29 (Int32.toNatClampNeg p1) (nI 1)) fun S3 =>
  zg (inb (nI 3) 4) <|
  zg (inb (nI 3) 4) <|
  zb (wi S3 33 (Int32.toNatClampNeg (nI 3)) ((ri S3 33 (nI 3)) + (nI 1))) fun S4 =>
  zg (inb p1 32) <|
  zb (wi S4 38 (Int32.toNatClampNeg p1) (nI 0)) fun S5 =>
  zg (inb p1 32) <|
  zb (wi S5 37 (Int32.toNatClampNeg p1) (nI 0)) fun S6 =>
  zb (p1 / (nI 2)) fun x7 =>
  zg (inb p1 32) <|
  if (ri S6 15 p1) = 0 then
    (
    m_X7_pushes_J108 p1 S6 
    )
  else
    zg (inb x7 16) <|
    if (ri S6 1 x7) = (-1) then
      (
      m_X7_pushes_J108 p1 S6 
      )
    else
      zg (inb p1 32) <|
      zo (m_X7_ruleOf S6 x7) fun x11 =>
      if (lg_cmp (rj S6 16 p1) x11) = 0 then
        (
        zg (inb p1 32) <|
        zg (inb x7 16) <|
        if (ri S6 17 p1) = (ri S6 4 x7) then
          (
          if (rs S6 43) = 0 then
            (
            zg (inb p1 32) <|
            zb (wi S6 36 (Int32.toNatClampNeg p1) (nI 1)) fun S14 =>
            zg (inb p1 32) <|
            zb (wi S14 32 (Int32.toNatClampNeg p1) (nI 0)) fun S15 =>
            some S15
            )
          else
            zg (inb p1 32) <|
            zb (wi S6 36 (Int32.toNatClampNeg p1) (nI 0)) fun S12 =>
            zg (inb p1 32) <|
            zb (wi S12 32 (Int32.toNatClampNeg p1) (nI 0)) fun S13 =>
            some S13
          )
        else
          m_X7_pushes_J108 p1 S6 
        )
      else
        m_X7_pushes_J108 p1 S6 
def rl_X7_pushes : Room := { frames := 1, cells := 0, slots := 0, locals := 24 }
theorem cdV_X7_pushes : yX7_pushes.cls = RX7 ∧ yX7_pushes.cls ≠ "java/lang/invoke/MethodHandle" ∧ yX7_pushes.cls ≠ "java/lang/invoke/VarHandle" ∧ (parseMethodDescriptor yX7_pushes.desc).map (fun d => d.parameters.length) = some 1 := by decide +kernel
def m_X7_finishes (S : St) (p1 : Int32) (p2 : Int32) (p3 : Int32) : Option (St) :=
  zg (inb p1 32) <|
  zb (wi S 29 (Int32.toNatClampNeg p1) (nI 2)) fun S1 =>
  zg (inb p1 32) <|
  zb (wi S1 30 (Int32.toNatClampNeg p1) p2) fun S2 =>
  zg (inb p1 32) <|
  zb (wi S2 31 (Int32.toNatClampNeg p1) p3) fun S3 =>
  zb (wi S3 34 0 (rs S3 34 - (nI 1))) fun S4 =>
  if (rs S4 43) = 0 then
    (
    if 0 ≤ p2 then
      (
      some S4
      )
    else
      zg (inb p1 32) <|
      zb (wi S4 15 (Int32.toNatClampNeg p1) (nI 0)) fun S5 =>
      some S5
    )
  else
    some S4
def rl_X7_finishes : Room := { frames := 0, cells := 0, slots := 0, locals := 0 }
theorem cdV_X7_finishes : yX7_finishes.cls = RX7 ∧ yX7_finishes.cls ≠ "java/lang/invoke/MethodHandle" ∧ yX7_finishes.cls ≠ "java/lang/invoke/VarHandle" ∧ (parseMethodDescriptor yX7_finishes.desc).map (fun d => d.parameters.length) = some 3 := by decide +kernel
def m_X7_folder_B5 (p1 : Int32) (S : St) (rec5 : Int64 → Int32 → Option (Int64)) (x2 : Int64) (x3 : Int32) : Option (Int64) :=
  if (nI 5) ≤ x3 then
    (
    some x2
    )
  else
    zg (inb (((nI 5) * p1) + x3) 20) <|
    zb ((((1024 : Int64) * x2) + (Int32.toInt64 (ri S 0 (((nI 5) * p1) + x3)))) + (1 : Int64)) fun x4 =>
    zb (x3 + (nI 1)) fun x5 =>
    rec5 x4 x5
def m_X7_folder (S : St) (p1 : Int32) : Option (Int64) :=
  zb (0 : Int64) fun x1 =>
  zl2 (m_X7_folder_B5 p1 S) FU x1 (nI 0)
def rl_X7_folder : Room := { frames := 0, cells := 0, slots := 0, locals := 0 }
theorem cdV_X7_folder : yX7_folder.cls = RX7 ∧ yX7_folder.cls ≠ "java/lang/invoke/MethodHandle" ∧ yX7_folder.cls ≠ "java/lang/invoke/VarHandle" ∧ (parseMethodDescriptor yX7_folder.desc).map (fun d => d.parameters.length) = some 1 := by decide +kernel
def m_X7_nodeOf (S : St) (p0 : Int32) (p1 : Int32) (p2 : Int32) : Option (Int32) :=
  if p0 = (nI 3) then
    (
    some (((nI 2) * p1) + ((nI 1) - p2))
    )
  else
    some (((nI 2) * p1) + p2)
def rl_X7_nodeOf : Room := { frames := 0, cells := 0, slots := 0, locals := 0 }
theorem cdS_X7_nodeOf : yX7_nodeOf.cls ≠ "java/lang/invoke/MethodHandle" ∧ yX7_nodeOf.cls ≠ "java/lang/invoke/VarHandle" ∧ (parseMethodDescriptor yX7_nodeOf.desc).map (fun d => d.parameters.length) = some 3 := by decide +kernel
def m_X7_comparesOne_J172 (t4 : Int32) (p1 : Int32) (S : St) (t5 : Int32) (x1 : Int32) (t6 : Int32) : Option (St) :=
  if t4 ≤ (nI 1) then
    (
    if t6 = 0 then
      (
      zg (inb p1 32) <|
      zg (inb p1 32) <|
      zb (wi S 32 (Int32.toNatClampNeg p1) ((nI 10) + (ri S 37 p1))) fun S7 =>
      zg (inb p1 32) <|
      zb (wi S7 36 (Int32.toNatClampNeg p1) (nI 0)) fun S8 =>
      zg (inb p1 32) <|
      zb (wi S8 37 (Int32.toNatClampNeg p1) (nI 0)) fun S9 =>
      some S9
      )
    else
      zg (inb p1 32) <|
      zg (inb p1 32) <|
      zb (wi S 37 (Int32.toNatClampNeg p1) ((ri S 37 p1) + (nI 1))) fun S10 =>
      some S10
    )
  else
    zo (m_X7_nodeOf S t4 t5 (irm p1 (nI 2))) fun x11 =>
    zg (inb x11 32) <|
    if (ri S 29 x11) = 0 then
      (
      zo (m_X7_pushes S x11) fun S19 =>
      some S19
      )
    else
      zg (inb x11 32) <|
      if (ri S 29 x11) = (nI 2) then
        (
        zg (inb x11 32) <|
        zg (inb x1 160) <|
        if (lg_cmp (Int32.toInt64 (ri S 30 x11)) (rj S 21 x1)) = 0 then
          (
          zg (inb p1 32) <|
          zg (inb p1 32) <|
          zb (wi S 37 (Int32.toNatClampNeg p1) ((ri S 37 p1) + (nI 1))) fun S18 =>
          some S18
          )
        else
          zg (inb p1 32) <|
          zg (inb p1 32) <|
          zb (wi S 32 (Int32.toNatClampNeg p1) ((nI 10) + (ri S 37 p1))) fun S15 =>
          zg (inb p1 32) <|
          zb (wi S15 36 (Int32.toNatClampNeg p1) (nI 0)) fun S16 =>
          zg (inb p1 32) <|
          zb (wi S16 37 (Int32.toNatClampNeg p1) (nI 0)) fun S17 =>
          some S17
        )
      else
        zg (inb p1 32) <|
        zg (inb p1 32) <|
        zb (wi S 32 (Int32.toNatClampNeg p1) ((nI 10) + (ri S 37 p1))) fun S12 =>
        zg (inb p1 32) <|
        zb (wi S12 36 (Int32.toNatClampNeg p1) (nI 0)) fun S13 =>
        zg (inb p1 32) <|
        zb (wi S13 37 (Int32.toNatClampNeg p1) (nI 0)) fun S14 =>
        some S14
def m_X7_comparesOne_J108 (t4 : Int32) (x1 : Int32) (S : St) (p1 : Int32) (t5 : Int32) : Option (St) :=
  if t4 = 0 then
    (
    zg (inb t5 20) <|
    zg (inb x1 160) <|
    if (lg_cmp (Int32.toInt64 (ri S 0 t5)) (rj S 21 x1)) = 0 then
      (
      m_X7_comparesOne_J172 t4 p1 S t5 x1 (nI 1)
      )
    else
      m_X7_comparesOne_J172 t4 p1 S t5 x1 (nI 0)
    )
  else
    if t4 = (nI 1) then
      (
      zo (m_X7_folder S t5) fun x20 =>
      zg (inb x1 160) <|
      if (lg_cmp x20 (rj S 21 x1)) = 0 then
        (
        m_X7_comparesOne_J172 t4 p1 S t5 x1 (nI 1)
        )
      else
        m_X7_comparesOne_J172 t4 p1 S t5 x1 (nI 0)
      )
    else
      m_X7_comparesOne_J172 t4 p1 S t5 x1 (nI 1)
def m_X7_comparesOne_J81 (x2 : Int32) (x1 : Int32) (S : St) (p1 : Int32) (x3 : Int32) (t4 : Int32) : Option (St) :=
  if x2 = (nI 4) then
    (
    zg (inb x1 160) <|
    m_X7_comparesOne_J108 t4 x1 S p1 (ri S 20 x1)
    )
  else
    zg (inb (((nI 4) * x3) + x2) 64) <|
    m_X7_comparesOne_J108 t4 x1 S p1 (ri S 7 (((nI 4) * x3) + x2))
def m_X7_comparesOne (S : St) (p1 : Int32) : Option (St) :=
  zg (inb p1 32) <|
  zg (inb p1 32) <|
  if (ri S 37 p1) = (ri S 18 p1) then
    (
    zg (inb (nI 2) 4) <|
    zg (inb (nI 2) 4) <|
    zb (wi S 33 (Int32.toNatClampNeg (nI 2)) ((ri S 33 (nI 2)) + (nI 1))) fun S21 =>
    zg (inb p1 32) <|
    zo (m_X7_finishes S21 p1 (ri S21 22 p1) (nI 1)) fun S22 =>
    some S22
    )
  else
    zg (inb p1 32) <|
    zb (((nI 5) * p1) + (ri S 37 p1)) fun x1 =>
    zg (inb x1 160) <|
    zb (ri S 19 x1) fun x2 =>
    zb (p1 / (nI 2)) fun x3 =>
    if x2 = (nI 4) then
      (
      m_X7_comparesOne_J81 x2 x1 S p1 x3 (nI 0)
      )
    else
      zg (inb (((nI 4) * x3) + x2) 64) <|
      m_X7_comparesOne_J81 x2 x1 S p1 x3 (ri S 6 (((nI 4) * x3) + x2))
def rl_X7_comparesOne : Room := { frames := 2, cells := 0, slots := 0, locals := 47 }
theorem cdV_X7_comparesOne : yX7_comparesOne.cls = RX7 ∧ yX7_comparesOne.cls ≠ "java/lang/invoke/MethodHandle" ∧ yX7_comparesOne.cls ≠ "java/lang/invoke/VarHandle" ∧ (parseMethodDescriptor yX7_comparesOne.desc).map (fun d => d.parameters.length) = some 1 := by decide +kernel
def m_X7_sumOf_B4 (p1 : Int32) (S : St) (rec4 : Int32 → Int32 → Option (Int32)) (x1 : Int32) (x2 : Int32) : Option (Int32) :=
  if (nI 5) ≤ x2 then
    (
    some (irm x1 (nI 1000))
    )
  else
    zg (inb (((nI 5) * p1) + x2) 20) <|
    if (ri S 0 (((nI 5) * p1) + x2)) = (-1) then
      (
      zb (x1 + (nI 0)) fun x5 =>
      zb (x2 + (nI 1)) fun x6 =>
      rec4 x5 x6
      )
    else
      zg (inb (((nI 5) * p1) + x2) 20) <|
      zb (x1 + (ri S 0 (((nI 5) * p1) + x2))) fun x3 =>
      zb (x2 + (nI 1)) fun x4 =>
      rec4 x3 x4
def m_X7_sumOf (S : St) (p1 : Int32) : Option (Int32) :=
  zl2 (m_X7_sumOf_B4 p1 S) FU (nI 0) (nI 0)
def rl_X7_sumOf : Room := { frames := 0, cells := 0, slots := 0, locals := 0 }
theorem cdV_X7_sumOf : yX7_sumOf.cls = RX7 ∧ yX7_sumOf.cls ≠ "java/lang/invoke/MethodHandle" ∧ yX7_sumOf.cls ≠ "java/lang/invoke/VarHandle" ∧ (parseMethodDescriptor yX7_sumOf.desc).map (fun d => d.parameters.length) = some 1 := by decide +kernel
def m_X7_valueRead (S : St) (p1 : Int32) (p2 : Int32) : Option (Int32) :=
  zg (inb (((nI 5) * p1) + p2) 160) <|
  zb (((nI 4) * (p1 / (nI 2))) + (ri S 39 (((nI 5) * p1) + p2))) fun x1 =>
  zg (inb x1 64) <|
  if (ri S 6 x1) = (nI 1) then
    (
    zg (inb x1 64) <|
    zo (m_X7_sumOf S (ri S 7 x1)) fun x2 =>
    some x2
    )
  else
    zg (inb (((nI 5) * p1) + p2) 160) <|
    some (Int64.toInt32 (rj S 41 (((nI 5) * p1) + p2)))
def rl_X7_valueRead : Room := { frames := 1, cells := 0, slots := 0, locals := 23 }
theorem cdV_X7_valueRead : yX7_valueRead.cls = RX7 ∧ yX7_valueRead.cls ≠ "java/lang/invoke/MethodHandle" ∧ yX7_valueRead.cls ≠ "java/lang/invoke/VarHandle" ∧ (parseMethodDescriptor yX7_valueRead.desc).map (fun d => d.parameters.length) = some 2 := by decide +kernel
def m_X7_notes (S : St) (p1 : Int32) (p2 : Int32) (p3 : Int32) (p4 : Int64) : Option (St) :=
  zg (inb p1 32) <|
  zg (inb (((nI 5) * p1) + (ri S 38 p1)) 160) <|
  zb (wi S 39 (Int32.toNatClampNeg (((nI 5) * p1) + (ri S 38 p1))) p2) fun S1 =>
  zg (inb p1 32) <|
  zg (inb (((nI 5) * p1) + (ri S1 38 p1)) 160) <|
  zb (wi S1 40 (Int32.toNatClampNeg (((nI 5) * p1) + (ri S1 38 p1))) p3) fun S2 =>
  zg (inb p1 32) <|
  zg (inb (((nI 5) * p1) + (ri S2 38 p1)) 160) <|
  zb (wj S2 41 (Int32.toNatClampNeg (((nI 5) * p1) + (ri S2 38 p1))) p4) fun S3 =>
  zg (inb p1 32) <|
  zg (inb p1 32) <|
  zb (wi S3 38 (Int32.toNatClampNeg p1) ((ri S3 38 p1) + (nI 1))) fun S4 =>
  some S4
def rl_X7_notes : Room := { frames := 0, cells := 0, slots := 0, locals := 0 }
theorem cdV_X7_notes : yX7_notes.cls = RX7 ∧ yX7_notes.cls ≠ "java/lang/invoke/MethodHandle" ∧ yX7_notes.cls ≠ "java/lang/invoke/VarHandle" ∧ (parseMethodDescriptor yX7_notes.desc).map (fun d => d.parameters.length) = some 4 := by decide +kernel
def m_X7_isSeen_J76 (x2 : Int32) (rec5 : Int32 → Int32 → Option (Int32)) (t5 : Int32) : Option (Int32) :=
  zb (x2 + (nI 1)) fun x6 =>
  rec5 t5 x6
def m_X7_isSeen_J71 (x2 : Int32) (rec5 : Int32 → Int32 → Option (Int32)) : Option (Int32) :=
  m_X7_isSeen_J76 x2 rec5 (nI 1)
def m_X7_isSeen_J75 (x2 : Int32) (rec5 : Int32 → Int32 → Option (Int32)) : Option (Int32) :=
  m_X7_isSeen_J76 x2 rec5 (nI 0)
def m_X7_isSeen_J57 (x3 : Int32) (x4 : Int32) (p2 : Int32) (x2 : Int32) (rec5 : Int32 → Int32 → Option (Int32)) : Option (Int32) :=
  if x3 = (nI 1) then
    (
    if x4 = (p2 / (nI 5)) then
      (
      m_X7_isSeen_J71 x2 rec5 
      )
    else
      m_X7_isSeen_J75 x2 rec5 
    )
  else
    m_X7_isSeen_J75 x2 rec5 
def m_X7_isSeen_B5 (p1 : Int32) (S : St) (p2 : Int32) (rec5 : Int32 → Int32 → Option (Int32)) (x1 : Int32) (x2 : Int32) : Option (Int32) :=
  zg (inb p1 16) <|
  if (ri S 5 p1) ≤ x2 then
    (
    zg (bz x1) <|
    some x1
    )
  else
    zg (inb (((nI 4) * p1) + x2) 64) <|
    zb (ri S 6 (((nI 4) * p1) + x2)) fun x3 =>
    zg (inb (((nI 4) * p1) + x2) 64) <|
    zb (ri S 7 (((nI 4) * p1) + x2)) fun x4 =>
    if x1 = 0 then
      (
      if x3 = 0 then
        (
        if x4 = p2 then
          (
          m_X7_isSeen_J71 x2 rec5 
          )
        else
          m_X7_isSeen_J57 x3 x4 p2 x2 rec5 
        )
      else
        m_X7_isSeen_J57 x3 x4 p2 x2 rec5 
      )
    else
      m_X7_isSeen_J71 x2 rec5 
def m_X7_isSeen (S : St) (p1 : Int32) (p2 : Int32) : Option (Int32) :=
  zl2 (m_X7_isSeen_B5 p1 S p2) FU (nI 0) (nI 0)
def rl_X7_isSeen : Room := { frames := 0, cells := 0, slots := 0, locals := 0 }
theorem cdV_X7_isSeen : yX7_isSeen.cls = RX7 ∧ yX7_isSeen.cls ≠ "java/lang/invoke/MethodHandle" ∧ yX7_isSeen.cls ≠ "java/lang/invoke/VarHandle" ∧ (parseMethodDescriptor yX7_isSeen.desc).map (fun d => d.parameters.length) = some 2 := by decide +kernel
def m_X7_laysKey_B24 (p1 : Int32) (rec24 : St → Int32 → Option (St)) (S3 : St) (x4 : Int32) : Option (St) :=
  if (nI 5) ≤ x4 then
    (
    some S3
    )
  else
    zg (inb p1 32) <|
    if (ri S3 38 p1) ≤ x4 then
      (
      zg (inb (x4 + (nI 1)) 6) <|
      zb (wj S3 42 (Int32.toNatClampNeg (x4 + (nI 1))) (-2 : Int64)) fun S5 =>
      zb (x4 + (nI 1)) fun x6 =>
      rec24 S5 x6
      )
    else
      zg (inb (((nI 5) * p1) + x4) 160) <|
      zg (inb (x4 + (nI 1)) 6) <|
      zb (wj S3 42 (Int32.toNatClampNeg (x4 + (nI 1))) (rj S3 41 (((nI 5) * p1) + x4))) fun S7 =>
      zb (x4 + (nI 1)) fun x8 =>
      rec24 S7 x8
def m_X7_laysKey (S : St) (p1 : Int32) : Option (St) :=
  zo (m_X7_ruleOf S (p1 / (nI 2))) fun x1 =>
  zg (inb (nI 0) 6) <|
  zb (wj S 42 (Int32.toNatClampNeg (nI 0)) (((2 : Int64) * x1) + (Int32.toInt64 (irm p1 (nI 2))))) fun S2 =>
  zl2 (m_X7_laysKey_B24 p1) FU S2 (nI 0)
def rl_X7_laysKey : Room := { frames := 1, cells := 0, slots := 0, locals := 24 }
theorem cdV_X7_laysKey : yX7_laysKey.cls = RX7 ∧ yX7_laysKey.cls ≠ "java/lang/invoke/MethodHandle" ∧ yX7_laysKey.cls ≠ "java/lang/invoke/VarHandle" ∧ (parseMethodDescriptor yX7_laysKey.desc).map (fun d => d.parameters.length) = some 1 := by decide +kernel
def m_X7_entryOf_J57 (x2 : Int32) (x1 : Int32) (rec2 : Int32 → Option (Int32)) : Option (Int32) :=
  if x2 = 0 then
    (
    zb (x1 + (nI 1)) fun x4 =>
    rec2 x4
    )
  else
    some x1
def m_X7_entryOf_B14 (x1 : Int32) (rec2 : Int32 → Option (Int32)) (S : St) (rec14 : Int32 → Int32 → Option (Int32)) (x2 : Int32) (x3 : Int32) : Option (Int32) :=
  if (nI 6) ≤ x3 then
    (
    m_X7_entryOf_J57 x2 x1 rec2 
    )
  else
    if x2 = 0 then
      (
      m_X7_entryOf_J57 x2 x1 rec2 
      )
    else
      zg (inb (((nI 6) * x1) + x3) 606) <|
      zg (inb x3 6) <|
      if (lg_cmp (rj S 26 (((nI 6) * x1) + x3)) (rj S 42 x3)) = 0 then
        (
        zb (x3 + (nI 1)) fun x6 =>
        rec14 (nI 1) x6
        )
      else
        zb (x3 + (nI 1)) fun x5 =>
        rec14 (nI 0) x5
def m_X7_entryOf_B2 (S : St) (rec2 : Int32 → Option (Int32)) (x1 : Int32) : Option (Int32) :=
  if (rs S 25) ≤ x1 then
    (
    some (-1)
    )
  else
    zl2 (m_X7_entryOf_B14 x1 rec2 S) FU (nI 1) (nI 0)
def m_X7_entryOf (S : St) : Option (Int32) :=
  zl1 (m_X7_entryOf_B2 S) FU (nI 0)
def rl_X7_entryOf : Room := { frames := 0, cells := 0, slots := 0, locals := 0 }
theorem cdV_X7_entryOf : yX7_entryOf.cls = RX7 ∧ yX7_entryOf.cls ≠ "java/lang/invoke/MethodHandle" ∧ yX7_entryOf.cls ≠ "java/lang/invoke/VarHandle" ∧ (parseMethodDescriptor yX7_entryOf.desc).map (fun d => d.parameters.length) = some 0 := by decide +kernel
def m_X7_drops_B49 (rec49 : St → Int32 → Option (St)) (S5 : St) (x6 : Int32) : Option (St) :=
  if (rs S5 25) ≤ x6 then
    (
    some S5
    )
  else
    zg (inb (x6 + (nI 1)) 101) <|
    zg (inb x6 101) <|
    zb (wi S5 27 (Int32.toNatClampNeg x6) (ri S5 27 (x6 + (nI 1)))) fun S7 =>
    zg (inb (x6 + (nI 1)) 101) <|
    zg (inb x6 101) <|
    zb (wi S7 28 (Int32.toNatClampNeg x6) (ri S7 28 (x6 + (nI 1)))) fun S8 =>
    zb (x6 + (nI 1)) fun x9 =>
    rec49 S8 x9
def m_X7_drops_B15 (p1 : Int32) (rec15 : St → Int32 → Option (St)) (S3 : St) (x4 : Int32) : Option (St) :=
  if ((nI 6) * rs S3 25) ≤ x4 then
    (
    zl2 m_X7_drops_B49 FU S3 p1
    )
  else
    zg (inb (x4 + (nI 6)) 606) <|
    zg (inb x4 606) <|
    zb (wj S3 26 (Int32.toNatClampNeg x4) (rj S3 26 (x4 + (nI 6)))) fun S10 =>
    zb (x4 + (nI 1)) fun x11 =>
    rec15 S10 x11
def m_X7_drops (S : St) (p1 : Int32) : Option (St) :=
  zb (wi S 25 0 (rs S 25 - (nI 1))) fun S1 =>
  zb ((nI 6) * p1) fun x2 =>
  zl2 (m_X7_drops_B15 p1) FU S1 x2
def rl_X7_drops : Room := { frames := 0, cells := 0, slots := 0, locals := 0 }
theorem cdV_X7_drops : yX7_drops.cls = RX7 ∧ yX7_drops.cls ≠ "java/lang/invoke/MethodHandle" ∧ yX7_drops.cls ≠ "java/lang/invoke/VarHandle" ∧ (parseMethodDescriptor yX7_drops.desc).map (fun d => d.parameters.length) = some 1 := by decide +kernel
def m_X7_keeps_B61 (p1 : Int32) (p2 : Int32) (p3 : Int32) (rec61 : St → Int32 → Option (St)) (S9 : St) (x10 : Int32) : Option (St) :=
  if (((nI 5) * p1) + (nI 5)) ≤ x10 then
    (
    zg (inb p1 32) <|
    zb (wi S9 22 (Int32.toNatClampNeg p1) p2) fun S11 =>
    zg (inb p1 32) <|
    zb (wi S11 23 (Int32.toNatClampNeg p1) p3) fun S12 =>
    some S12
    )
  else
    zg (inb x10 160) <|
    zg (inb x10 160) <|
    zb (wi S9 19 (Int32.toNatClampNeg x10) (ri S9 39 x10)) fun S13 =>
    zg (inb x10 160) <|
    zg (inb x10 160) <|
    zb (wi S13 20 (Int32.toNatClampNeg x10) (ri S13 40 x10)) fun S14 =>
    zg (inb x10 160) <|
    zg (inb x10 160) <|
    zb (wj S14 21 (Int32.toNatClampNeg x10) (rj S14 41 x10)) fun S15 =>
    zb (x10 + (nI 1)) fun x16 =>
    rec61 S15 x16
def m_X7_keeps (S : St) (p1 : Int32) (p2 : Int32) (p3 : Int32) : Option (St) :=
  zb (p1 / (nI 2)) fun x1 =>
  zg (inb p1 32) <|
  zb (wi S 15 (Int32.toNatClampNeg p1) (nI 1)) fun S2 =>
  zg (inb p1 32) <|
  zb (wi S2 24 (Int32.toNatClampNeg p1) (nI 0)) fun S3 =>
  zo (m_X7_ruleOf S3 x1) fun x4 =>
  zg (inb p1 32) <|
  zb (wj S3 16 (Int32.toNatClampNeg p1) x4) fun S5 =>
  zg (inb x1 16) <|
  zg (inb p1 32) <|
  zb (wi S5 17 (Int32.toNatClampNeg p1) (ri S5 4 x1)) fun S6 =>
  zg (inb p1 32) <|
  zg (inb p1 32) <|
  zb (wi S6 18 (Int32.toNatClampNeg p1) (ri S6 38 p1)) fun S7 =>
  zb ((nI 5) * p1) fun x8 =>
  zl2 (m_X7_keeps_B61 p1 p2 p3) FU S7 x8
def rl_X7_keeps : Room := { frames := 1, cells := 0, slots := 0, locals := 24 }
theorem cdV_X7_keeps : yX7_keeps.cls = RX7 ∧ yX7_keeps.cls ≠ "java/lang/invoke/MethodHandle" ∧ yX7_keeps.cls ≠ "java/lang/invoke/VarHandle" ∧ (parseMethodDescriptor yX7_keeps.desc).map (fun d => d.parameters.length) = some 3 := by decide +kernel
def m_X7_nextMachine_B2 (S : St) (rec2 : Int32 → Option ((Int32 × St))) (x1 : Int32) : Option ((Int32 × St)) :=
  if (nI 3) ≤ x1 then
    (
    some ((nI 3), S)
    )
  else
    zb (irm (rs S 11 + x1) (nI 3)) fun x2 =>
    zg (inb x2 3) <|
    if (ri S 10 x2) = 0 then
      (
      zb (wi S 11 0 (irm (x2 + (nI 1)) (nI 3))) fun S4 =>
      some (x2, S4)
      )
    else
      zb (x1 + (nI 1)) fun x3 =>
      rec2 x3
def m_X7_nextMachine (S : St) : Option ((Int32 × St)) :=
  zl1 (m_X7_nextMachine_B2 S) FU (nI 0)
def rl_X7_nextMachine : Room := { frames := 0, cells := 0, slots := 0, locals := 0 }
theorem cdV_X7_nextMachine : yX7_nextMachine.cls = RX7 ∧ yX7_nextMachine.cls ≠ "java/lang/invoke/MethodHandle" ∧ yX7_nextMachine.cls ≠ "java/lang/invoke/VarHandle" ∧ (parseMethodDescriptor yX7_nextMachine.desc).map (fun d => d.parameters.length) = some 0 := by decide +kernel
def m_X7_putsAway_J128 (x6 : Int32) (S9 : St) (rec41 : St → Int32 → Option (St)) (t10 : Int32) : Option (St) :=
  zg (inb x6 32) <|
  zg (bz t10) <|
  zb (wi S9 15 (Int32.toNatClampNeg x6) t10) fun S11 =>
  zb (x6 + (nI 1)) fun x12 =>
  rec41 S11 x12
def m_X7_putsAway_J127 (x6 : Int32) (S9 : St) (rec41 : St → Int32 → Option (St)) : Option (St) :=
  m_X7_putsAway_J128 x6 S9 rec41 (nI 0)
def m_X7_putsAway_J123 (x6 : Int32) (S9 : St) (rec41 : St → Int32 → Option (St)) : Option (St) :=
  m_X7_putsAway_J128 x6 S9 rec41 (nI 1)
def m_X7_putsAway_J95 (x6 : Int32) (S5 : St) (rec41 : St → Int32 → Option (St)) (t7 : Int32) (t8 : Int32) : Option (St) :=
  zg (inb x6 32) <|
  zg (bz t8) <|
  zb (wi S5 24 (Int32.toNatClampNeg x6) t8) fun S9 =>
  zg (inb x6 32) <|
  if (ri S9 15 x6) = 0 then
    (
    m_X7_putsAway_J127 x6 S9 rec41 
    )
  else
    if t7 = 0 then
      (
      m_X7_putsAway_J123 x6 S9 rec41 
      )
    else
      zg (inb x6 32) <|
      if (ri S9 29 x6) ≤ 0 then
        (
        m_X7_putsAway_J127 x6 S9 rec41 
        )
      else
        m_X7_putsAway_J123 x6 S9 rec41 
def m_X7_putsAway_J90 (x6 : Int32) (S5 : St) (rec41 : St → Int32 → Option (St)) (t7 : Int32) : Option (St) :=
  m_X7_putsAway_J95 x6 S5 rec41 t7 (nI 1)
def m_X7_putsAway_J71 (x6 : Int32) (S5 : St) (rec41 : St → Int32 → Option (St)) (t7 : Int32) : Option (St) :=
  zg (inb x6 32) <|
  if (ri S5 24 x6) = 0 then
    (
    if t7 = 0 then
      (
      m_X7_putsAway_J95 x6 S5 rec41 t7 (nI 0)
      )
    else
      m_X7_putsAway_J90 x6 S5 rec41 t7 
    )
  else
    m_X7_putsAway_J90 x6 S5 rec41 t7 
def m_X7_putsAway_J70 (x6 : Int32) (S5 : St) (rec41 : St → Int32 → Option (St)) : Option (St) :=
  m_X7_putsAway_J71 x6 S5 rec41 (nI 0)
def m_X7_putsAway_B41 (p1 : Int32) (rec41 : St → Int32 → Option (St)) (S5 : St) (x6 : Int32) : Option (St) :=
  if (nI 32) ≤ x6 then
    (
    some S5
    )
  else
    zg (inb x6 32) <|
    if (ri S5 15 x6) = 0 then
      (
      m_X7_putsAway_J70 x6 S5 rec41 
      )
    else
      zg (inb x6 32) <|
      if (ri S5 23 x6) = p1 then
        (
        m_X7_putsAway_J71 x6 S5 rec41 (nI 1)
        )
      else
        m_X7_putsAway_J70 x6 S5 rec41 
def m_X7_putsAway_J33 (x4 : Int32) (rec14 : St → Int32 → Option (St)) (S13 : St) : Option (St) :=
  zb (x4 + (-1)) fun x14 =>
  rec14 S13 x14
def m_X7_putsAway_B14 (p1 : Int32) (rec14 : St → Int32 → Option (St)) (S3 : St) (x4 : Int32) : Option (St) :=
  if x4 < 0 then
    (
    zl2 (m_X7_putsAway_B41 p1) FU S3 (nI 0)
    )
  else
    zg (inb x4 101) <|
    if (ri S3 28 x4) = p1 then
      (
      zo (m_X7_drops S3 x4) fun S15 =>
      m_X7_putsAway_J33 x4 rec14 S15
      )
    else
      m_X7_putsAway_J33 x4 rec14 S3
def m_X7_putsAway (S : St) (p1 : Int32) : Option (St) :=
  zg (inb p1 3) <|
  zb (wi S 10 (Int32.toNatClampNeg p1) (nI 1)) fun S1 =>
  zb (rs S1 25 - (nI 1)) fun x2 =>
  zl2 (m_X7_putsAway_B14 p1) FU S1 x2
def rl_X7_putsAway : Room := { frames := 1, cells := 0, slots := 0, locals := 22 }
theorem cdV_X7_putsAway : yX7_putsAway.cls = RX7 ∧ yX7_putsAway.cls ≠ "java/lang/invoke/MethodHandle" ∧ yX7_putsAway.cls ≠ "java/lang/invoke/VarHandle" ∧ (parseMethodDescriptor yX7_putsAway.desc).map (fun d => d.parameters.length) = some 1 := by decide +kernel
def m_X7_runs_B184 (x10 : Int32) (x8 : Int32) (x7 : Int32) (p1 : Int32) (rec184 : St → Int32 → Option (St)) (S12 : St) (x13 : Int32) : Option (St) :=
  if (nI 6) ≤ x13 then
    (
    zg (inb x10 101) <|
    zb (wi S12 27 (Int32.toNatClampNeg x10) x8) fun S14 =>
    zg (inb x10 101) <|
    zb (wi S14 28 (Int32.toNatClampNeg x10) x7) fun S15 =>
    if (rs S15 25) ≤ (nI 100) then
      (
      zo (m_X7_keeps S15 p1 x8 x7) fun S16 =>
      zo (m_X7_finishes S16 p1 x8 (nI 3)) fun S17 =>
      some S17
      )
    else
      zo (m_X7_drops S15 (nI 0)) fun S18 =>
      zo (m_X7_keeps S18 p1 x8 x7) fun S19 =>
      zo (m_X7_finishes S19 p1 x8 (nI 3)) fun S20 =>
      some S20
    )
  else
    zg (inb x13 6) <|
    zg (inb (((nI 6) * x10) + x13) 606) <|
    zb (wj S12 26 (Int32.toNatClampNeg (((nI 6) * x10) + x13)) (rj S12 42 x13)) fun S21 =>
    zb (x13 + (nI 1)) fun x22 =>
    rec184 S21 x22
def m_X7_runs_J165 (p1 : Int32) (S9 : St) (x7 : Int32) (x8 : Int32) : Option (St) :=
  zb (rs S9 25) fun x10 =>
  zb (wi S9 25 0 (rs S9 25 + (nI 1))) fun S11 =>
  zl2 (m_X7_runs_B184 x10 x8 x7 p1) FU S11 (nI 0)
def m_X7_runs_J122 (x4 : Int32) (p1 : Int32) (S2 : St) (p2 : Int32) (t6 : Int32) : Option (St) :=
  if x4 = (nI 3) then
    (
    m_X7_runs_J165 p1 S2 x4 t6
    )
  else
    if (rs S2 12) = 0 then
      (
      m_X7_runs_J165 p1 S2 x4 t6
      )
    else
      zg (inb (nI 0) 4) <|
      zg (inb (nI 0) 4) <|
      zb (wi S2 33 (Int32.toNatClampNeg (nI 0)) ((ri S2 33 (nI 0)) + (nI 1))) fun S23 =>
      if t6 = p2 then
        (
        m_X7_runs_J165 p1 S23 x4 t6
        )
      else
        zo (m_X7_putsAway S23 x4) fun S24 =>
        m_X7_runs_J165 p1 S24 (nI 3) p2
def m_X7_runs_J121 (x4 : Int32) (p1 : Int32) (S2 : St) (p2 : Int32) : Option (St) :=
  m_X7_runs_J122 x4 p1 S2 p2 p2
def m_X7_runs_J81 (x3 : Int32) (x4 : Int32) (p1 : Int32) (S2 : St) (p2 : Int32) : Option (St) :=
  if x3 = 0 then
    (
    if x4 = (nI 3) then
      (
      m_X7_runs_J121 x4 p1 S2 p2 
      )
    else
      zg (inb x4 3) <|
      if (ri S2 9 x4) = 0 then
        (
        m_X7_runs_J121 x4 p1 S2 p2 
        )
      else
        m_X7_runs_J122 x4 p1 S2 p2 (irm (p2 + (nI 1)) (nI 1000))
    )
  else
    zo (m_X7_finishes S2 p1 (-5) (nI 4)) fun S25 =>
    some S25
def m_X7_runs_J73 (x1 : Int32) (S28 : St) (x5 : Int32) (rec13 : St → Int32 → Int32 → Int32 → Option (St)) (t29 : Int32) (x27 : Int32) (t30 : Int32) : Option (St) :=
  zg (inb x1 16) <|
  zb (wi S28 8 (Int32.toNatClampNeg x1) ((ri S28 8 x1) - t30)) fun S31 =>
  zb (x5 + (nI 1)) fun x32 =>
  rec13 S31 t29 x27 x32
def m_X7_runs_J54 (x1 : Int32) (S28 : St) (x5 : Int32) (rec13 : St → Int32 → Int32 → Int32 → Option (St)) (x27 : Int32) (t29 : Int32) : Option (St) :=
  zg (inb x1 16) <|
  if t29 = 0 then
    (
    m_X7_runs_J73 x1 S28 x5 rec13 t29 x27 (nI 0)
    )
  else
    m_X7_runs_J73 x1 S28 x5 rec13 t29 x27 (nI 1)
def m_X7_runs_B13 (p1 : Int32) (p2 : Int32) (x1 : Int32) (rec13 : St → Int32 → Int32 → Int32 → Option (St)) (S2 : St) (x3 : Int32) (x4 : Int32) (x5 : Int32) : Option (St) :=
  if (nI 3) ≤ x5 then
    (
    m_X7_runs_J81 x3 x4 p1 S2 p2 
    )
  else
    if x3 = 0 then
      (
      m_X7_runs_J81 x3 x4 p1 S2 p2 
      )
    else
      zg (inb (nI 0) 4) <|
      zg (inb (nI 0) 4) <|
      zb (wi S2 33 (Int32.toNatClampNeg (nI 0)) ((ri S2 33 (nI 0)) + (nI 1))) fun S26 =>
      zo2 (m_X7_nextMachine S26) fun x27 S28 =>
      zg (inb x1 16) <|
      if (ri S28 8 x1) ≤ 0 then
        (
        m_X7_runs_J54 x1 S28 x5 rec13 x27 (nI 0)
        )
      else
        m_X7_runs_J54 x1 S28 x5 rec13 x27 (nI 1)
def m_X7_runs (S : St) (p1 : Int32) (p2 : Int32) : Option (St) :=
  zb (p1 / (nI 2)) fun x1 =>
  zl4 (m_X7_runs_B13 p1 p2 x1) FU S (nI 1) (nI 3) (nI 0)
def rl_X7_runs : Room := { frames := 2, cells := 0, slots := 0, locals := 49 }
theorem cdV_X7_runs : yX7_runs.cls = RX7 ∧ yX7_runs.cls ≠ "java/lang/invoke/MethodHandle" ∧ yX7_runs.cls ≠ "java/lang/invoke/VarHandle" ∧ (parseMethodDescriptor yX7_runs.desc).map (fun d => d.parameters.length) = some 2 := by decide +kernel
def m_X7_endsReading_J258 (p1 : Int32) (x12 : Int32) (S16 : St) (x15 : Int32) : Option (St) :=
  if x15 = (-1) then
    (
    zo (m_X7_runs S16 p1 x12) fun S17 =>
    some S17
    )
  else
    zg (inb (nI 1) 4) <|
    zg (inb (nI 1) 4) <|
    zb (wi S16 33 (Int32.toNatClampNeg (nI 1)) ((ri S16 33 (nI 1)) + (nI 1))) fun S18 =>
    zg (inb x15 101) <|
    zg (inb x15 101) <|
    zo (m_X7_keeps S18 p1 (ri S18 27 x15) (ri S18 28 x15)) fun S19 =>
    zg (inb x15 101) <|
    zo (m_X7_finishes S19 p1 (ri S19 27 x15) (nI 2)) fun S20 =>
    some S20
def m_X7_endsReading_J186 (x1 : Int32) (S10 : St) (p1 : Int32) (t11 : Int32) : Option (St) :=
  zg (inb x1 16) <|
  zb (irm (t11 + (ri S10 3 x1)) (nI 1000)) fun x12 =>
  if (rs S10 43) = 0 then
    (
    zo (m_X7_laysKey S10 p1) fun S13 =>
    zo (m_X7_entryOf S13) fun x14 =>
    if x14 = (-1) then
      (
      m_X7_endsReading_J258 p1 x12 S13 x14
      )
    else
      if (rs S13 13) ≤ 0 then
        (
        m_X7_endsReading_J258 p1 x12 S13 x14
        )
      else
        zb (wi S13 13 0 (rs S13 13 - (nI 1))) fun S21 =>
        zo (m_X7_drops S21 x14) fun S22 =>
        m_X7_endsReading_J258 p1 x12 S22 (-1)
    )
  else
    zo (m_X7_finishes S10 p1 x12 (nI 3)) fun S23 =>
    some S23
def m_X7_endsReading_J171 (x2 : Int32) (x1 : Int32) (p1 : Int32) (S10 : St) (x9 : Int32) : Option (St) :=
  if x2 = (nI 1) then
    (
    m_X7_endsReading_J186 x1 S10 p1 (x9 / (nI 10))
    )
  else
    m_X7_endsReading_J186 x1 S10 p1 x9
def m_X7_endsReading_J147 (x2 : Int32) (S8 : St) (x1 : Int32) (p1 : Int32) (x7 : Int32) : Option (St) :=
  if x2 = (nI 4) then
    (
    if (rs S8 43) = 0 then
      (
      zb (wi S8 14 0 (rs S8 14 ||| ((nI 1) <<< (x1 &&& 31)))) fun S24 =>
      m_X7_endsReading_J171 x2 x1 p1 S24 x7
      )
    else
      m_X7_endsReading_J171 x2 x1 p1 S8 x7
    )
  else
    m_X7_endsReading_J171 x2 x1 p1 S8 x7
def m_X7_endsReading_J122 (x2 : Int32) (x1 : Int32) (t5 : Int32) (p1 : Int32) (t6 : Int32) (S8 : St) (x7 : Int32) : Option (St) :=
  if x2 = (nI 4) then
    (
    zo (m_X7_isSeen S8 x1 t5) fun x25 =>
    if x25 = 0 then
      (
      m_X7_endsReading_J147 x2 S8 x1 p1 x7 
      )
    else
      zb (x7 + t6) fun x26 =>
      m_X7_endsReading_J171 x2 x1 p1 S8 x26
    )
  else
    m_X7_endsReading_J147 x2 S8 x1 p1 x7 
def m_X7_endsReading_J92 (x2 : Int32) (t5 : Int32) (S : St) (p1 : Int32) (x3 : Int32) (x1 : Int32) (t6 : Int32) : Option (St) :=
  if x2 = (nI 3) then
    (
    zg (inb t5 20) <|
    zo (m_X7_notes S p1 (nI 4) t5 (Int32.toInt64 (ri S 0 t5))) fun S27 =>
    zb (x3 + t6) fun x28 =>
    m_X7_endsReading_J122 x2 x1 t5 p1 t6 S27 x28
    )
  else
    m_X7_endsReading_J122 x2 x1 t5 p1 t6 S x3
def m_X7_endsReading_J68 (S : St) (x2 : Int32) (p1 : Int32) (x3 : Int32) (x1 : Int32) (t5 : Int32) : Option (St) :=
  zg (inb t5 20) <|
  if (ri S 0 t5) = (-1) then
    (
    m_X7_endsReading_J92 x2 t5 S p1 x3 x1 (nI 0)
    )
  else
    zg (inb t5 20) <|
    m_X7_endsReading_J92 x2 t5 S p1 x3 x1 (ri S 0 t5)
def m_X7_endsReading_B17 (p1 : Int32) (S : St) (x2 : Int32) (x1 : Int32) (rec17 : Int32 → Int32 → Option (St)) (x3 : Int32) (x4 : Int32) : Option (St) :=
  zg (inb p1 32) <|
  if (ri S 38 p1) ≤ x4 then
    (
    if x2 = (nI 3) then
      (
      m_X7_endsReading_J68 S x2 p1 x3 x1 (irm x3 (nI 20))
      )
    else
      zg (inb x1 16) <|
      m_X7_endsReading_J68 S x2 p1 x3 x1 (irm (ri S 2 x1) (nI 20))
    )
  else
    zo (m_X7_valueRead S p1 x4) fun x29 =>
    zb (x3 + x29) fun x30 =>
    zb (x4 + (nI 1)) fun x31 =>
    rec17 x30 x31
def m_X7_endsReading (S : St) (p1 : Int32) : Option (St) :=
  zb (p1 / (nI 2)) fun x1 =>
  zg (inb x1 16) <|
  zb (ri S 1 x1) fun x2 =>
  zl2 (m_X7_endsReading_B17 p1 S x2 x1) FU (nI 0) (nI 0)
def rl_X7_endsReading : Room := { frames := 3, cells := 0, slots := 0, locals := 77 }
theorem cdV_X7_endsReading : yX7_endsReading.cls = RX7 ∧ yX7_endsReading.cls ≠ "java/lang/invoke/MethodHandle" ∧ yX7_endsReading.cls ≠ "java/lang/invoke/VarHandle" ∧ (parseMethodDescriptor yX7_endsReading.desc).map (fun d => d.parameters.length) = some 1 := by decide +kernel
def m_X7_readsOne_J63 (x1 : Int32) (t3 : Int32) (S : St) (p1 : Int32) (t4 : Int32) : Option (St) :=
  if t4 = 0 then
    (
    zg (inb x1 16) <|
    if t3 < (ri S 5 x1) then
      (
      zg (inb (((nI 4) * x1) + t3) 64) <|
      zb (ri S 6 (((nI 4) * x1) + t3)) fun x6 =>
      zg (inb (((nI 4) * x1) + t3) 64) <|
      zb (ri S 7 (((nI 4) * x1) + t3)) fun x7 =>
      if x6 ≤ (nI 1) then
        (
        if x6 = 0 then
          (
          zg (inb x7 20) <|
          if (ri S 0 x7) = (-1) then
            (
            zo (m_X7_finishes S p1 (-3) (nI 4)) fun S18 =>
            some S18
            )
          else
            if x6 = 0 then
              (
              zg (inb x7 20) <|
              zo (m_X7_notes S p1 t3 (nI 0) (Int32.toInt64 (ri S 0 x7))) fun S16 =>
              zg (inb p1 32) <|
              zg (inb p1 32) <|
              zb (wi S16 37 (Int32.toNatClampNeg p1) ((ri S16 37 p1) + (nI 1))) fun S17 =>
              some S17
              )
            else
              zo (m_X7_folder S x7) fun x13 =>
              zo (m_X7_notes S p1 t3 (nI 0) x13) fun S14 =>
              zg (inb p1 32) <|
              zg (inb p1 32) <|
              zb (wi S14 37 (Int32.toNatClampNeg p1) ((ri S14 37 p1) + (nI 1))) fun S15 =>
              some S15
          )
        else
          if x6 = 0 then
            (
            zg (inb x7 20) <|
            zo (m_X7_notes S p1 t3 (nI 0) (Int32.toInt64 (ri S 0 x7))) fun S11 =>
            zg (inb p1 32) <|
            zg (inb p1 32) <|
            zb (wi S11 37 (Int32.toNatClampNeg p1) ((ri S11 37 p1) + (nI 1))) fun S12 =>
            some S12
            )
          else
            zo (m_X7_folder S x7) fun x8 =>
            zo (m_X7_notes S p1 t3 (nI 0) x8) fun S9 =>
            zg (inb p1 32) <|
            zg (inb p1 32) <|
            zb (wi S9 37 (Int32.toNatClampNeg p1) ((ri S9 37 p1) + (nI 1))) fun S10 =>
            some S10
        )
      else
        zo (m_X7_nodeOf S x6 x7 (irm p1 (nI 2))) fun x19 =>
        zg (inb x19 32) <|
        if (ri S 29 x19) = 0 then
          (
          zo (m_X7_pushes S x19) fun S25 =>
          some S25
          )
        else
          zg (inb x19 32) <|
          if (ri S 29 x19) = (nI 1) then
            (
            zo (m_X7_finishes S p1 (-4) (nI 4)) fun S24 =>
            some S24
            )
          else
            zg (inb x19 32) <|
            zb (ri S 30 x19) fun x20 =>
            if 0 ≤ x20 then
              (
              zo (m_X7_notes S p1 t3 (nI 0) (Int32.toInt64 x20)) fun S21 =>
              zg (inb p1 32) <|
              zg (inb p1 32) <|
              zb (wi S21 37 (Int32.toNatClampNeg p1) ((ri S21 37 p1) + (nI 1))) fun S22 =>
              some S22
              )
            else
              zo (m_X7_finishes S p1 x20 (nI 4)) fun S23 =>
              some S23
      )
    else
      zo (m_X7_endsReading S p1) fun S26 =>
      some S26
    )
  else
    zo (m_X7_endsReading S p1) fun S5 =>
    some S5
def m_X7_readsOne_J62 (x1 : Int32) (t3 : Int32) (S : St) (p1 : Int32) : Option (St) :=
  m_X7_readsOne_J63 x1 t3 S p1 (nI 0)
def m_X7_readsOne_J42 (x2 : Int32) (p1 : Int32) (S : St) (x1 : Int32) (t3 : Int32) : Option (St) :=
  if x2 = (nI 2) then
    (
    zg (inb p1 32) <|
    if (ri S 37 p1) ≤ 0 then
      (
      m_X7_readsOne_J62 x1 t3 S p1 
      )
    else
      m_X7_readsOne_J63 x1 t3 S p1 (nI 1)
    )
  else
    m_X7_readsOne_J62 x1 t3 S p1 
def m_X7_readsOne (S : St) (p1 : Int32) : Option (St) :=
  zb (p1 / (nI 2)) fun x1 =>
  zg (inb x1 16) <|
  zb (ri S 1 x1) fun x2 =>
  if x2 = (-1) then
    (
    zo (m_X7_finishes S p1 (-2) (nI 4)) fun S27 =>
    some S27
    )
  else
    if x2 = (nI 2) then
      (
      m_X7_readsOne_J42 x2 p1 S x1 (irm p1 (nI 2))
      )
    else
      zg (inb p1 32) <|
      m_X7_readsOne_J42 x2 p1 S x1 (ri S 37 p1)
def rl_X7_readsOne : Room := { frames := 4, cells := 0, slots := 0, locals := 105 }
theorem cdV_X7_readsOne : yX7_readsOne.cls = RX7 ∧ yX7_readsOne.cls ≠ "java/lang/invoke/MethodHandle" ∧ yX7_readsOne.cls ≠ "java/lang/invoke/VarHandle" ∧ (parseMethodDescriptor yX7_readsOne.desc).map (fun d => d.parameters.length) = some 1 := by decide +kernel
def m_X7_looks_B31 (p1 : Int32) (rec31 : St → Option ((Int32 × St))) (S5 : St) : Option ((Int32 × St)) :=
  if (rs S5 34) ≤ 0 then
    (
    zg (inb p1 32) <|
    some ((ri S5 30 p1), S5)
    )
  else
    zg (inb (rs S5 34 - (nI 1)) 40) <|
    zb (ri S5 35 (rs S5 34 - (nI 1))) fun x6 =>
    zg (inb x6 32) <|
    if (ri S5 36 x6) = 0 then
      (
      zo (m_X7_readsOne S5 x6) fun S7 =>
      rec31 S7
      )
    else
      zo (m_X7_comparesOne S5 x6) fun S8 =>
      rec31 S8
def m_X7_looks_B2 (p1 : Int32) (rec2 : St → Int32 → Option ((Int32 × St))) (S1 : St) (x2 : Int32) : Option ((Int32 × St)) :=
  if (nI 32) ≤ x2 then
    (
    zb (wi S1 34 0 (nI 0)) fun S3 =>
    zo (m_X7_pushes S3 p1) fun S4 =>
    zl1 (m_X7_looks_B31 p1) FU S4
    )
  else
    zg (inb x2 32) <|
    zb (wi S1 29 (Int32.toNatClampNeg x2) (nI 0)) fun S9 =>
    zb (x2 + (nI 1)) fun x10 =>
    rec2 S9 x10
def m_X7_looks (S : St) (p1 : Int32) : Option ((Int32 × St)) :=
  zl2 (m_X7_looks_B2 p1) FU S (nI 0)
def rl_X7_looks : Room := { frames := 5, cells := 0, slots := 0, locals := 134 }
theorem cdV_X7_looks : yX7_looks.cls = RX7 ∧ yX7_looks.cls ≠ "java/lang/invoke/MethodHandle" ∧ yX7_looks.cls ≠ "java/lang/invoke/VarHandle" ∧ (parseMethodDescriptor yX7_looks.desc).map (fun d => d.parameters.length) = some 1 := by decide +kernel
def m_X7_build_B95 (x10 : Int32) (rec95 : St → Int32 → Option ((Int32 × St))) (S12 : St) (x13 : Int32) : Option ((Int32 × St)) :=
  if (nI 32) ≤ x13 then
    (
    some (x10, S12)
    )
  else
    zg (inb x13 32) <|
    if (ri S12 15 x13) = 0 then
      (
      zg (inb x13 32) <|
      zb (wi S12 15 (Int32.toNatClampNeg x13) (nI 0)) fun S14 =>
      zb (x13 + (nI 1)) fun x15 =>
      rec95 S14 x15
      )
    else
      zg (inb x13 32) <|
      if (ri S12 24 x13) = 0 then
        (
        zg (inb x13 32) <|
        zb (wi S12 15 (Int32.toNatClampNeg x13) (nI 1)) fun S18 =>
        zb (x13 + (nI 1)) fun x19 =>
        rec95 S18 x19
        )
      else
        zg (inb x13 32) <|
        zb (wi S12 15 (Int32.toNatClampNeg x13) (nI 0)) fun S16 =>
        zb (x13 + (nI 1)) fun x17 =>
        rec95 S16 x17
def m_X7_build_B44 (p1 : Int32) (p2 : Int32) (rec44 : St → Int32 → Option ((Int32 × St))) (S7 : St) (x8 : Int32) : Option ((Int32 × St)) :=
  if (nI 32) ≤ x8 then
    (
    zb (wi S7 43 0 (nI 0)) fun S9 =>
    zo2 (m_X7_looks S9 (((nI 2) * p1) + p2)) fun x10 S11 =>
    zl2 (m_X7_build_B95 x10) FU S11 (nI 0)
    )
  else
    zg (inb x8 32) <|
    zb (wi S7 31 (Int32.toNatClampNeg x8) (nI 0)) fun S20 =>
    zg (inb x8 32) <|
    zb (wi S20 32 (Int32.toNatClampNeg x8) (nI 0)) fun S21 =>
    zg (inb x8 32) <|
    zb (wi S21 24 (Int32.toNatClampNeg x8) (nI 0)) fun S22 =>
    zb (x8 + (nI 1)) fun x23 =>
    rec44 S22 x23
def m_X7_build_B24 (p1 : Int32) (p2 : Int32) (rec24 : St → Int32 → Option ((Int32 × St))) (S5 : St) (x6 : Int32) : Option ((Int32 × St)) :=
  if (nI 4) ≤ x6 then
    (
    zl2 (m_X7_build_B44 p1 p2) FU S5 (nI 0)
    )
  else
    zg (inb x6 4) <|
    zb (wi S5 33 (Int32.toNatClampNeg x6) (nI 0)) fun S24 =>
    zb (x6 + (nI 1)) fun x25 =>
    rec24 S24 x25
def m_X7_build_J14 (S : St) (p1 : Int32) (p2 : Int32) (t2 : Int32) : Option ((Int32 × St)) :=
  zo2 (m_X7_goes S t2) fun x3 S4 =>
  if x3 = 0 then
    (
    some ((nI 0), S4)
    )
  else
    zl2 (m_X7_build_B24 p1 p2) FU S4 (nI 0)
def m_X7_build (S : St) (p1 : Int32) (p2 : Int32) : Option ((Int32 × St)) :=
  zo (m_X7_isNode S p1 p2) fun x1 =>
  if x1 = 0 then
    (
    m_X7_build_J14 S p1 p2 (nI 1)
    )
  else
    m_X7_build_J14 S p1 p2 (nI 0)
def rl_X7_build : Room := { frames := 6, cells := 0, slots := 0, locals := 156 }
theorem cdV_X7_build : yX7_build.cls = RX7 ∧ yX7_build.cls ≠ "java/lang/invoke/MethodHandle" ∧ yX7_build.cls ≠ "java/lang/invoke/VarHandle" ∧ (parseMethodDescriptor yX7_build.desc).map (fun d => d.parameters.length) = some 2 := by decide +kernel
def m_X7_checks (S : St) (p1 : Int32) : Option ((Int32 × St)) :=
  zb (wi S 47 0 (nI 0)) fun S1 =>
  zb (rs S1 12) fun x2 =>
  zg (bz p1) <|
  zb (wi S1 12 0 p1) fun S3 =>
  zg (bz x2) <|
  some (x2, S3)
def rl_X7_checks : Room := { frames := 0, cells := 0, slots := 0, locals := 0 }
theorem cdV_X7_checks : yX7_checks.cls = RX7 ∧ yX7_checks.cls ≠ "java/lang/invoke/MethodHandle" ∧ yX7_checks.cls ≠ "java/lang/invoke/VarHandle" ∧ (parseMethodDescriptor yX7_checks.desc).map (fun d => d.parameters.length) = some 1 := by decide +kernel
def m_X7_counts (S : St) (p1 : Int32) : Option ((Int32 × St)) :=
  zo (m_X7_isIn S p1 (nI 0) (nI 3)) fun x1 =>
  if x1 = 0 then
    (
    zo2 (m_X7_goes S (nI 1)) fun x2 S3 =>
    if x2 = 0 then
      (
      some ((nI 0), S3)
      )
    else
      zg (inb p1 4) <|
      some ((ri S3 33 p1), S3)
    )
  else
    zo2 (m_X7_goes S (nI 0)) fun x4 S5 =>
    if x4 = 0 then
      (
      some ((nI 0), S5)
      )
    else
      zg (inb p1 4) <|
      some ((ri S5 33 p1), S5)
def rl_X7_counts : Room := { frames := 1, cells := 0, slots := 0, locals := 22 }
theorem cdV_X7_counts : yX7_counts.cls = RX7 ∧ yX7_counts.cls ≠ "java/lang/invoke/MethodHandle" ∧ yX7_counts.cls ≠ "java/lang/invoke/VarHandle" ∧ (parseMethodDescriptor yX7_counts.desc).map (fun d => d.parameters.length) = some 1 := by decide +kernel
def m_X7_done (S : St) (p1 : Int32) (p2 : Int32) : Option ((Int32 × St)) :=
  zo (m_X7_isNode S p1 p2) fun x1 =>
  if x1 = 0 then
    (
    zo2 (m_X7_goes S (nI 1)) fun x2 S3 =>
    if x2 = 0 then
      (
      some ((nI 0), S3)
      )
    else
      zg (inb (((nI 2) * p1) + p2) 32) <|
      some ((ri S3 31 (((nI 2) * p1) + p2)), S3)
    )
  else
    zo2 (m_X7_goes S (nI 0)) fun x4 S5 =>
    if x4 = 0 then
      (
      some ((nI 0), S5)
      )
    else
      zg (inb (((nI 2) * p1) + p2) 32) <|
      some ((ri S5 31 (((nI 2) * p1) + p2)), S5)
def rl_X7_done : Room := { frames := 3, cells := 0, slots := 0, locals := 63 }
theorem cdV_X7_done : yX7_done.cls = RX7 ∧ yX7_done.cls ≠ "java/lang/invoke/MethodHandle" ∧ yX7_done.cls ≠ "java/lang/invoke/VarHandle" ∧ (parseMethodDescriptor yX7_done.desc).map (fun d => d.parameters.length) = some 2 := by decide +kernel
def m_X7_empty (S : St) : Option ((Int32 × St)) :=
  zb (wi S 47 0 (nI 0)) fun S1 =>
  zb (rs S1 25) fun x2 =>
  zb (wi S1 25 0 (nI 0)) fun S3 =>
  some (x2, S3)
def rl_X7_empty : Room := { frames := 0, cells := 0, slots := 0, locals := 0 }
theorem cdV_X7_empty : yX7_empty.cls = RX7 ∧ yX7_empty.cls ≠ "java/lang/invoke/MethodHandle" ∧ yX7_empty.cls ≠ "java/lang/invoke/VarHandle" ∧ (parseMethodDescriptor yX7_empty.desc).map (fun d => d.parameters.length) = some 0 := by decide +kernel
def m_X7_entries (S : St) : Option ((Int32 × St)) :=
  zb (wi S 47 0 (nI 0)) fun S1 =>
  some (rs S1 25, S1)
def rl_X7_entries : Room := { frames := 0, cells := 0, slots := 0, locals := 0 }
theorem cdV_X7_entries : yX7_entries.cls = RX7 ∧ yX7_entries.cls ≠ "java/lang/invoke/MethodHandle" ∧ yX7_entries.cls ≠ "java/lang/invoke/VarHandle" ∧ (parseMethodDescriptor yX7_entries.desc).map (fun d => d.parameters.length) = some 0 := by decide +kernel
def m_X7_fails (S : St) (p1 : Int32) (p2 : Int32) : Option ((Int32 × St)) :=
  zo (m_X7_isTarget S p1) fun x1 =>
  if x1 = 0 then
    (
    zo2 (m_X7_goes S (nI 1)) fun x11 S12 =>
    if x11 = 0 then
      (
      some ((nI 0), S12)
      )
    else
      zg (inb p1 16) <|
      zb (ri S12 8 p1) fun x13 =>
      zg (inb p1 16) <|
      zb (wi S12 8 (Int32.toNatClampNeg p1) p2) fun S14 =>
      some (x13, S14)
    )
  else
    zo (m_X7_isIn S p2 (nI 0) (nI 20)) fun x2 =>
    if x2 = 0 then
      (
      zo2 (m_X7_goes S (nI 2)) fun x3 S4 =>
      if x3 = 0 then
        (
        some ((nI 0), S4)
        )
      else
        zg (inb p1 16) <|
        zb (ri S4 8 p1) fun x5 =>
        zg (inb p1 16) <|
        zb (wi S4 8 (Int32.toNatClampNeg p1) p2) fun S6 =>
        some (x5, S6)
      )
    else
      zo2 (m_X7_goes S (nI 0)) fun x7 S8 =>
      if x7 = 0 then
        (
        some ((nI 0), S8)
        )
      else
        zg (inb p1 16) <|
        zb (ri S8 8 p1) fun x9 =>
        zg (inb p1 16) <|
        zb (wi S8 8 (Int32.toNatClampNeg p1) p2) fun S10 =>
        some (x9, S10)
def rl_X7_fails : Room := { frames := 2, cells := 0, slots := 0, locals := 42 }
theorem cdV_X7_fails : yX7_fails.cls = RX7 ∧ yX7_fails.cls ≠ "java/lang/invoke/MethodHandle" ∧ yX7_fails.cls ≠ "java/lang/invoke/VarHandle" ∧ (parseMethodDescriptor yX7_fails.desc).map (fun d => d.parameters.length) = some 2 := by decide +kernel
def m_X7_forget_B9 (rec9 : St → Int32 → Int32 → Option ((Int32 × St))) (S2 : St) (x3 : Int32) (x4 : Int32) : Option ((Int32 × St)) :=
  if (nI 32) ≤ x4 then
    (
    some (x3, S2)
    )
  else
    zg (inb x4 32) <|
    if (ri S2 15 x4) = 0 then
      (
      zb (x3 + (nI 0)) fun x5 =>
      zg (inb x4 32) <|
      zb (wi S2 15 (Int32.toNatClampNeg x4) (nI 0)) fun S6 =>
      zb (x4 + (nI 1)) fun x7 =>
      rec9 S6 x5 x7
      )
    else
      zb (x3 + (nI 1)) fun x8 =>
      zg (inb x4 32) <|
      zb (wi S2 15 (Int32.toNatClampNeg x4) (nI 0)) fun S9 =>
      zb (x4 + (nI 1)) fun x10 =>
      rec9 S9 x8 x10
def m_X7_forget (S : St) : Option ((Int32 × St)) :=
  zb (wi S 47 0 (nI 0)) fun S1 =>
  zl3 m_X7_forget_B9 FU S1 (nI 0) (nI 0)
def rl_X7_forget : Room := { frames := 0, cells := 0, slots := 0, locals := 0 }
theorem cdV_X7_forget : yX7_forget.cls = RX7 ∧ yX7_forget.cls ≠ "java/lang/invoke/MethodHandle" ∧ yX7_forget.cls ≠ "java/lang/invoke/VarHandle" ∧ (parseMethodDescriptor yX7_forget.desc).map (fun d => d.parameters.length) = some 0 := by decide +kernel
def m_X7_goingAt_B4 (S : St) (p1 : Int32) (rec4 : Int32 → Int32 → Option (Int32)) (x1 : Int32) (x2 : Int32) : Option (Int32) :=
  if (nI 32) ≤ x2 then
    (
    some x1
    )
  else
    zg (inb x2 32) <|
    if (ri S 46 x2) ≤ p1 then
      (
      zb (x1 + (nI 0)) fun x3 =>
      zb (x2 + (nI 1)) fun x4 =>
      rec4 x3 x4
      )
    else
      zb (x1 + (nI 1)) fun x5 =>
      zb (x2 + (nI 1)) fun x6 =>
      rec4 x5 x6
def m_X7_goingAt (S : St) (p1 : Int32) : Option (Int32) :=
  zl2 (m_X7_goingAt_B4 S p1) FU (nI 0) (nI 0)
def rl_X7_goingAt : Room := { frames := 0, cells := 0, slots := 0, locals := 0 }
theorem cdV_X7_goingAt : yX7_goingAt.cls = RX7 ∧ yX7_goingAt.cls ≠ "java/lang/invoke/MethodHandle" ∧ yX7_goingAt.cls ≠ "java/lang/invoke/VarHandle" ∧ (parseMethodDescriptor yX7_goingAt.desc).map (fun d => d.parameters.length) = some 1 := by decide +kernel
def m_X7_input_J99 (S : St) (p1 : Int32) (p2 : Int32) (p3 : Int32) (t4 : Int32) : Option ((Int32 × St)) :=
  zo2 (m_X7_goes S t4) fun x5 S6 =>
  if x5 = 0 then
    (
    some ((nI 0), S6)
    )
  else
    zg (inb p1 16) <|
    zg (inb (((nI 4) * p1) + (ri S6 5 p1)) 64) <|
    zb (wi S6 6 (Int32.toNatClampNeg (((nI 4) * p1) + (ri S6 5 p1))) p2) fun S7 =>
    zg (inb p1 16) <|
    zg (inb (((nI 4) * p1) + (ri S7 5 p1)) 64) <|
    zb (wi S7 7 (Int32.toNatClampNeg (((nI 4) * p1) + (ri S7 5 p1))) p3) fun S8 =>
    zg (inb p1 16) <|
    zg (inb p1 16) <|
    zb (wi S8 5 (Int32.toNatClampNeg p1) ((ri S8 5 p1) + (nI 1))) fun S9 =>
    zg (inb p1 16) <|
    some ((ri S9 5 p1), S9)
def m_X7_input_J46 (S : St) (p1 : Int32) (p2 : Int32) (p3 : Int32) (x1 : Int32) (t2 : Int32) : Option ((Int32 × St)) :=
  zo (m_X7_isTarget S p1) fun x3 =>
  if x3 = 0 then
    (
    m_X7_input_J99 S p1 p2 p3 (nI 1)
    )
  else
    if t2 = 0 then
      (
      m_X7_input_J99 S p1 p2 p3 (nI 1)
      )
    else
      if x1 = 0 then
        (
        m_X7_input_J99 S p1 p2 p3 (nI 2)
        )
      else
        zg (inb p1 16) <|
        if (ri S 1 p1) = (-1) then
          (
          m_X7_input_J99 S p1 p2 p3 (nI 3)
          )
        else
          zg (inb p1 16) <|
          if (ri S 5 p1) = (nI 4) then
            (
            m_X7_input_J99 S p1 p2 p3 (nI 3)
            )
          else
            m_X7_input_J99 S p1 p2 p3 (nI 0)
def m_X7_input_J41 (S : St) (p1 : Int32) (p2 : Int32) (p3 : Int32) (x1 : Int32) : Option ((Int32 × St)) :=
  m_X7_input_J46 S p1 p2 p3 x1 (nI 1)
def m_X7_input_J35 (S : St) (p3 : Int32) (p1 : Int32) (p2 : Int32) (x1 : Int32) (t10 : Int32) : Option ((Int32 × St)) :=
  zo (m_X7_isIn S p3 (nI 0) t10) fun x11 =>
  if x11 = 0 then
    (
    m_X7_input_J46 S p1 p2 p3 x1 (nI 0)
    )
  else
    m_X7_input_J41 S p1 p2 p3 x1 
def m_X7_input (S : St) (p1 : Int32) (p2 : Int32) (p3 : Int32) : Option ((Int32 × St)) :=
  zo (m_X7_isIn S p2 (nI 0) (nI 3)) fun x1 =>
  if x1 = 0 then
    (
    m_X7_input_J41 S p1 p2 p3 x1 
    )
  else
    if p2 = 0 then
      (
      m_X7_input_J35 S p3 p1 p2 x1 (nI 19)
      )
    else
      if p2 = (nI 1) then
        (
        m_X7_input_J35 S p3 p1 p2 x1 (nI 3)
        )
      else
        m_X7_input_J35 S p3 p1 p2 x1 (nI 15)
def rl_X7_input : Room := { frames := 2, cells := 0, slots := 0, locals := 42 }
theorem cdV_X7_input : yX7_input.cls = RX7 ∧ yX7_input.cls ≠ "java/lang/invoke/MethodHandle" ∧ yX7_input.cls ≠ "java/lang/invoke/VarHandle" ∧ (parseMethodDescriptor yX7_input.desc).map (fun d => d.parameters.length) = some 3 := by decide +kernel
def m_X7_inputsOf_B4 (p1 : Int32) (S : St) (rec4 : Int32 → Int32 → Option (Int32)) (x1 : Int32) (x2 : Int32) : Option (Int32) :=
  zg (inb p1 16) <|
  if (ri S 5 p1) ≤ x2 then
    (
    some x1
    )
  else
    zg (inb p1 16) <|
    if (ri S 1 p1) = (-1) then
      (
      some x1
      )
    else
      zg (inb (((nI 4) * p1) + x2) 64) <|
      if (ri S 6 (((nI 4) * p1) + x2)) ≤ (nI 1) then
        (
        zb (x1 ||| (nI 0)) fun x3 =>
        zb (x2 + (nI 1)) fun x4 =>
        rec4 x3 x4
        )
      else
        zg (inb (((nI 4) * p1) + x2) 64) <|
        zb (x1 ||| ((nI 1) <<< ((ri S 7 (((nI 4) * p1) + x2)) &&& 31))) fun x5 =>
        zb (x2 + (nI 1)) fun x6 =>
        rec4 x5 x6
def m_X7_inputsOf (S : St) (p1 : Int32) : Option (Int32) :=
  zl2 (m_X7_inputsOf_B4 p1 S) FU (nI 0) (nI 0)
def rl_X7_inputsOf : Room := { frames := 0, cells := 0, slots := 0, locals := 0 }
theorem cdV_X7_inputsOf : yX7_inputsOf.cls = RX7 ∧ yX7_inputsOf.cls ≠ "java/lang/invoke/MethodHandle" ∧ yX7_inputsOf.cls ≠ "java/lang/invoke/VarHandle" ∧ (parseMethodDescriptor yX7_inputsOf.desc).map (fun d => d.parameters.length) = some 1 := by decide +kernel
def m_X7_laysLongest_J155 (x6 : Int32) (S8 : St) (x9 : Int32) (rec56 : St → Int32 → Option (St)) (t13 : Int32) : Option (St) :=
  zg (inb x6 32) <|
  zb (wi S8 45 (Int32.toNatClampNeg x6) t13) fun S14 =>
  zb (x9 + (nI 1)) fun x15 =>
  rec56 S14 x15
def m_X7_laysLongest_J149 (x6 : Int32) (S8 : St) (x9 : Int32) (rec56 : St → Int32 → Option (St)) : Option (St) :=
  zg (inb x6 32) <|
  m_X7_laysLongest_J155 x6 S8 x9 rec56 (ri S8 45 x6)
def m_X7_laysLongest_J103 (x9 : Int32) (x6 : Int32) (S8 : St) (rec56 : St → Int32 → Option (St)) (t11 : Int32) : Option (St) :=
  zg (inb x9 32) <|
  zg (inb (x6 / (nI 2)) 16) <|
  zb ((ri S8 45 x9) + (ri S8 4 (x6 / (nI 2)))) fun x12 =>
  if t11 = 0 then
    (
    m_X7_laysLongest_J149 x6 S8 x9 rec56 
    )
  else
    zg (inb x6 32) <|
    if x12 ≤ (ri S8 45 x6) then
      (
      m_X7_laysLongest_J149 x6 S8 x9 rec56 
      )
    else
      m_X7_laysLongest_J155 x6 S8 x9 rec56 x12
def m_X7_laysLongest_J102 (x9 : Int32) (x6 : Int32) (S8 : St) (rec56 : St → Int32 → Option (St)) : Option (St) :=
  m_X7_laysLongest_J103 x9 x6 S8 rec56 (nI 0)
def m_X7_laysLongest_B56 (x6 : Int32) (rec47 : St → Int32 → Option (St)) (rec56 : St → Int32 → Option (St)) (S8 : St) (x9 : Int32) : Option (St) :=
  if (nI 32) ≤ x9 then
    (
    zb (x6 + (nI 1)) fun x10 =>
    rec47 S8 x10
    )
  else
    zg (inb x9 32) <|
    if (ri S8 29 x9) = (nI 2) then
      (
      zg (inb x9 32) <|
      zo (m_X7_has S8 (ri S8 44 x9) x6) fun x16 =>
      if x16 = 0 then
        (
        m_X7_laysLongest_J102 x9 x6 S8 rec56 
        )
      else
        zg (inb x9 32) <|
        if (ri S8 45 x9) ≤ 0 then
          (
          m_X7_laysLongest_J102 x9 x6 S8 rec56 
          )
        else
          m_X7_laysLongest_J103 x9 x6 S8 rec56 (nI 1)
      )
    else
      m_X7_laysLongest_J102 x9 x6 S8 rec56 
def m_X7_laysLongest_B47 (x4 : Int32) (rec39 : St → Int32 → Option (St)) (rec47 : St → Int32 → Option (St)) (S5 : St) (x6 : Int32) : Option (St) :=
  if (nI 32) ≤ x6 then
    (
    zb (x4 + (nI 1)) fun x7 =>
    rec39 S5 x7
    )
  else
    zl2 (m_X7_laysLongest_B56 x6 rec47) FU S5 (nI 0)
def m_X7_laysLongest_B39 (rec39 : St → Int32 → Option (St)) (S3 : St) (x4 : Int32) : Option (St) :=
  if (nI 32) ≤ x4 then
    (
    some S3
    )
  else
    zl2 (m_X7_laysLongest_B47 x4 rec39) FU S3 (nI 0)
def m_X7_laysLongest_J30 (x2 : Int32) (S1 : St) (rec2 : St → Int32 → Option (St)) (t17 : Int32) : Option (St) :=
  zg (inb x2 32) <|
  zb (wi S1 45 (Int32.toNatClampNeg x2) t17) fun S18 =>
  zb (x2 + (nI 1)) fun x19 =>
  rec2 S18 x19
def m_X7_laysLongest_B2 (p1 : Int32) (rec2 : St → Int32 → Option (St)) (S1 : St) (x2 : Int32) : Option (St) :=
  if (nI 32) ≤ x2 then
    (
    zl2 m_X7_laysLongest_B39 FU S1 (nI 0)
    )
  else
    if x2 = p1 then
      (
      zg (inb (x2 / (nI 2)) 16) <|
      m_X7_laysLongest_J30 x2 S1 rec2 (ri S1 4 (x2 / (nI 2)))
      )
    else
      m_X7_laysLongest_J30 x2 S1 rec2 (nI 0)
def m_X7_laysLongest (S : St) (p1 : Int32) : Option (St) :=
  zl2 (m_X7_laysLongest_B2 p1) FU S (nI 0)
def rl_X7_laysLongest : Room := { frames := 1, cells := 0, slots := 0, locals := 21 }
theorem cdV_X7_laysLongest : yX7_laysLongest.cls = RX7 ∧ yX7_laysLongest.cls ≠ "java/lang/invoke/MethodHandle" ∧ yX7_laysLongest.cls ≠ "java/lang/invoke/VarHandle" ∧ (parseMethodDescriptor yX7_laysLongest.desc).map (fun d => d.parameters.length) = some 1 := by decide +kernel
def m_X7_laysNeeded_J126 (x2 : Int32) (rec2 : St → Int32 → Option (St)) (S4 : St) : Option (St) :=
  zb (x2 + (nI 1)) fun x6 =>
  rec2 S4 x6
def m_X7_laysNeeded_J118 (x2 : Int32) (S4 : St) (x5 : Int32) (rec17 : St → Int32 → Option (St)) (t10 : Int32) : Option (St) :=
  zg (inb x2 32) <|
  zb (wi S4 44 (Int32.toNatClampNeg x2) ((ri S4 44 x2) ||| t10)) fun S11 =>
  zb (x5 + (nI 1)) fun x12 =>
  rec17 S11 x12
def m_X7_laysNeeded_J78 (x2 : Int32) (S4 : St) (x5 : Int32) (rec17 : St → Int32 → Option (St)) (x8 : Int32) (t9 : Int32) : Option (St) :=
  zg (inb x2 32) <|
  if t9 = 0 then
    (
    m_X7_laysNeeded_J118 x2 S4 x5 rec17 (nI 0)
    )
  else
    zg (inb x8 64) <|
    zg (inb x8 64) <|
    zo (m_X7_nodeOf S4 (ri S4 6 x8) (ri S4 7 x8) (irm x2 (nI 2))) fun x13 =>
    m_X7_laysNeeded_J118 x2 S4 x5 rec17 ((nI 1) <<< (x13 &&& 31))
def m_X7_laysNeeded_J77 (x2 : Int32) (S4 : St) (x5 : Int32) (rec17 : St → Int32 → Option (St)) (x8 : Int32) : Option (St) :=
  m_X7_laysNeeded_J78 x2 S4 x5 rec17 x8 (nI 0)
def m_X7_laysNeeded_B17 (x2 : Int32) (rec2 : St → Int32 → Option (St)) (rec17 : St → Int32 → Option (St)) (S4 : St) (x5 : Int32) : Option (St) :=
  zg (inb x2 32) <|
  if (ri S4 38 x2) ≤ x5 then
    (
    m_X7_laysNeeded_J126 x2 rec2 S4 
    )
  else
    zg (inb x2 32) <|
    if (ri S4 29 x2) = (nI 2) then
      (
      zg (inb (((nI 5) * x2) + x5) 160) <|
      zb (ri S4 39 (((nI 5) * x2) + x5)) fun x7 =>
      zb (((nI 4) * (x2 / (nI 2))) + x7) fun x8 =>
      if (nI 4) ≤ x7 then
        (
        m_X7_laysNeeded_J77 x2 S4 x5 rec17 x8 
        )
      else
        zg (inb x8 64) <|
        if (ri S4 6 x8) ≤ (nI 1) then
          (
          m_X7_laysNeeded_J77 x2 S4 x5 rec17 x8 
          )
        else
          m_X7_laysNeeded_J78 x2 S4 x5 rec17 x8 (nI 1)
      )
    else
      m_X7_laysNeeded_J126 x2 rec2 S4 
def m_X7_laysNeeded_B2 (rec2 : St → Int32 → Option (St)) (S1 : St) (x2 : Int32) : Option (St) :=
  if (nI 32) ≤ x2 then
    (
    some S1
    )
  else
    zg (inb x2 32) <|
    zb (wi S1 44 (Int32.toNatClampNeg x2) (nI 0)) fun S3 =>
    zl2 (m_X7_laysNeeded_B17 x2 rec2) FU S3 (nI 0)
def m_X7_laysNeeded (S : St) : Option (St) :=
  zl2 m_X7_laysNeeded_B2 FU S (nI 0)
def rl_X7_laysNeeded : Room := { frames := 1, cells := 0, slots := 0, locals := 22 }
theorem cdV_X7_laysNeeded : yX7_laysNeeded.cls = RX7 ∧ yX7_laysNeeded.cls ≠ "java/lang/invoke/MethodHandle" ∧ yX7_laysNeeded.cls ≠ "java/lang/invoke/VarHandle" ∧ (parseMethodDescriptor yX7_laysNeeded.desc).map (fun d => d.parameters.length) = some 0 := by decide +kernel
def m_X7_leaks (S : St) : Option ((Int32 × St)) :=
  zb (wi S 47 0 (nI 0)) fun S1 =>
  some (rs S1 14, S1)
def rl_X7_leaks : Room := { frames := 0, cells := 0, slots := 0, locals := 0 }
theorem cdV_X7_leaks : yX7_leaks.cls = RX7 ∧ yX7_leaks.cls ≠ "java/lang/invoke/MethodHandle" ∧ yX7_leaks.cls ≠ "java/lang/invoke/VarHandle" ∧ (parseMethodDescriptor yX7_leaks.desc).map (fun d => d.parameters.length) = some 0 := by decide +kernel
def m_X7_looksPlain_B88 (x6 : Int32) (rec88 : St → Int32 → Option ((Int32 × St))) (S11 : St) (x12 : Int32) : Option ((Int32 × St)) :=
  if (nI 32) ≤ x12 then
    (
    some (x6, S11)
    )
  else
    zg (inb x12 32) <|
    zg (inb x12 32) <|
    zb (wi S11 31 (Int32.toNatClampNeg x12) (ri S11 45 x12)) fun S13 =>
    zg (inb x12 32) <|
    zg (inb x12 32) <|
    zb (wi S13 32 (Int32.toNatClampNeg x12) (ri S13 46 x12)) fun S14 =>
    zb (x12 + (nI 1)) fun x15 =>
    rec88 S14 x15
def m_X7_looksPlain_B15 (p1 : Int32) (x1 : Int32) (x2 : Int32) (rec15 : St → Int32 → Option ((Int32 × St))) (S3 : St) (x4 : Int32) : Option ((Int32 × St)) :=
  if (nI 32) ≤ x4 then
    (
    zb (wi S3 43 0 (nI 1)) fun S5 =>
    zo2 (m_X7_looks S5 p1) fun x6 S7 =>
    zb (wi S7 43 0 (nI 0)) fun S8 =>
    zg (inb (nI 3) 4) <|
    zb (wi S8 33 (Int32.toNatClampNeg (nI 3)) x1) fun S9 =>
    zb (wi S9 14 0 x2) fun S10 =>
    zl2 (m_X7_looksPlain_B88 x6) FU S10 (nI 0)
    )
  else
    zg (inb x4 32) <|
    zg (inb x4 32) <|
    zb (wi S3 45 (Int32.toNatClampNeg x4) (ri S3 31 x4)) fun S16 =>
    zg (inb x4 32) <|
    zg (inb x4 32) <|
    zb (wi S16 46 (Int32.toNatClampNeg x4) (ri S16 32 x4)) fun S17 =>
    zb (x4 + (nI 1)) fun x18 =>
    rec15 S17 x18
def m_X7_looksPlain (S : St) (p1 : Int32) : Option ((Int32 × St)) :=
  zg (inb (nI 3) 4) <|
  zb (ri S 33 (nI 3)) fun x1 =>
  zb (rs S 14) fun x2 =>
  zl2 (m_X7_looksPlain_B15 p1 x1 x2) FU S (nI 0)
def rl_X7_looksPlain : Room := { frames := 6, cells := 0, slots := 0, locals := 156 }
theorem cdV_X7_looksPlain : yX7_looksPlain.cls = RX7 ∧ yX7_looksPlain.cls ≠ "java/lang/invoke/MethodHandle" ∧ yX7_looksPlain.cls ≠ "java/lang/invoke/VarHandle" ∧ (parseMethodDescriptor yX7_looksPlain.desc).map (fun d => d.parameters.length) = some 1 := by decide +kernel
def m_X7_needsOf_B18 (rec8 : Int32 → Int32 → Option (Int32)) (x2 : Int32) (S : St) (rec18 : Int32 → Int32 → Option (Int32)) (x4 : Int32) (x5 : Int32) : Option (Int32) :=
  if (nI 16) ≤ x5 then
    (
    rec8 x4 x2
    )
  else
    zo (m_X7_has S x2 x5) fun x6 =>
    if x6 = 0 then
      (
      zb (x4 ||| (nI 0)) fun x7 =>
      zb (x5 + (nI 1)) fun x8 =>
      rec18 x7 x8
      )
    else
      zo (m_X7_inputsOf S x5) fun x9 =>
      zb (x4 ||| x9) fun x10 =>
      zb (x5 + (nI 1)) fun x11 =>
      rec18 x10 x11
def m_X7_needsOf_B8 (S : St) (rec8 : Int32 → Int32 → Option (Int32)) (x2 : Int32) (x3 : Int32) : Option (Int32) :=
  if x2 = x3 then
    (
    some x2
    )
  else
    zl2 (m_X7_needsOf_B18 rec8 x2 S) FU x2 (nI 0)
def m_X7_needsOf (S : St) (p1 : Int32) : Option (Int32) :=
  zo (m_X7_inputsOf S p1) fun x1 =>
  zl2 (m_X7_needsOf_B8 S) FU x1 (nI 0)
def rl_X7_needsOf : Room := { frames := 1, cells := 0, slots := 0, locals := 23 }
theorem cdV_X7_needsOf : yX7_needsOf.cls = RX7 ∧ yX7_needsOf.cls ≠ "java/lang/invoke/MethodHandle" ∧ yX7_needsOf.cls ≠ "java/lang/invoke/VarHandle" ∧ (parseMethodDescriptor yX7_needsOf.desc).map (fun d => d.parameters.length) = some 1 := by decide +kernel
def m_X7_needs (S : St) (p1 : Int32) : Option ((Int32 × St)) :=
  zo (m_X7_isTarget S p1) fun x1 =>
  if x1 = 0 then
    (
    zo2 (m_X7_goes S (nI 1)) fun x2 S3 =>
    if x2 = 0 then
      (
      some ((nI 0), S3)
      )
    else
      zo (m_X7_needsOf S3 p1) fun x4 =>
      some (x4, S3)
    )
  else
    zo2 (m_X7_goes S (nI 0)) fun x5 S6 =>
    if x5 = 0 then
      (
      some ((nI 0), S6)
      )
    else
      zo (m_X7_needsOf S6 p1) fun x7 =>
      some (x7, S6)
def rl_X7_needs : Room := { frames := 2, cells := 0, slots := 0, locals := 47 }
theorem cdV_X7_needs : yX7_needs.cls = RX7 ∧ yX7_needs.cls ≠ "java/lang/invoke/MethodHandle" ∧ yX7_needs.cls ≠ "java/lang/invoke/VarHandle" ∧ (parseMethodDescriptor yX7_needs.desc).map (fun d => d.parameters.length) = some 1 := by decide +kernel
def m_X7_plain (S : St) (p1 : Int32) (p2 : Int32) : Option ((Int32 × St)) :=
  zo (m_X7_isNode S p1 p2) fun x1 =>
  if x1 = 0 then
    (
    zo2 (m_X7_goes S (nI 1)) fun x2 S3 =>
    if x2 = 0 then
      (
      some ((nI 0), S3)
      )
    else
      zo2 (m_X7_looksPlain S3 (((nI 2) * p1) + p2)) fun x4 S5 =>
      some (x4, S5)
    )
  else
    zo2 (m_X7_goes S (nI 0)) fun x6 S7 =>
    if x6 = 0 then
      (
      some ((nI 0), S7)
      )
    else
      zo2 (m_X7_looksPlain S7 (((nI 2) * p1) + p2)) fun x8 S9 =>
      some (x8, S9)
def rl_X7_plain : Room := { frames := 7, cells := 0, slots := 0, locals := 181 }
theorem cdV_X7_plain : yX7_plain.cls = RX7 ∧ yX7_plain.cls ≠ "java/lang/invoke/MethodHandle" ∧ yX7_plain.cls ≠ "java/lang/invoke/VarHandle" ∧ (parseMethodDescriptor yX7_plain.desc).map (fun d => d.parameters.length) = some 2 := by decide +kernel
def m_X7_poison (S : St) (p1 : Int32) (p2 : Int32) : Option ((Int32 × St)) :=
  zo (m_X7_isIn S p1 (nI 0) (nI 2)) fun x1 =>
  if x1 = 0 then
    (
    zo2 (m_X7_goes S (nI 1)) fun x2 S3 =>
    if x2 = 0 then
      (
      some ((nI 0), S3)
      )
    else
      zg (inb p1 3) <|
      zb (ri S3 10 p1) fun x4 =>
      zg (inb p1 3) <|
      zg (bz p2) <|
      zb (wi S3 9 (Int32.toNatClampNeg p1) p2) fun S5 =>
      zg (inb p1 3) <|
      zb (wi S5 10 (Int32.toNatClampNeg p1) (nI 0)) fun S6 =>
      zg (bz x4) <|
      some (x4, S6)
    )
  else
    zo2 (m_X7_goes S (nI 0)) fun x7 S8 =>
    if x7 = 0 then
      (
      some ((nI 0), S8)
      )
    else
      zg (inb p1 3) <|
      zb (ri S8 10 p1) fun x9 =>
      zg (inb p1 3) <|
      zg (bz p2) <|
      zb (wi S8 9 (Int32.toNatClampNeg p1) p2) fun S10 =>
      zg (inb p1 3) <|
      zb (wi S10 10 (Int32.toNatClampNeg p1) (nI 0)) fun S11 =>
      zg (bz x9) <|
      some (x9, S11)
def rl_X7_poison : Room := { frames := 1, cells := 0, slots := 0, locals := 22 }
theorem cdV_X7_poison : yX7_poison.cls = RX7 ∧ yX7_poison.cls ≠ "java/lang/invoke/MethodHandle" ∧ yX7_poison.cls ≠ "java/lang/invoke/VarHandle" ∧ (parseMethodDescriptor yX7_poison.desc).map (fun d => d.parameters.length) = some 2 := by decide +kernel
def m_X7_steps_B36 (x3 : Int32) (x4 : Int32) (rec12 : Int32 → Int32 → Int32 → Option (Int32)) (S : St) (x2 : Int32) (rec36 : Int32 → Int32 → Option (Int32)) (x6 : Int32) (x7 : Int32) : Option (Int32) :=
  if (nI 16) ≤ x7 then
    (
    zb (x6 &&& (x3 ^^^ (-1))) fun x8 =>
    zb (x3 ||| x6) fun x9 =>
    zb (x4 + (nI 1)) fun x10 =>
    rec12 x8 x9 x10
    )
  else
    zo (m_X7_has S x2 x7) fun x11 =>
    if x11 = 0 then
      (
      zb (x6 ||| (nI 0)) fun x12 =>
      zb (x7 + (nI 1)) fun x13 =>
      rec36 x12 x13
      )
    else
      zo (m_X7_inputsOf S x7) fun x14 =>
      zb (x6 ||| x14) fun x15 =>
      zb (x7 + (nI 1)) fun x16 =>
      rec36 x15 x16
def m_X7_steps_B12 (S : St) (p2 : Int32) (rec12 : Int32 → Int32 → Int32 → Option (Int32)) (x2 : Int32) (x3 : Int32) (x4 : Int32) : Option (Int32) :=
  if (nI 16) < x4 then
    (
    some (-1)
    )
  else
    zo (m_X7_has S x2 p2) fun x5 =>
    if x5 = 0 then
      (
      zl2 (m_X7_steps_B36 x3 x4 rec12 S x2) FU (nI 0) (nI 0)
      )
    else
      some x4
def m_X7_steps (S : St) (p1 : Int32) (p2 : Int32) : Option (Int32) :=
  zo (m_X7_inputsOf S p1) fun x1 =>
  zl3 (m_X7_steps_B12 S p2) FU x1 x1 (nI 1)
def rl_X7_steps : Room := { frames := 1, cells := 0, slots := 0, locals := 23 }
theorem cdV_X7_steps : yX7_steps.cls = RX7 ∧ yX7_steps.cls ≠ "java/lang/invoke/MethodHandle" ∧ yX7_steps.cls ≠ "java/lang/invoke/VarHandle" ∧ (parseMethodDescriptor yX7_steps.desc).map (fun d => d.parameters.length) = some 2 := by decide +kernel
def m_X7_ring (S : St) (p1 : Int32) : Option ((Int32 × St)) :=
  zo (m_X7_isTarget S p1) fun x1 =>
  if x1 = 0 then
    (
    zo2 (m_X7_goes S (nI 1)) fun x2 S3 =>
    if x2 = 0 then
      (
      some ((nI 0), S3)
      )
    else
      zo (m_X7_steps S3 p1 p1) fun x4 =>
      some (x4, S3)
    )
  else
    zo2 (m_X7_goes S (nI 0)) fun x5 S6 =>
    if x5 = 0 then
      (
      some ((nI 0), S6)
      )
    else
      zo (m_X7_steps S6 p1 p1) fun x7 =>
      some (x7, S6)
def rl_X7_ring : Room := { frames := 2, cells := 0, slots := 0, locals := 50 }
theorem cdV_X7_ring : yX7_ring.cls = RX7 ∧ yX7_ring.cls ≠ "java/lang/invoke/MethodHandle" ∧ yX7_ring.cls ≠ "java/lang/invoke/VarHandle" ∧ (parseMethodDescriptor yX7_ring.desc).map (fun d => d.parameters.length) = some 1 := by decide +kernel
def m_X7_rule_J72 (S : St) (p1 : Int32) (p2 : Int32) (p3 : Int32) (p4 : Int32) (p5 : Int32) (t4 : Int32) : Option ((Int32 × St)) :=
  zo2 (m_X7_goes S t4) fun x5 S6 =>
  if x5 = 0 then
    (
    some ((nI 0), S6)
    )
  else
    zg (inb p1 16) <|
    if (ri S6 1 p1) = (-1) then
      (
      zg (inb p1 16) <|
      zb (wi S6 1 (Int32.toNatClampNeg p1) p2) fun S7 =>
      zg (inb p1 16) <|
      zb (wi S7 2 (Int32.toNatClampNeg p1) p3) fun S8 =>
      zg (inb p1 16) <|
      zb (wi S8 3 (Int32.toNatClampNeg p1) p4) fun S9 =>
      zg (inb p1 16) <|
      zb (wi S9 4 (Int32.toNatClampNeg p1) p5) fun S10 =>
      zg (inb p1 16) <|
      zb (wi S10 5 (Int32.toNatClampNeg p1) (nI 0)) fun S11 =>
      some ((nI 0), S11)
      )
    else
      zg (inb p1 16) <|
      zb (wi S6 1 (Int32.toNatClampNeg p1) p2) fun S12 =>
      zg (inb p1 16) <|
      zb (wi S12 2 (Int32.toNatClampNeg p1) p3) fun S13 =>
      zg (inb p1 16) <|
      zb (wi S13 3 (Int32.toNatClampNeg p1) p4) fun S14 =>
      zg (inb p1 16) <|
      zb (wi S14 4 (Int32.toNatClampNeg p1) p5) fun S15 =>
      zg (inb p1 16) <|
      zb (wi S15 5 (Int32.toNatClampNeg p1) (nI 0)) fun S16 =>
      some ((nI 1), S16)
def m_X7_rule_J48 (S : St) (p1 : Int32) (p2 : Int32) (p3 : Int32) (p4 : Int32) (p5 : Int32) (t2 : Int32) : Option ((Int32 × St)) :=
  zo (m_X7_isTarget S p1) fun x3 =>
  if x3 = 0 then
    (
    m_X7_rule_J72 S p1 p2 p3 p4 p5 (nI 1)
    )
  else
    if t2 = 0 then
      (
      m_X7_rule_J72 S p1 p2 p3 p4 p5 (nI 2)
      )
    else
      m_X7_rule_J72 S p1 p2 p3 p4 p5 (nI 0)
def m_X7_rule_J47 (S : St) (p1 : Int32) (p2 : Int32) (p3 : Int32) (p4 : Int32) (p5 : Int32) : Option ((Int32 × St)) :=
  m_X7_rule_J48 S p1 p2 p3 p4 p5 (nI 0)
def m_X7_rule (S : St) (p1 : Int32) (p2 : Int32) (p3 : Int32) (p4 : Int32) (p5 : Int32) : Option ((Int32 × St)) :=
  zo (m_X7_isIn S p2 (-1) (nI 4)) fun x1 =>
  if x1 = 0 then
    (
    m_X7_rule_J47 S p1 p2 p3 p4 p5 
    )
  else
    zo (m_X7_isIn S p3 (nI 0) (nI 999)) fun x17 =>
    if x17 = 0 then
      (
      m_X7_rule_J47 S p1 p2 p3 p4 p5 
      )
    else
      zo (m_X7_isIn S p4 (nI 0) (nI 999)) fun x18 =>
      if x18 = 0 then
        (
        m_X7_rule_J47 S p1 p2 p3 p4 p5 
        )
      else
        zo (m_X7_isIn S p5 (nI 1) (nI 20)) fun x19 =>
        if x19 = 0 then
          (
          m_X7_rule_J47 S p1 p2 p3 p4 p5 
          )
        else
          m_X7_rule_J48 S p1 p2 p3 p4 p5 (nI 1)
def rl_X7_rule : Room := { frames := 2, cells := 0, slots := 0, locals := 42 }
theorem cdV_X7_rule : yX7_rule.cls = RX7 ∧ yX7_rule.cls ≠ "java/lang/invoke/MethodHandle" ∧ yX7_rule.cls ≠ "java/lang/invoke/VarHandle" ∧ (parseMethodDescriptor yX7_rule.desc).map (fun d => d.parameters.length) = some 5 := by decide +kernel
def m_X7_thrown (S : St) : Option (Int32) :=
  some (rs S 47)
def rl_X7_thrown : Room := { frames := 0, cells := 0, slots := 0, locals := 0 }
theorem cdV_X7_thrown : yX7_thrown.cls = RX7 ∧ yX7_thrown.cls ≠ "java/lang/invoke/MethodHandle" ∧ yX7_thrown.cls ≠ "java/lang/invoke/VarHandle" ∧ (parseMethodDescriptor yX7_thrown.desc).map (fun d => d.parameters.length) = some 0 := by decide +kernel
def m_X7_time_B90 (x5 : Int32) (p3 : Int32) (rec90 : St → Int32 → Option ((Int32 × St))) (S12 : St) (x13 : Int32) : Option ((Int32 × St)) :=
  zg (inb x5 32) <|
  if (ri S12 46 x5) = 0 then
    (
    zo (m_X7_goingAt S12 x13) fun x14 =>
    if p3 ≤ x14 then
      (
      zb (x13 + (nI 1)) fun x15 =>
      rec90 S12 x15
      )
    else
      zo (m_X7_beginsNext S12 x13) fun x16 =>
      if x16 = (-1) then
        (
        zb (x13 + (nI 1)) fun x18 =>
        rec90 S12 x18
        )
      else
        zg (inb (x16 / (nI 2)) 16) <|
        zg (inb x16 32) <|
        zb (wi S12 46 (Int32.toNatClampNeg x16) (x13 + (ri S12 4 (x16 / (nI 2))))) fun S17 =>
        rec90 S17 x13
    )
  else
    zg (inb x5 32) <|
    some ((ri S12 46 x5), S12)
def m_X7_time_B66 (x5 : Int32) (p3 : Int32) (rec66 : St → Int32 → Option ((Int32 × St))) (S10 : St) (x11 : Int32) : Option ((Int32 × St)) :=
  if (nI 32) ≤ x11 then
    (
    zl2 (m_X7_time_B90 x5 p3) FU S10 (nI 0)
    )
  else
    zg (inb x11 32) <|
    zb (wi S10 46 (Int32.toNatClampNeg x11) (nI 0)) fun S19 =>
    zb (x11 + (nI 1)) fun x20 =>
    rec66 S19 x20
def m_X7_time_J27 (S : St) (p1 : Int32) (p2 : Int32) (p3 : Int32) (t2 : Int32) : Option ((Int32 × St)) :=
  zo2 (m_X7_goes S t2) fun x3 S4 =>
  if x3 = 0 then
    (
    some ((nI 0), S4)
    )
  else
    zb (((nI 2) * p1) + p2) fun x5 =>
    zo2 (m_X7_looksPlain S4 x5) fun x6 S7 =>
    if 0 ≤ x6 then
      (
      zo (m_X7_laysNeeded S7) fun S8 =>
      zo (m_X7_laysLongest S8 x5) fun S9 =>
      zl2 (m_X7_time_B66 x5 p3) FU S9 (nI 0)
      )
    else
      some ((-1), S7)
def m_X7_time (S : St) (p1 : Int32) (p2 : Int32) (p3 : Int32) : Option ((Int32 × St)) :=
  zo (m_X7_isNode S p1 p2) fun x1 =>
  if x1 = 0 then
    (
    m_X7_time_J27 S p1 p2 p3 (nI 1)
    )
  else
    zo (m_X7_isIn S p3 (nI 1) (nI 3)) fun x21 =>
    if x21 = 0 then
      (
      m_X7_time_J27 S p1 p2 p3 (nI 2)
      )
    else
      m_X7_time_J27 S p1 p2 p3 (nI 0)
def rl_X7_time : Room := { frames := 7, cells := 0, slots := 0, locals := 181 }
theorem cdV_X7_time : yX7_time.cls = RX7 ∧ yX7_time.cls ≠ "java/lang/invoke/MethodHandle" ∧ yX7_time.cls ≠ "java/lang/invoke/VarHandle" ∧ (parseMethodDescriptor yX7_time.desc).map (fun d => d.parameters.length) = some 3 := by decide +kernel
def m_X7_users_B115 (S4 : St) (p1 : Int32) (x5 : Int32) (rec115 : Int32 → Int32 → Option ((Int32 × St))) (x7 : Int32) (x8 : Int32) : Option ((Int32 × St)) :=
  if (nI 16) ≤ x8 then
    (
    some (x7, S4)
    )
  else
    if p1 ≤ (nI 99) then
      (
      some (x7, S4)
      )
    else
      zo (m_X7_needsOf S4 x8) fun x9 =>
      if (x9 &&& x5) = 0 then
        (
        zb (x7 ||| (nI 0)) fun x10 =>
        zb (x8 + (nI 1)) fun x11 =>
        rec115 x10 x11
        )
      else
        zb (x7 ||| ((nI 1) <<< (x8 &&& 31))) fun x12 =>
        zb (x8 + (nI 1)) fun x13 =>
        rec115 x12 x13
def m_X7_users_J102 (x5 : Int32) (x6 : Int32) (rec36 : Int32 → Int32 → Option ((Int32 × St))) (t15 : Int32) : Option ((Int32 × St)) :=
  zb (x5 ||| t15) fun x16 =>
  zb (x6 + (nI 1)) fun x17 =>
  rec36 x16 x17
def m_X7_users_J87 (x5 : Int32) (x6 : Int32) (rec36 : Int32 → Int32 → Option ((Int32 × St))) (t14 : Int32) : Option ((Int32 × St)) :=
  if t14 = 0 then
    (
    m_X7_users_J102 x5 x6 rec36 (nI 0)
    )
  else
    m_X7_users_J102 x5 x6 rec36 ((nI 1) <<< (x6 &&& 31))
def m_X7_users_J86 (x5 : Int32) (x6 : Int32) (rec36 : Int32 → Int32 → Option ((Int32 × St))) : Option ((Int32 × St)) :=
  m_X7_users_J87 x5 x6 rec36 (nI 0)
def m_X7_users_B36 (S4 : St) (p1 : Int32) (rec36 : Int32 → Int32 → Option ((Int32 × St))) (x5 : Int32) (x6 : Int32) : Option ((Int32 × St)) :=
  if (nI 16) ≤ x6 then
    (
    zl2 (m_X7_users_B115 S4 p1 x5) FU x5 (nI 0)
    )
  else
    if (nI 100) ≤ p1 then
      (
      zg (inb x6 16) <|
      if (ri S4 1 x6) = (-1) then
        (
        m_X7_users_J86 x5 x6 rec36 
        )
      else
        zo (m_X7_isSeen S4 x6 (p1 - (nI 100))) fun x18 =>
        if x18 = 0 then
          (
          m_X7_users_J86 x5 x6 rec36 
          )
        else
          m_X7_users_J87 x5 x6 rec36 (nI 1)
      )
    else
      zo (m_X7_needsOf S4 x6) fun x19 =>
      zo (m_X7_has S4 x19 p1) fun x20 =>
      m_X7_users_J87 x5 x6 rec36 x20
def m_X7_users_J24 (S : St) (p1 : Int32) (t2 : Int32) : Option ((Int32 × St)) :=
  zo2 (m_X7_goes S t2) fun x3 S4 =>
  if x3 = 0 then
    (
    some ((nI 0), S4)
    )
  else
    zl2 (m_X7_users_B36 S4 p1) FU (nI 0) (nI 0)
def m_X7_users_J19 (S : St) (p1 : Int32) : Option ((Int32 × St)) :=
  m_X7_users_J24 S p1 (nI 0)
def m_X7_users (S : St) (p1 : Int32) : Option ((Int32 × St)) :=
  zo (m_X7_isTarget S p1) fun x1 =>
  if x1 = 0 then
    (
    zo (m_X7_isIn S p1 (nI 100) (nI 119)) fun x21 =>
    if x21 = 0 then
      (
      m_X7_users_J24 S p1 (nI 1)
      )
    else
      m_X7_users_J19 S p1 
    )
  else
    m_X7_users_J19 S p1 
def rl_X7_users : Room := { frames := 2, cells := 0, slots := 0, locals := 47 }
theorem cdV_X7_users : yX7_users.cls = RX7 ∧ yX7_users.cls ≠ "java/lang/invoke/MethodHandle" ∧ yX7_users.cls ≠ "java/lang/invoke/VarHandle" ∧ (parseMethodDescriptor yX7_users.desc).map (fun d => d.parameters.length) = some 1 := by decide +kernel
def m_X7_vanish (S : St) (p1 : Int32) : Option ((Int32 × St)) :=
  zo (m_X7_isIn S p1 (nI 0) (nI 20)) fun x1 =>
  if x1 = 0 then
    (
    zo2 (m_X7_goes S (nI 1)) fun x2 S3 =>
    if x2 = 0 then
      (
      some ((nI 0), S3)
      )
    else
      zb (rs S3 13) fun x4 =>
      zb (wi S3 13 0 p1) fun S5 =>
      some (x4, S5)
    )
  else
    zo2 (m_X7_goes S (nI 0)) fun x6 S7 =>
    if x6 = 0 then
      (
      some ((nI 0), S7)
      )
    else
      zb (rs S7 13) fun x8 =>
      zb (wi S7 13 0 p1) fun S9 =>
      some (x8, S9)
def rl_X7_vanish : Room := { frames := 1, cells := 0, slots := 0, locals := 22 }
theorem cdV_X7_vanish : yX7_vanish.cls = RX7 ∧ yX7_vanish.cls ≠ "java/lang/invoke/MethodHandle" ∧ yX7_vanish.cls ≠ "java/lang/invoke/VarHandle" ∧ (parseMethodDescriptor yX7_vanish.desc).map (fun d => d.parameters.length) = some 1 := by decide +kernel
def m_X7_way_J155 (x11 : Int32) (rec85 : Int32 → Int32 → Option ((Int32 × St))) (t16 : Int32) : Option ((Int32 × St)) :=
  zb (x11 + (-1)) fun x17 =>
  rec85 t16 x17
def m_X7_way_J141 (x11 : Int32) (rec85 : Int32 → Int32 → Option ((Int32 × St))) (x10 : Int32) (t15 : Int32) : Option ((Int32 × St)) :=
  if t15 = 0 then
    (
    m_X7_way_J155 x11 rec85 x10
    )
  else
    m_X7_way_J155 x11 rec85 x11
def m_X7_way_J140 (x11 : Int32) (rec85 : Int32 → Int32 → Option ((Int32 × St))) (x10 : Int32) : Option ((Int32 × St)) :=
  m_X7_way_J141 x11 rec85 x10 (nI 0)
def m_X7_way_J136 (x11 : Int32) (rec85 : Int32 → Int32 → Option ((Int32 × St))) (x10 : Int32) : Option ((Int32 × St)) :=
  m_X7_way_J141 x11 rec85 x10 (nI 1)
def m_X7_way_B85 (x8 : Int32) (rec69 : Int32 → Int32 → Int32 → Option ((Int32 × St))) (x9 : Int32) (S4 : St) (x7 : Int32) (p2 : Int32) (rec85 : Int32 → Int32 → Option ((Int32 × St))) (x10 : Int32) (x11 : Int32) : Option ((Int32 × St)) :=
  if x11 < 0 then
    (
    zb (x8 + (nI 1)) fun x12 =>
    rec69 x9 x10 x12
    )
  else
    zo (m_X7_inputsOf S4 x7) fun x13 =>
    zo (m_X7_has S4 x13 x11) fun x14 =>
    if x14 = 0 then
      (
      m_X7_way_J140 x11 rec85 x10 
      )
    else
      if x9 = 0 then
        (
        if x11 = p2 then
          (
          m_X7_way_J136 x11 rec85 x10 
          )
        else
          m_X7_way_J140 x11 rec85 x10 
        )
      else
        if x11 = p2 then
          (
          m_X7_way_J140 x11 rec85 x10 
          )
        else
          zo (m_X7_steps S4 x11 p2) fun x18 =>
          if x18 = x9 then
            (
            m_X7_way_J136 x11 rec85 x10 
            )
          else
            m_X7_way_J140 x11 rec85 x10 
def m_X7_way_B69 (p3 : Int32) (S4 : St) (p2 : Int32) (rec69 : Int32 → Int32 → Int32 → Option ((Int32 × St))) (x6 : Int32) (x7 : Int32) (x8 : Int32) : Option ((Int32 × St)) :=
  if p3 ≤ x8 then
    (
    some (x7, S4)
    )
  else
    zb (x6 + (-1)) fun x9 =>
    zl2 (m_X7_way_B85 x8 rec69 x9 S4 x7 p2) FU (-1) (nI 15)
def m_X7_way_J33 (S : St) (p1 : Int32) (p2 : Int32) (p3 : Int32) (t2 : Int32) : Option ((Int32 × St)) :=
  zo2 (m_X7_goes S t2) fun x3 S4 =>
  if x3 = 0 then
    (
    some ((nI 0), S4)
    )
  else
    zo (m_X7_steps S4 p1 p2) fun x5 =>
    if x5 = (-1) then
      (
      some ((-1), S4)
      )
    else
      if p3 ≤ x5 then
        (
        zl3 (m_X7_way_B69 p3 S4 p2) FU x5 p1 (nI 0)
        )
      else
        some ((-1), S4)
def m_X7_way_J19 (S : St) (p1 : Int32) (p2 : Int32) (p3 : Int32) : Option ((Int32 × St)) :=
  m_X7_way_J33 S p1 p2 p3 (nI 1)
def m_X7_way (S : St) (p1 : Int32) (p2 : Int32) (p3 : Int32) : Option ((Int32 × St)) :=
  zo (m_X7_isTarget S p1) fun x1 =>
  if x1 = 0 then
    (
    m_X7_way_J19 S p1 p2 p3 
    )
  else
    zo (m_X7_isTarget S p2) fun x19 =>
    if x19 = 0 then
      (
      m_X7_way_J19 S p1 p2 p3 
      )
    else
      if 0 ≤ p3 then
        (
        if p1 = p2 then
          (
          m_X7_way_J33 S p1 p2 p3 (nI 2)
          )
        else
          m_X7_way_J33 S p1 p2 p3 (nI 0)
        )
      else
        m_X7_way_J19 S p1 p2 p3 
def rl_X7_way : Room := { frames := 2, cells := 0, slots := 0, locals := 50 }
theorem cdV_X7_way : yX7_way.cls = RX7 ∧ yX7_way.cls ≠ "java/lang/invoke/MethodHandle" ∧ yX7_way.cls ≠ "java/lang/invoke/VarHandle" ∧ (parseMethodDescriptor yX7_way.desc).map (fun d => d.parameters.length) = some 3 := by decide +kernel
def m_X7_why (S : St) (p1 : Int32) (p2 : Int32) : Option ((Int32 × St)) :=
  zo (m_X7_isNode S p1 p2) fun x1 =>
  if x1 = 0 then
    (
    zo2 (m_X7_goes S (nI 1)) fun x2 S3 =>
    if x2 = 0 then
      (
      some ((nI 0), S3)
      )
    else
      zg (inb (((nI 2) * p1) + p2) 32) <|
      some ((ri S3 32 (((nI 2) * p1) + p2)), S3)
    )
  else
    zo2 (m_X7_goes S (nI 0)) fun x4 S5 =>
    if x4 = 0 then
      (
      some ((nI 0), S5)
      )
    else
      zg (inb (((nI 2) * p1) + p2) 32) <|
      some ((ri S5 32 (((nI 2) * p1) + p2)), S5)
def rl_X7_why : Room := { frames := 3, cells := 0, slots := 0, locals := 63 }
theorem cdV_X7_why : yX7_why.cls = RX7 ∧ yX7_why.cls ≠ "java/lang/invoke/MethodHandle" ∧ yX7_why.cls ≠ "java/lang/invoke/VarHandle" ∧ (parseMethodDescriptor yX7_why.desc).map (fun d => d.parameters.length) = some 2 := by decide +kernel
def m_X7_write (S : St) (p1 : Int32) (p2 : Int32) : Option ((Int32 × St)) :=
  zo (m_X7_isIn S p1 (nI 0) (nI 19)) fun x1 =>
  if x1 = 0 then
    (
    zo2 (m_X7_goes S (nI 1)) fun x11 S12 =>
    if x11 = 0 then
      (
      some ((nI 0), S12)
      )
    else
      zg (inb p1 20) <|
      zb (ri S12 0 p1) fun x13 =>
      zg (inb p1 20) <|
      zb (wi S12 0 (Int32.toNatClampNeg p1) p2) fun S14 =>
      some (x13, S14)
    )
  else
    zo (m_X7_isIn S p2 (-1) (nI 999)) fun x2 =>
    if x2 = 0 then
      (
      zo2 (m_X7_goes S (nI 2)) fun x3 S4 =>
      if x3 = 0 then
        (
        some ((nI 0), S4)
        )
      else
        zg (inb p1 20) <|
        zb (ri S4 0 p1) fun x5 =>
        zg (inb p1 20) <|
        zb (wi S4 0 (Int32.toNatClampNeg p1) p2) fun S6 =>
        some (x5, S6)
      )
    else
      zo2 (m_X7_goes S (nI 0)) fun x7 S8 =>
      if x7 = 0 then
        (
        some ((nI 0), S8)
        )
      else
        zg (inb p1 20) <|
        zb (ri S8 0 p1) fun x9 =>
        zg (inb p1 20) <|
        zb (wi S8 0 (Int32.toNatClampNeg p1) p2) fun S10 =>
        some (x9, S10)
def rl_X7_write : Room := { frames := 1, cells := 0, slots := 0, locals := 22 }
theorem cdV_X7_write : yX7_write.cls = RX7 ∧ yX7_write.cls ≠ "java/lang/invoke/MethodHandle" ∧ yX7_write.cls ≠ "java/lang/invoke/VarHandle" ∧ (parseMethodDescriptor yX7_write.desc).map (fun d => d.parameters.length) = some 2 := by decide +kernel
