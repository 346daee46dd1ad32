/-! ===== the methods as pure functions (by program out of the instructions) ===== -/
def st_len (i : Nat) : Option Int32 := if i < 4 then some (nI (am_len.getD i 0)) else none
def st_at (i : Nat) (k : Int32) : Option Int32 := if i < 4 then chk k (am_len.getD i 0) (some ((am_byt.getD i []).getD k.toNatClampNeg 0)) else none
theorem st_len_lt {i : Nat} {z : Int32} (h : st_len i = some z) : i < 4 := by
  unfold st_len at h
  split at h
  · assumption
  · cases h
theorem st_at_lt {i : Nat} {k z : Int32} (h : st_at i k = some z) : i < 4 := by
  unfold st_at at h
  split at h
  · assumption
  · cases h
noncomputable def f_X3_axisOf (p1 : Int32) : Option (Int32) :=
  some (p1 &&& 1)
noncomputable def f_X3_lineOf (p1 : Int32) : Option (Int32) :=
  some ((p1 >>> (3 &&& 31)) + 1)
noncomputable def j_X3_isParted_1 (x2 : Int32) (x3 : Int32) (x4 : Int32) : Option (Int32) :=
  if (if x4 < x3 then x3 else x4) = x2 then
    some 1
  else
    some 0
noncomputable def j_X3_isParted_2 (σ : Sg) (p1 : Int32) (p2 : Int32) (x8 : Int32) (x9 : Int32) (x10 : Int32) : Option (Int32) :=
  if x10 = x9 then
    chk p1 16 <|
    chk p2 16 <|
    if (if (σ 2 (p2 : Int32).toNatClampNeg) < (σ 2 (p1 : Int32).toNatClampNeg) then (σ 2 (p2 : Int32).toNatClampNeg) else (σ 2 (p1 : Int32).toNatClampNeg)) = (x8 - 1) then
      chk p1 16 <|
      chk p2 16 <|
      j_X3_isParted_1 x8 (σ 2 (p2 : Int32).toNatClampNeg) (σ 2 (p1 : Int32).toNatClampNeg)
    else
      some 0
  else
    some 0
noncomputable def j_X3_isParted_3 (σ : Sg) (p1 : Int32) (p2 : Int32) (x25 : Int32) (x26 : Int32) (x27 : Int32) : Option (Int32) :=
  if x27 = x26 then
    chk p1 16 <|
    chk p2 16 <|
    if (if (σ 1 (p2 : Int32).toNatClampNeg) < (σ 1 (p1 : Int32).toNatClampNeg) then (σ 1 (p2 : Int32).toNatClampNeg) else (σ 1 (p1 : Int32).toNatClampNeg)) = (x25 - 1) then
      chk p1 16 <|
      chk p2 16 <|
      j_X3_isParted_1 x25 (σ 1 (p2 : Int32).toNatClampNeg) (σ 1 (p1 : Int32).toNatClampNeg)
    else
      some 0
  else
    some 0
noncomputable def f_X3_isParted (σ : Sg) (p1 : Int32) (p2 : Int32) (p3 : Int32) : Option (Int32) :=
  (f_X3_axisOf p3).bind fun z1 =>
  if z1 = 0 then
    (f_X3_axisOf p3).bind fun z24 =>
    if z24 = 0 then
      (f_X3_lineOf p3).bind fun z38 =>
      chk p1 16 <|
      chk p2 16 <|
      j_X3_isParted_3 σ p1 p2 z38 (σ 2 (p2 : Int32).toNatClampNeg) (σ 2 (p1 : Int32).toNatClampNeg)
    else
      (f_X3_lineOf p3).bind fun z35 =>
      chk p1 16 <|
      chk p2 16 <|
      j_X3_isParted_3 σ p1 p2 z35 (σ 1 (p2 : Int32).toNatClampNeg) (σ 1 (p1 : Int32).toNatClampNeg)
  else
    (f_X3_axisOf p3).bind fun z7 =>
    if z7 = 0 then
      (f_X3_lineOf p3).bind fun z21 =>
      chk p1 16 <|
      chk p2 16 <|
      j_X3_isParted_2 σ p1 p2 z21 (σ 2 (p2 : Int32).toNatClampNeg) (σ 2 (p1 : Int32).toNatClampNeg)
    else
      (f_X3_lineOf p3).bind fun z18 =>
      chk p1 16 <|
      chk p2 16 <|
      j_X3_isParted_2 σ p1 p2 z18 (σ 1 (p2 : Int32).toNatClampNeg) (σ 1 (p1 : Int32).toNatClampNeg)
noncomputable def s_X0_bend_2 (τ : Sg) (p1 : Int32) (x1 : Int32) (g2 : Sg) (k3 : Int32 → Sg → Option (Sg)) : Option (Sg) :=
  if (g2 0 0) ≤ x1 then
    some g2
  else
    chk x1 24 <|
    chk x1 24 <|
    (f_X3_isParted τ (g2 1 (x1 : Int32).toNatClampNeg) (g2 2 (x1 : Int32).toNatClampNeg) p1).bind fun z7 =>
    if z7 = 0 then
      k3 (x1 + 1) g2
    else
      chk x1 24 <|
      chk x1 24 <|
      k3 (x1 + 1) (sg_st g2 3 (x1 : Int32).toNatClampNeg ((g2 3 (x1 : Int32).toNatClampNeg) + 1))
noncomputable def f_X0_bend (σ : Sg) (τ : Sg) (p1 : Int32) : Option (Sg) :=
  lc2 (s_X0_bend_2 τ p1) 1000 0 σ
noncomputable def s_X0_find_16 (σ : Sg) (p1 : Int32) (p2 : Int32) (x1 : Int32) (k2 : Int32 → Option (Int32)) : Option (Int32) :=
  if (σ 0 0) ≤ x1 then
    some (-9)
  else
    chk x1 24 <|
    if (σ 1 (x1 : Int32).toNatClampNeg) = (if p2 < p1 then p2 else p1) then
      chk x1 24 <|
      if (σ 2 (x1 : Int32).toNatClampNeg) = (if p1 < p2 then p2 else p1) then
        some x1
      else
        k2 (x1 + 1)
    else
      k2 (x1 + 1)
noncomputable def f_X0_find (σ : Sg) (p1 : Int32) (p2 : Int32) : Option (Int32) :=
  lc1 (s_X0_find_16 σ p1 p2) 1000 0
noncomputable def s_X0_layOut_19 (τ : Sg) (x1 : Int32) (k3 : Int32 → Sg → Option (Sg)) (x5 : Int32) (g6 : Sg) (k7 : Int32 → Sg → Option (Sg)) : Option (Sg) :=
  if (τ 0 0) ≤ x5 then
    k3 (x1 + 1) g6
  else
    chk x1 16 <|
    chk x5 16 <|
    chk x1 16 <|
    chk x5 16 <|
    if ((if 0 ≤ ((τ 1 (x1 : Int32).toNatClampNeg) - (τ 1 (x5 : Int32).toNatClampNeg)) then ((τ 1 (x1 : Int32).toNatClampNeg) - (τ 1 (x5 : Int32).toNatClampNeg)) else 0 - ((τ 1 (x1 : Int32).toNatClampNeg) - (τ 1 (x5 : Int32).toNatClampNeg))) + (if 0 ≤ ((τ 2 (x1 : Int32).toNatClampNeg) - (τ 2 (x5 : Int32).toNatClampNeg)) then ((τ 2 (x1 : Int32).toNatClampNeg) - (τ 2 (x5 : Int32).toNatClampNeg)) else 0 - ((τ 2 (x1 : Int32).toNatClampNeg) - (τ 2 (x5 : Int32).toNatClampNeg)))) = 1 then
      if 24 ≤ (g6 0 0) then
        k7 (x5 + 1) g6
      else
        chk (g6 0 0) 24 <|
        chk ((sg_st g6 1 ((g6 0 0) : Int32).toNatClampNeg x1) 0 0) 24 <|
        k7 (x5 + 1) (sg_st (sg_st (sg_st g6 1 ((g6 0 0) : Int32).toNatClampNeg x1) 2 (((sg_st g6 1 ((g6 0 0) : Int32).toNatClampNeg x1) 0 0) : Int32).toNatClampNeg x5) 0 0 (((sg_st (sg_st g6 1 ((g6 0 0) : Int32).toNatClampNeg x1) 2 (((sg_st g6 1 ((g6 0 0) : Int32).toNatClampNeg x1) 0 0) : Int32).toNatClampNeg x5) 0 0) + 1))
    else
      k7 (x5 + 1) g6
noncomputable def s_X0_layOut_7 (τ : Sg) (x1 : Int32) (g2 : Sg) (k3 : Int32 → Sg → Option (Sg)) : Option (Sg) :=
  if (τ 0 0) ≤ x1 then
    some g2
  else
    lc2 (s_X0_layOut_19 τ x1 k3) 1000 (x1 + 1) g2
noncomputable def f_X0_layOut (σ : Sg) (τ : Sg) : Option (Sg) :=
  lc2 (s_X0_layOut_7 τ) 1000 0 (sg_st σ 0 0 0)
noncomputable def s_X0_wouldTear_3 (σ : Sg) (τ : Sg) (p1 : Int32) (p2 : Int32) (x1 : Int32) (k2 : Int32 → Option (Int32)) : Option (Int32) :=
  if (σ 0 0) ≤ x1 then
    some 0
  else
    chk x1 24 <|
    if (σ 3 (x1 : Int32).toNatClampNeg) < p2 then
      k2 (x1 + 1)
    else
      chk x1 24 <|
      chk x1 24 <|
      (f_X3_isParted τ (σ 1 (x1 : Int32).toNatClampNeg) (σ 2 (x1 : Int32).toNatClampNeg) p1).bind fun z8 =>
      if z8 = 0 then
        k2 (x1 + 1)
      else
        some 1
noncomputable def f_X0_wouldTear (σ : Sg) (τ : Sg) (p1 : Int32) (p2 : Int32) : Option (Int32) :=
  lc1 (s_X0_wouldTear_3 σ τ p1 p2) 1000 0
noncomputable def j_X1_becomeAsAtFirst_1 (g1 : Sg) : Option (Sg) :=
  some (sg_st g1 2 0 0)
noncomputable def s_X1_becomeAsAtFirst_17 (e5 : Sg → Option (Sg)) (x2 : Int32) (g3 : Sg) (k4 : Int32 → Sg → Option (Sg)) : Option (Sg) :=
  if 16 ≤ x2 then
    e5 g3
  else
    chk x2 16 <|
    k4 (x2 + 1) (sg_st g3 1 (x2 : Int32).toNatClampNeg 1)
noncomputable def f_X1_becomeAsAtFirst (σ : Sg) : Option (Sg) :=
  lc2 (s_X1_becomeAsAtFirst_17 j_X1_becomeAsAtFirst_1) 1000 0 (sg_st (sg_st (sg_st σ 0 0 3) 0 1 2) 0 2 3)
noncomputable def f_X4_copyFrom (σ : Sg) (τ : Sg) : Option (Sg) :=
  ccp 0 0 6 6 6 <|
  ccp 0 0 6 6 6 <|
  some (sg_ar (sg_ar (sg_st σ 0 0 (τ 0 0)) 1 (va_cpy (τ 1) ((sg_st σ 0 0 (τ 0 0)) 1) (0 : Int32).toNatClampNeg (0 : Int32).toNatClampNeg (6 : Int32).toNatClampNeg)) 2 (va_cpy (τ 2) ((sg_ar (sg_st σ 0 0 (τ 0 0)) 1 (va_cpy (τ 1) ((sg_st σ 0 0 (τ 0 0)) 1) (0 : Int32).toNatClampNeg (0 : Int32).toNatClampNeg (6 : Int32).toNatClampNeg)) 2) (0 : Int32).toNatClampNeg (0 : Int32).toNatClampNeg (6 : Int32).toNatClampNeg))
noncomputable def f_X1_copyFrom (σ : Sg) (τ : Sg) : Option (Sg) :=
  ccp 0 0 16 16 16 <|
  (f_X4_copyFrom (sg_off (sg_ar (sg_st (sg_st (sg_st σ 0 0 (τ 0 0)) 0 1 (τ 0 1)) 0 2 (τ 0 2)) 1 (va_cpy (τ 1) ((sg_st (sg_st (sg_st σ 0 0 (τ 0 0)) 0 1 (τ 0 1)) 0 2 (τ 0 2)) 1) (0 : Int32).toNatClampNeg (0 : Int32).toNatClampNeg (16 : Int32).toNatClampNeg)) 2) (sg_off τ 2)).bind fun z2 =>
  some (sg_sp (sg_ar (sg_st (sg_st (sg_st σ 0 0 (τ 0 0)) 0 1 (τ 0 1)) 0 2 (τ 0 2)) 1 (va_cpy (τ 1) ((sg_st (sg_st (sg_st σ 0 0 (τ 0 0)) 0 1 (τ 0 1)) 0 2 (τ 0 2)) 1) (0 : Int32).toNatClampNeg (0 : Int32).toNatClampNeg (16 : Int32).toNatClampNeg)) 2 3 z2)
noncomputable def f_X1_setWorth (σ : Sg) (p1 : Int32) (p2 : Int32) : Option (Sg) :=
  if p1 < 0 then
    some σ
  else
    if 16 ≤ p1 then
      some σ
    else
      chk p1 16 <|
      some (sg_st σ 1 (p1 : Int32).toNatClampNeg p2)
noncomputable def f_X2_addFold (σ : Sg) (p1 : Int32) : Option (Sg) :=
  if 6 ≤ (σ 0 2) then
    some σ
  else
    chk (σ 0 2) 6 <|
    some (sg_st (sg_st σ 1 ((σ 0 2) : Int32).toNatClampNeg p1) 0 2 (((sg_st σ 1 ((σ 0 2) : Int32).toNatClampNeg p1) 0 2) + 1))
noncomputable def s_X2_begin_12 (x1 : Int32) (g2 : Sg) (k3 : Int32 → Sg → Option (Sg)) : Option (Sg) :=
  if 24 ≤ x1 then
    some g2
  else
    chk x1 24 <|
    k3 (x1 + 1) (sg_st g2 2 (x1 : Int32).toNatClampNeg 0)
noncomputable def f_X2_begin (σ : Sg) : Option (Sg) :=
  lc2 (s_X2_begin_12) 1000 0 (sg_st (sg_st σ 0 1 0) 0 2 0)
noncomputable def f_X2_copyFrom (σ : Sg) (τ : Sg) : Option (Sg) :=
  ccp 0 0 6 6 6 <|
  ccp 0 0 24 24 24 <|
  some (sg_ar (sg_ar (sg_st (sg_st σ 0 1 (τ 0 1)) 0 2 (τ 0 2)) 1 (va_cpy (τ 1) ((sg_st (sg_st σ 0 1 (τ 0 1)) 0 2 (τ 0 2)) 1) (0 : Int32).toNatClampNeg (0 : Int32).toNatClampNeg (6 : Int32).toNatClampNeg)) 2 (va_cpy (τ 2) ((sg_ar (sg_st (sg_st σ 0 1 (τ 0 1)) 0 2 (τ 0 2)) 1 (va_cpy (τ 1) ((sg_st (sg_st σ 0 1 (τ 0 1)) 0 2 (τ 0 2)) 1) (0 : Int32).toNatClampNeg (0 : Int32).toNatClampNeg (6 : Int32).toNatClampNeg)) 2) (0 : Int32).toNatClampNeg (0 : Int32).toNatClampNeg (24 : Int32).toNatClampNeg))
noncomputable def f_X2_nextDay (σ : Sg) (τ : Sg) : Option (Sg) :=
  ccp 0 0 24 24 24 <|
  some (sg_ar (sg_st (sg_st σ 0 1 ((σ 0 1) + 1)) 0 2 0) 2 (va_cpy (τ 3) ((sg_st (sg_st σ 0 1 ((σ 0 1) + 1)) 0 2 0) 2) (0 : Int32).toNatClampNeg (0 : Int32).toNatClampNeg (24 : Int32).toNatClampNeg))
noncomputable def j_X3_touching_1 (σ : Sg) (x15 : Int32) : Option (Int32) :=
  chk x15 16 <|
  if (σ 4 (x15 : Int32).toNatClampNeg) = 1 then
    some 1
  else
    some 2
noncomputable def f_X3_touching (σ : Sg) (p1 : Int32) (p2 : Int32) : Option (Int32) :=
  chk p1 16 <|
  chk p2 16 <|
  if (σ 1 (p1 : Int32).toNatClampNeg) = (σ 1 (p2 : Int32).toNatClampNeg) then
    chk p1 16 <|
    chk p2 16 <|
    if (σ 2 (p1 : Int32).toNatClampNeg) = (σ 2 (p2 : Int32).toNatClampNeg) then
      chk p1 16 <|
      chk p2 16 <|
      if (if 0 ≤ ((σ 3 (p1 : Int32).toNatClampNeg) - (σ 3 (p2 : Int32).toNatClampNeg)) then ((σ 3 (p1 : Int32).toNatClampNeg) - (σ 3 (p2 : Int32).toNatClampNeg)) else 0 - ((σ 3 (p1 : Int32).toNatClampNeg) - (σ 3 (p2 : Int32).toNatClampNeg))) = 1 then
        chk p1 16 <|
        chk p2 16 <|
        if (σ 4 (p1 : Int32).toNatClampNeg) = (σ 4 (p2 : Int32).toNatClampNeg) then
          some 3
        else
          chk p1 16 <|
          chk p2 16 <|
          if (σ 3 (p2 : Int32).toNatClampNeg) ≤ (σ 3 (p1 : Int32).toNatClampNeg) then
            j_X3_touching_1 σ p2
          else
            j_X3_touching_1 σ p1
      else
        some 0
    else
      some 0
  else
    some 0
noncomputable def s_X3_allTouch_2 (σ : Sg) (τ : Sg) (x1 : Int32) (k2 : Int32 → Option (Int32)) : Option (Int32) :=
  if (τ 0 0) ≤ x1 then
    some 1
  else
    chk x1 6 <|
    chk x1 6 <|
    (f_X3_touching σ (τ 1 (x1 : Int32).toNatClampNeg) (τ 2 (x1 : Int32).toNatClampNeg)).bind fun z6 =>
    if z6 = 0 then
      some 0
    else
      k2 (x1 + 1)
noncomputable def f_X3_allTouch (σ : Sg) (τ : Sg) : Option (Int32) :=
  lc1 (s_X3_allTouch_2 σ τ) 1000 0
noncomputable def f_X3_isPlace (p1 : Int32) (p2 : Int32) : Option (Int32) :=
  if p1 < 0 then
    some 0
  else
    if 4 ≤ p1 then
      some 0
    else
      if p2 < 0 then
        some 0
      else
        if 4 ≤ p2 then
          some 0
        else
          some 1
noncomputable def s_X3_countHeights_23 (x5 : Int32) (g6 : Sg) (k7 : Int32 → Sg → Option (Sg)) : Option (Sg) :=
  if (g6 0 0) ≤ x5 then
    some g6
  else
    chk x5 16 <|
    chk x5 16 <|
    (f_X3_isPlace (g6 1 (x5 : Int32).toNatClampNeg) (g6 2 (x5 : Int32).toNatClampNeg)).bind fun z11 =>
    if z11 = 0 then
      k7 (x5 + 1) g6
    else
      chk x5 16 <|
      chk x5 16 <|
      chk ((4 * (g6 2 (x5 : Int32).toNatClampNeg)) + (g6 1 (x5 : Int32).toNatClampNeg)) 16 <|
      chk ((4 * (g6 2 (x5 : Int32).toNatClampNeg)) + (g6 1 (x5 : Int32).toNatClampNeg)) 16 <|
      k7 (x5 + 1) (sg_st g6 5 (((4 * (g6 2 (x5 : Int32).toNatClampNeg)) + (g6 1 (x5 : Int32).toNatClampNeg)) : Int32).toNatClampNeg ((g6 5 (((4 * (g6 2 (x5 : Int32).toNatClampNeg)) + (g6 1 (x5 : Int32).toNatClampNeg)) : Int32).toNatClampNeg) + 1))
noncomputable def s_X3_countHeights_2 (x1 : Int32) (g2 : Sg) (k3 : Int32 → Sg → Option (Sg)) : Option (Sg) :=
  if 16 ≤ x1 then
    lc2 (s_X3_countHeights_23) 1000 0 g2
  else
    chk x1 16 <|
    k3 (x1 + 1) (sg_st g2 5 (x1 : Int32).toNatClampNeg 0)
noncomputable def f_X3_countHeights (σ : Sg) : Option (Sg) :=
  lc2 (s_X3_countHeights_2) 1000 0 σ
noncomputable def f_X3_heightAt (σ : Sg) (p1 : Int32) (p2 : Int32) : Option (Int32) :=
  (f_X3_isPlace p1 p2).bind fun z1 =>
  if z1 = 0 then
    some 0
  else
    chk ((4 * p2) + p1) 16 <|
    some (σ 5 (((4 * p2) + p1) : Int32).toNatClampNeg)
noncomputable def f_X3_overOf (p1 : Int32) : Option (Int32) :=
  some ((p1 >>> (2 &&& 31)) &&& 1)
noncomputable def f_X3_partOf (p1 : Int32) : Option (Int32) :=
  some ((p1 >>> (1 &&& 31)) &&& 1)
noncomputable def j_X3_shiftOf_1 (p1 : Int32) (z1 : Int32) (x3 : Int32) : Option (Int32) :=
  (f_X3_partOf p1).bind fun z4 =>
  if z4 = 0 then
    some (-z1)
  else
    some (if 0 < (x3 - (2 * z1)) then (x3 - (2 * z1)) else 0)
noncomputable def f_X3_shiftOf (σ : Sg) (p1 : Int32) : Option (Int32) :=
  (f_X3_lineOf p1).bind fun z1 =>
  (f_X3_axisOf p1).bind fun z2 =>
  if z2 = 0 then
    j_X3_shiftOf_1 p1 z1 (σ 0 1)
  else
    j_X3_shiftOf_1 p1 z1 (σ 0 2)
noncomputable def f_X3_shrink (σ : Sg) (p1 : Int32) (p2 : Int32) : Option (Sg) :=
  if p1 = 0 then
    some (sg_st σ 0 1 (if p2 < ((σ 0 1) - p2) then ((σ 0 1) - p2) else p2))
  else
    some (sg_st σ 0 2 (if p2 < ((σ 0 2) - p2) then ((σ 0 2) - p2) else p2))
noncomputable def j_X3_bend_2 (z2 : Int32) (z3 : Int32) (g6 : Sg) : Option (Sg) :=
  (f_X3_shrink g6 z2 z3).bind fun z7 =>
  some z7
noncomputable def j_X3_bend_5 (z9 : Int32) (x10 : Int32) (g11 : Sg) (k12 : Int32 → Sg → Option (Sg)) (x18 : Int32) : Option (Sg) :=
  chk x10 16 <|
  chk x10 16 <|
  k12 (x10 + 1) (sg_st (sg_st g11 3 (x10 : Int32).toNatClampNeg ((g11 3 (x10 : Int32).toNatClampNeg) + x18)) 2 (x10 : Int32).toNatClampNeg ((g11 2 (x10 : Int32).toNatClampNeg) + z9))
noncomputable def j_X3_bend_4 (x5 : Int32) (z9 : Int32) (x10 : Int32) (g11 : Sg) (k12 : Int32 → Sg → Option (Sg)) (x15 : Int32) : Option (Sg) :=
  chk x10 16 <|
  if x5 = 0 then
    j_X3_bend_5 z9 x10 g11 k12 x15
  else
    j_X3_bend_5 z9 x10 g11 k12 0
noncomputable def j_X3_bend_7 (z3 : Int32) (z9 : Int32) (x10 : Int32) (g11 : Sg) (k12 : Int32 → Sg → Option (Sg)) (x26 : Int32) : Option (Sg) :=
  chk x10 16 <|
  chk x10 16 <|
  chk x10 16 <|
  chk x10 16 <|
  k12 (x10 + 1) (sg_st (sg_st (sg_st g11 3 (x10 : Int32).toNatClampNeg x26) 4 (x10 : Int32).toNatClampNeg (1 - ((sg_st g11 3 (x10 : Int32).toNatClampNeg x26) 4 (x10 : Int32).toNatClampNeg))) 2 (x10 : Int32).toNatClampNeg ((((2 * z3) - 1) - (g11 2 (x10 : Int32).toNatClampNeg)) + z9))
noncomputable def j_X3_bend_6 (z3 : Int32) (x5 : Int32) (z9 : Int32) (x10 : Int32) (g11 : Sg) (k12 : Int32 → Sg → Option (Sg)) (x15 : Int32) : Option (Sg) :=
  chk x10 16 <|
  chk x10 16 <|
  (f_X3_heightAt g11 (g11 1 (x10 : Int32).toNatClampNeg) (g11 2 (x10 : Int32).toNatClampNeg)).bind fun z24 =>
  chk x10 16 <|
  if x5 = 0 then
    j_X3_bend_7 z3 z9 x10 g11 k12 ((z24 - 1) - (g11 3 (x10 : Int32).toNatClampNeg))
  else
    j_X3_bend_7 z3 z9 x10 g11 k12 (x15 + ((z24 - 1) - (g11 3 (x10 : Int32).toNatClampNeg)))
noncomputable def j_X3_bend_3 (p1 : Int32) (z3 : Int32) (x5 : Int32) (z9 : Int32) (x10 : Int32) (g11 : Sg) (k12 : Int32 → Sg → Option (Sg)) (x15 : Int32) : Option (Sg) :=
  (f_X3_partOf p1).bind fun z16 =>
  if z16 = 0 then
    if z3 ≤ (g11 2 (x10 : Int32).toNatClampNeg) then
      j_X3_bend_4 x5 z9 x10 g11 k12 x15
    else
      j_X3_bend_6 z3 x5 z9 x10 g11 k12 x15
  else
    if (g11 2 (x10 : Int32).toNatClampNeg) < z3 then
      j_X3_bend_4 x5 z9 x10 g11 k12 x15
    else
      j_X3_bend_6 z3 x5 z9 x10 g11 k12 x15
noncomputable def s_X3_bend_56 (p1 : Int32) (z2 : Int32) (z3 : Int32) (x5 : Int32) (z9 : Int32) (x10 : Int32) (g11 : Sg) (k12 : Int32 → Sg → Option (Sg)) : Option (Sg) :=
  if (g11 0 0) ≤ x10 then
    j_X3_bend_2 z2 z3 g11
  else
    chk x10 16 <|
    if z2 = 0 then
      chk x10 16 <|
      (f_X3_heightAt g11 (((2 * z3) - 1) - (g11 2 (x10 : Int32).toNatClampNeg)) (g11 2 (x10 : Int32).toNatClampNeg)).bind fun z39 =>
      j_X3_bend_3 p1 z3 x5 z9 x10 g11 k12 z39
    else
      chk x10 16 <|
      (f_X3_heightAt g11 (g11 1 (x10 : Int32).toNatClampNeg) (((2 * z3) - 1) - (g11 2 (x10 : Int32).toNatClampNeg))).bind fun z37 =>
      j_X3_bend_3 p1 z3 x5 z9 x10 g11 k12 z37
noncomputable def j_X3_bend_10 (z40 : Int32) (x41 : Int32) (g42 : Sg) (k43 : Int32 → Sg → Option (Sg)) (x49 : Int32) : Option (Sg) :=
  chk x41 16 <|
  chk x41 16 <|
  k43 (x41 + 1) (sg_st (sg_st g42 3 (x41 : Int32).toNatClampNeg ((g42 3 (x41 : Int32).toNatClampNeg) + x49)) 1 (x41 : Int32).toNatClampNeg ((g42 1 (x41 : Int32).toNatClampNeg) + z40))
noncomputable def j_X3_bend_9 (x5 : Int32) (z40 : Int32) (x41 : Int32) (g42 : Sg) (k43 : Int32 → Sg → Option (Sg)) (x46 : Int32) : Option (Sg) :=
  chk x41 16 <|
  if x5 = 0 then
    j_X3_bend_10 z40 x41 g42 k43 x46
  else
    j_X3_bend_10 z40 x41 g42 k43 0
noncomputable def j_X3_bend_12 (z3 : Int32) (z40 : Int32) (x41 : Int32) (g42 : Sg) (k43 : Int32 → Sg → Option (Sg)) (x57 : Int32) : Option (Sg) :=
  chk x41 16 <|
  chk x41 16 <|
  chk x41 16 <|
  chk x41 16 <|
  k43 (x41 + 1) (sg_st (sg_st (sg_st g42 3 (x41 : Int32).toNatClampNeg x57) 4 (x41 : Int32).toNatClampNeg (1 - ((sg_st g42 3 (x41 : Int32).toNatClampNeg x57) 4 (x41 : Int32).toNatClampNeg))) 1 (x41 : Int32).toNatClampNeg ((((2 * z3) - 1) - (g42 1 (x41 : Int32).toNatClampNeg)) + z40))
noncomputable def j_X3_bend_11 (z3 : Int32) (x5 : Int32) (z40 : Int32) (x41 : Int32) (g42 : Sg) (k43 : Int32 → Sg → Option (Sg)) (x46 : Int32) : Option (Sg) :=
  chk x41 16 <|
  chk x41 16 <|
  (f_X3_heightAt g42 (g42 1 (x41 : Int32).toNatClampNeg) (g42 2 (x41 : Int32).toNatClampNeg)).bind fun z55 =>
  chk x41 16 <|
  if x5 = 0 then
    j_X3_bend_12 z3 z40 x41 g42 k43 ((z55 - 1) - (g42 3 (x41 : Int32).toNatClampNeg))
  else
    j_X3_bend_12 z3 z40 x41 g42 k43 (x46 + ((z55 - 1) - (g42 3 (x41 : Int32).toNatClampNeg)))
noncomputable def j_X3_bend_8 (p1 : Int32) (z3 : Int32) (x5 : Int32) (z40 : Int32) (x41 : Int32) (g42 : Sg) (k43 : Int32 → Sg → Option (Sg)) (x46 : Int32) : Option (Sg) :=
  (f_X3_partOf p1).bind fun z47 =>
  if z47 = 0 then
    if z3 ≤ (g42 1 (x41 : Int32).toNatClampNeg) then
      j_X3_bend_9 x5 z40 x41 g42 k43 x46
    else
      j_X3_bend_11 z3 x5 z40 x41 g42 k43 x46
  else
    if (g42 1 (x41 : Int32).toNatClampNeg) < z3 then
      j_X3_bend_9 x5 z40 x41 g42 k43 x46
    else
      j_X3_bend_11 z3 x5 z40 x41 g42 k43 x46
noncomputable def s_X3_bend_56q (p1 : Int32) (z2 : Int32) (z3 : Int32) (x5 : Int32) (z40 : Int32) (x41 : Int32) (g42 : Sg) (k43 : Int32 → Sg → Option (Sg)) : Option (Sg) :=
  if (g42 0 0) ≤ x41 then
    j_X3_bend_2 z2 z3 g42
  else
    chk x41 16 <|
    if z2 = 0 then
      chk x41 16 <|
      (f_X3_heightAt g42 (((2 * z3) - 1) - (g42 1 (x41 : Int32).toNatClampNeg)) (g42 2 (x41 : Int32).toNatClampNeg)).bind fun z70 =>
      j_X3_bend_8 p1 z3 x5 z40 x41 g42 k43 z70
    else
      chk x41 16 <|
      (f_X3_heightAt g42 (g42 1 (x41 : Int32).toNatClampNeg) (((2 * z3) - 1) - (g42 1 (x41 : Int32).toNatClampNeg))).bind fun z68 =>
      j_X3_bend_8 p1 z3 x5 z40 x41 g42 k43 z68
noncomputable def j_X3_bend_1 (p1 : Int32) (z1 : Sg) (z2 : Int32) (z3 : Int32) (x5 : Int32) : Option (Sg) :=
  if z2 = 0 then
    (f_X3_shiftOf z1 p1).bind fun z40 =>
    lc2 (s_X3_bend_56q p1 z2 z3 x5 z40) 1000 0 z1
  else
    (f_X3_shiftOf z1 p1).bind fun z9 =>
    lc2 (s_X3_bend_56 p1 z2 z3 x5 z9) 1000 0 z1
noncomputable def f_X3_bend (σ : Sg) (p1 : Int32) : Option (Sg) :=
  (f_X3_countHeights σ).bind fun z1 =>
  (f_X3_axisOf p1).bind fun z2 =>
  (f_X3_lineOf p1).bind fun z3 =>
  (f_X3_overOf p1).bind fun z4 =>
  if z4 = 1 then
    j_X3_bend_1 p1 z1 z2 z3 1
  else
    j_X3_bend_1 p1 z1 z2 z3 0
noncomputable def j_X3_canBend_1 (p1 : Int32) (x2 : Int32) : Option (Int32) :=
  if p1 < 0 then
    some 0
  else
    (f_X3_lineOf p1).bind fun z4 =>
    if x2 ≤ z4 then
      some 0
    else
      some 1
noncomputable def f_X3_canBend (σ : Sg) (p1 : Int32) : Option (Int32) :=
  (f_X3_axisOf p1).bind fun z1 =>
  if z1 = 0 then
    j_X3_canBend_1 p1 (σ 0 1)
  else
    j_X3_canBend_1 p1 (σ 0 2)
noncomputable def f_X3_copyFrom (σ : Sg) (τ : Sg) : Option (Sg) :=
  ccp 0 0 ((sg_st (sg_st (sg_st σ 0 0 (τ 0 0)) 0 1 (τ 0 1)) 0 2 (τ 0 2)) 0 0) 16 16 <|
  ccp 0 0 ((sg_ar (sg_st (sg_st (sg_st σ 0 0 (τ 0 0)) 0 1 (τ 0 1)) 0 2 (τ 0 2)) 1 (va_cpy (τ 1) ((sg_st (sg_st (sg_st σ 0 0 (τ 0 0)) 0 1 (τ 0 1)) 0 2 (τ 0 2)) 1) (0 : Int32).toNatClampNeg (0 : Int32).toNatClampNeg (((sg_st (sg_st (sg_st σ 0 0 (τ 0 0)) 0 1 (τ 0 1)) 0 2 (τ 0 2)) 0 0) : Int32).toNatClampNeg)) 0 0) 16 16 <|
  ccp 0 0 ((sg_ar (sg_ar (sg_st (sg_st (sg_st σ 0 0 (τ 0 0)) 0 1 (τ 0 1)) 0 2 (τ 0 2)) 1 (va_cpy (τ 1) ((sg_st (sg_st (sg_st σ 0 0 (τ 0 0)) 0 1 (τ 0 1)) 0 2 (τ 0 2)) 1) (0 : Int32).toNatClampNeg (0 : Int32).toNatClampNeg (((sg_st (sg_st (sg_st σ 0 0 (τ 0 0)) 0 1 (τ 0 1)) 0 2 (τ 0 2)) 0 0) : Int32).toNatClampNeg)) 2 (va_cpy (τ 2) ((sg_ar (sg_st (sg_st (sg_st σ 0 0 (τ 0 0)) 0 1 (τ 0 1)) 0 2 (τ 0 2)) 1 (va_cpy (τ 1) ((sg_st (sg_st (sg_st σ 0 0 (τ 0 0)) 0 1 (τ 0 1)) 0 2 (τ 0 2)) 1) (0 : Int32).toNatClampNeg (0 : Int32).toNatClampNeg (((sg_st (sg_st (sg_st σ 0 0 (τ 0 0)) 0 1 (τ 0 1)) 0 2 (τ 0 2)) 0 0) : Int32).toNatClampNeg)) 2) (0 : Int32).toNatClampNeg (0 : Int32).toNatClampNeg (((sg_ar (sg_st (sg_st (sg_st σ 0 0 (τ 0 0)) 0 1 (τ 0 1)) 0 2 (τ 0 2)) 1 (va_cpy (τ 1) ((sg_st (sg_st (sg_st σ 0 0 (τ 0 0)) 0 1 (τ 0 1)) 0 2 (τ 0 2)) 1) (0 : Int32).toNatClampNeg (0 : Int32).toNatClampNeg (((sg_st (sg_st (sg_st σ 0 0 (τ 0 0)) 0 1 (τ 0 1)) 0 2 (τ 0 2)) 0 0) : Int32).toNatClampNeg)) 0 0) : Int32).toNatClampNeg)) 0 0) 16 16 <|
  ccp 0 0 ((sg_ar (sg_ar (sg_ar (sg_st (sg_st (sg_st σ 0 0 (τ 0 0)) 0 1 (τ 0 1)) 0 2 (τ 0 2)) 1 (va_cpy (τ 1) ((sg_st (sg_st (sg_st σ 0 0 (τ 0 0)) 0 1 (τ 0 1)) 0 2 (τ 0 2)) 1) (0 : Int32).toNatClampNeg (0 : Int32).toNatClampNeg (((sg_st (sg_st (sg_st σ 0 0 (τ 0 0)) 0 1 (τ 0 1)) 0 2 (τ 0 2)) 0 0) : Int32).toNatClampNeg)) 2 (va_cpy (τ 2) ((sg_ar (sg_st (sg_st (sg_st σ 0 0 (τ 0 0)) 0 1 (τ 0 1)) 0 2 (τ 0 2)) 1 (va_cpy (τ 1) ((sg_st (sg_st (sg_st σ 0 0 (τ 0 0)) 0 1 (τ 0 1)) 0 2 (τ 0 2)) 1) (0 : Int32).toNatClampNeg (0 : Int32).toNatClampNeg (((sg_st (sg_st (sg_st σ 0 0 (τ 0 0)) 0 1 (τ 0 1)) 0 2 (τ 0 2)) 0 0) : Int32).toNatClampNeg)) 2) (0 : Int32).toNatClampNeg (0 : Int32).toNatClampNeg (((sg_ar (sg_st (sg_st (sg_st σ 0 0 (τ 0 0)) 0 1 (τ 0 1)) 0 2 (τ 0 2)) 1 (va_cpy (τ 1) ((sg_st (sg_st (sg_st σ 0 0 (τ 0 0)) 0 1 (τ 0 1)) 0 2 (τ 0 2)) 1) (0 : Int32).toNatClampNeg (0 : Int32).toNatClampNeg (((sg_st (sg_st (sg_st σ 0 0 (τ 0 0)) 0 1 (τ 0 1)) 0 2 (τ 0 2)) 0 0) : Int32).toNatClampNeg)) 0 0) : Int32).toNatClampNeg)) 3 (va_cpy (τ 3) ((sg_ar (sg_ar (sg_st (sg_st (sg_st σ 0 0 (τ 0 0)) 0 1 (τ 0 1)) 0 2 (τ 0 2)) 1 (va_cpy (τ 1) ((sg_st (sg_st (sg_st σ 0 0 (τ 0 0)) 0 1 (τ 0 1)) 0 2 (τ 0 2)) 1) (0 : Int32).toNatClampNeg (0 : Int32).toNatClampNeg (((sg_st (sg_st (sg_st σ 0 0 (τ 0 0)) 0 1 (τ 0 1)) 0 2 (τ 0 2)) 0 0) : Int32).toNatClampNeg)) 2 (va_cpy (τ 2) ((sg_ar (sg_st (sg_st (sg_st σ 0 0 (τ 0 0)) 0 1 (τ 0 1)) 0 2 (τ 0 2)) 1 (va_cpy (τ 1) ((sg_st (sg_st (sg_st σ 0 0 (τ 0 0)) 0 1 (τ 0 1)) 0 2 (τ 0 2)) 1) (0 : Int32).toNatClampNeg (0 : Int32).toNatClampNeg (((sg_st (sg_st (sg_st σ 0 0 (τ 0 0)) 0 1 (τ 0 1)) 0 2 (τ 0 2)) 0 0) : Int32).toNatClampNeg)) 2) (0 : Int32).toNatClampNeg (0 : Int32).toNatClampNeg (((sg_ar (sg_st (sg_st (sg_st σ 0 0 (τ 0 0)) 0 1 (τ 0 1)) 0 2 (τ 0 2)) 1 (va_cpy (τ 1) ((sg_st (sg_st (sg_st σ 0 0 (τ 0 0)) 0 1 (τ 0 1)) 0 2 (τ 0 2)) 1) (0 : Int32).toNatClampNeg (0 : Int32).toNatClampNeg (((sg_st (sg_st (sg_st σ 0 0 (τ 0 0)) 0 1 (τ 0 1)) 0 2 (τ 0 2)) 0 0) : Int32).toNatClampNeg)) 0 0) : Int32).toNatClampNeg)) 3) (0 : Int32).toNatClampNeg (0 : Int32).toNatClampNeg (((sg_ar (sg_ar (sg_st (sg_st (sg_st σ 0 0 (τ 0 0)) 0 1 (τ 0 1)) 0 2 (τ 0 2)) 1 (va_cpy (τ 1) ((sg_st (sg_st (sg_st σ 0 0 (τ 0 0)) 0 1 (τ 0 1)) 0 2 (τ 0 2)) 1) (0 : Int32).toNatClampNeg (0 : Int32).toNatClampNeg (((sg_st (sg_st (sg_st σ 0 0 (τ 0 0)) 0 1 (τ 0 1)) 0 2 (τ 0 2)) 0 0) : Int32).toNatClampNeg)) 2 (va_cpy (τ 2) ((sg_ar (sg_st (sg_st (sg_st σ 0 0 (τ 0 0)) 0 1 (τ 0 1)) 0 2 (τ 0 2)) 1 (va_cpy (τ 1) ((sg_st (sg_st (sg_st σ 0 0 (τ 0 0)) 0 1 (τ 0 1)) 0 2 (τ 0 2)) 1) (0 : Int32).toNatClampNeg (0 : Int32).toNatClampNeg (((sg_st (sg_st (sg_st σ 0 0 (τ 0 0)) 0 1 (τ 0 1)) 0 2 (τ 0 2)) 0 0) : Int32).toNatClampNeg)) 2) (0 : Int32).toNatClampNeg (0 : Int32).toNatClampNeg (((sg_ar (sg_st (sg_st (sg_st σ 0 0 (τ 0 0)) 0 1 (τ 0 1)) 0 2 (τ 0 2)) 1 (va_cpy (τ 1) ((sg_st (sg_st (sg_st σ 0 0 (τ 0 0)) 0 1 (τ 0 1)) 0 2 (τ 0 2)) 1) (0 : Int32).toNatClampNeg (0 : Int32).toNatClampNeg (((sg_st (sg_st (sg_st σ 0 0 (τ 0 0)) 0 1 (τ 0 1)) 0 2 (τ 0 2)) 0 0) : Int32).toNatClampNeg)) 0 0) : Int32).toNatClampNeg)) 0 0) : Int32).toNatClampNeg)) 0 0) 16 16 <|
  some (sg_ar (sg_ar (sg_ar (sg_ar (sg_st (sg_st (sg_st σ 0 0 (τ 0 0)) 0 1 (τ 0 1)) 0 2 (τ 0 2)) 1 (va_cpy (τ 1) ((sg_st (sg_st (sg_st σ 0 0 (τ 0 0)) 0 1 (τ 0 1)) 0 2 (τ 0 2)) 1) (0 : Int32).toNatClampNeg (0 : Int32).toNatClampNeg (((sg_st (sg_st (sg_st σ 0 0 (τ 0 0)) 0 1 (τ 0 1)) 0 2 (τ 0 2)) 0 0) : Int32).toNatClampNeg)) 2 (va_cpy (τ 2) ((sg_ar (sg_st (sg_st (sg_st σ 0 0 (τ 0 0)) 0 1 (τ 0 1)) 0 2 (τ 0 2)) 1 (va_cpy (τ 1) ((sg_st (sg_st (sg_st σ 0 0 (τ 0 0)) 0 1 (τ 0 1)) 0 2 (τ 0 2)) 1) (0 : Int32).toNatClampNeg (0 : Int32).toNatClampNeg (((sg_st (sg_st (sg_st σ 0 0 (τ 0 0)) 0 1 (τ 0 1)) 0 2 (τ 0 2)) 0 0) : Int32).toNatClampNeg)) 2) (0 : Int32).toNatClampNeg (0 : Int32).toNatClampNeg (((sg_ar (sg_st (sg_st (sg_st σ 0 0 (τ 0 0)) 0 1 (τ 0 1)) 0 2 (τ 0 2)) 1 (va_cpy (τ 1) ((sg_st (sg_st (sg_st σ 0 0 (τ 0 0)) 0 1 (τ 0 1)) 0 2 (τ 0 2)) 1) (0 : Int32).toNatClampNeg (0 : Int32).toNatClampNeg (((sg_st (sg_st (sg_st σ 0 0 (τ 0 0)) 0 1 (τ 0 1)) 0 2 (τ 0 2)) 0 0) : Int32).toNatClampNeg)) 0 0) : Int32).toNatClampNeg)) 3 (va_cpy (τ 3) ((sg_ar (sg_ar (sg_st (sg_st (sg_st σ 0 0 (τ 0 0)) 0 1 (τ 0 1)) 0 2 (τ 0 2)) 1 (va_cpy (τ 1) ((sg_st (sg_st (sg_st σ 0 0 (τ 0 0)) 0 1 (τ 0 1)) 0 2 (τ 0 2)) 1) (0 : Int32).toNatClampNeg (0 : Int32).toNatClampNeg (((sg_st (sg_st (sg_st σ 0 0 (τ 0 0)) 0 1 (τ 0 1)) 0 2 (τ 0 2)) 0 0) : Int32).toNatClampNeg)) 2 (va_cpy (τ 2) ((sg_ar (sg_st (sg_st (sg_st σ 0 0 (τ 0 0)) 0 1 (τ 0 1)) 0 2 (τ 0 2)) 1 (va_cpy (τ 1) ((sg_st (sg_st (sg_st σ 0 0 (τ 0 0)) 0 1 (τ 0 1)) 0 2 (τ 0 2)) 1) (0 : Int32).toNatClampNeg (0 : Int32).toNatClampNeg (((sg_st (sg_st (sg_st σ 0 0 (τ 0 0)) 0 1 (τ 0 1)) 0 2 (τ 0 2)) 0 0) : Int32).toNatClampNeg)) 2) (0 : Int32).toNatClampNeg (0 : Int32).toNatClampNeg (((sg_ar (sg_st (sg_st (sg_st σ 0 0 (τ 0 0)) 0 1 (τ 0 1)) 0 2 (τ 0 2)) 1 (va_cpy (τ 1) ((sg_st (sg_st (sg_st σ 0 0 (τ 0 0)) 0 1 (τ 0 1)) 0 2 (τ 0 2)) 1) (0 : Int32).toNatClampNeg (0 : Int32).toNatClampNeg (((sg_st (sg_st (sg_st σ 0 0 (τ 0 0)) 0 1 (τ 0 1)) 0 2 (τ 0 2)) 0 0) : Int32).toNatClampNeg)) 0 0) : Int32).toNatClampNeg)) 3) (0 : Int32).toNatClampNeg (0 : Int32).toNatClampNeg (((sg_ar (sg_ar (sg_st (sg_st (sg_st σ 0 0 (τ 0 0)) 0 1 (τ 0 1)) 0 2 (τ 0 2)) 1 (va_cpy (τ 1) ((sg_st (sg_st (sg_st σ 0 0 (τ 0 0)) 0 1 (τ 0 1)) 0 2 (τ 0 2)) 1) (0 : Int32).toNatClampNeg (0 : Int32).toNatClampNeg (((sg_st (sg_st (sg_st σ 0 0 (τ 0 0)) 0 1 (τ 0 1)) 0 2 (τ 0 2)) 0 0) : Int32).toNatClampNeg)) 2 (va_cpy (τ 2) ((sg_ar (sg_st (sg_st (sg_st σ 0 0 (τ 0 0)) 0 1 (τ 0 1)) 0 2 (τ 0 2)) 1 (va_cpy (τ 1) ((sg_st (sg_st (sg_st σ 0 0 (τ 0 0)) 0 1 (τ 0 1)) 0 2 (τ 0 2)) 1) (0 : Int32).toNatClampNeg (0 : Int32).toNatClampNeg (((sg_st (sg_st (sg_st σ 0 0 (τ 0 0)) 0 1 (τ 0 1)) 0 2 (τ 0 2)) 0 0) : Int32).toNatClampNeg)) 2) (0 : Int32).toNatClampNeg (0 : Int32).toNatClampNeg (((sg_ar (sg_st (sg_st (sg_st σ 0 0 (τ 0 0)) 0 1 (τ 0 1)) 0 2 (τ 0 2)) 1 (va_cpy (τ 1) ((sg_st (sg_st (sg_st σ 0 0 (τ 0 0)) 0 1 (τ 0 1)) 0 2 (τ 0 2)) 1) (0 : Int32).toNatClampNeg (0 : Int32).toNatClampNeg (((sg_st (sg_st (sg_st σ 0 0 (τ 0 0)) 0 1 (τ 0 1)) 0 2 (τ 0 2)) 0 0) : Int32).toNatClampNeg)) 0 0) : Int32).toNatClampNeg)) 0 0) : Int32).toNatClampNeg)) 4 (va_cpy (τ 4) ((sg_ar (sg_ar (sg_ar (sg_st (sg_st (sg_st σ 0 0 (τ 0 0)) 0 1 (τ 0 1)) 0 2 (τ 0 2)) 1 (va_cpy (τ 1) ((sg_st (sg_st (sg_st σ 0 0 (τ 0 0)) 0 1 (τ 0 1)) 0 2 (τ 0 2)) 1) (0 : Int32).toNatClampNeg (0 : Int32).toNatClampNeg (((sg_st (sg_st (sg_st σ 0 0 (τ 0 0)) 0 1 (τ 0 1)) 0 2 (τ 0 2)) 0 0) : Int32).toNatClampNeg)) 2 (va_cpy (τ 2) ((sg_ar (sg_st (sg_st (sg_st σ 0 0 (τ 0 0)) 0 1 (τ 0 1)) 0 2 (τ 0 2)) 1 (va_cpy (τ 1) ((sg_st (sg_st (sg_st σ 0 0 (τ 0 0)) 0 1 (τ 0 1)) 0 2 (τ 0 2)) 1) (0 : Int32).toNatClampNeg (0 : Int32).toNatClampNeg (((sg_st (sg_st (sg_st σ 0 0 (τ 0 0)) 0 1 (τ 0 1)) 0 2 (τ 0 2)) 0 0) : Int32).toNatClampNeg)) 2) (0 : Int32).toNatClampNeg (0 : Int32).toNatClampNeg (((sg_ar (sg_st (sg_st (sg_st σ 0 0 (τ 0 0)) 0 1 (τ 0 1)) 0 2 (τ 0 2)) 1 (va_cpy (τ 1) ((sg_st (sg_st (sg_st σ 0 0 (τ 0 0)) 0 1 (τ 0 1)) 0 2 (τ 0 2)) 1) (0 : Int32).toNatClampNeg (0 : Int32).toNatClampNeg (((sg_st (sg_st (sg_st σ 0 0 (τ 0 0)) 0 1 (τ 0 1)) 0 2 (τ 0 2)) 0 0) : Int32).toNatClampNeg)) 0 0) : Int32).toNatClampNeg)) 3 (va_cpy (τ 3) ((sg_ar (sg_ar (sg_st (sg_st (sg_st σ 0 0 (τ 0 0)) 0 1 (τ 0 1)) 0 2 (τ 0 2)) 1 (va_cpy (τ 1) ((sg_st (sg_st (sg_st σ 0 0 (τ 0 0)) 0 1 (τ 0 1)) 0 2 (τ 0 2)) 1) (0 : Int32).toNatClampNeg (0 : Int32).toNatClampNeg (((sg_st (sg_st (sg_st σ 0 0 (τ 0 0)) 0 1 (τ 0 1)) 0 2 (τ 0 2)) 0 0) : Int32).toNatClampNeg)) 2 (va_cpy (τ 2) ((sg_ar (sg_st (sg_st (sg_st σ 0 0 (τ 0 0)) 0 1 (τ 0 1)) 0 2 (τ 0 2)) 1 (va_cpy (τ 1) ((sg_st (sg_st (sg_st σ 0 0 (τ 0 0)) 0 1 (τ 0 1)) 0 2 (τ 0 2)) 1) (0 : Int32).toNatClampNeg (0 : Int32).toNatClampNeg (((sg_st (sg_st (sg_st σ 0 0 (τ 0 0)) 0 1 (τ 0 1)) 0 2 (τ 0 2)) 0 0) : Int32).toNatClampNeg)) 2) (0 : Int32).toNatClampNeg (0 : Int32).toNatClampNeg (((sg_ar (sg_st (sg_st (sg_st σ 0 0 (τ 0 0)) 0 1 (τ 0 1)) 0 2 (τ 0 2)) 1 (va_cpy (τ 1) ((sg_st (sg_st (sg_st σ 0 0 (τ 0 0)) 0 1 (τ 0 1)) 0 2 (τ 0 2)) 1) (0 : Int32).toNatClampNeg (0 : Int32).toNatClampNeg (((sg_st (sg_st (sg_st σ 0 0 (τ 0 0)) 0 1 (τ 0 1)) 0 2 (τ 0 2)) 0 0) : Int32).toNatClampNeg)) 0 0) : Int32).toNatClampNeg)) 3) (0 : Int32).toNatClampNeg (0 : Int32).toNatClampNeg (((sg_ar (sg_ar (sg_st (sg_st (sg_st σ 0 0 (τ 0 0)) 0 1 (τ 0 1)) 0 2 (τ 0 2)) 1 (va_cpy (τ 1) ((sg_st (sg_st (sg_st σ 0 0 (τ 0 0)) 0 1 (τ 0 1)) 0 2 (τ 0 2)) 1) (0 : Int32).toNatClampNeg (0 : Int32).toNatClampNeg (((sg_st (sg_st (sg_st σ 0 0 (τ 0 0)) 0 1 (τ 0 1)) 0 2 (τ 0 2)) 0 0) : Int32).toNatClampNeg)) 2 (va_cpy (τ 2) ((sg_ar (sg_st (sg_st (sg_st σ 0 0 (τ 0 0)) 0 1 (τ 0 1)) 0 2 (τ 0 2)) 1 (va_cpy (τ 1) ((sg_st (sg_st (sg_st σ 0 0 (τ 0 0)) 0 1 (τ 0 1)) 0 2 (τ 0 2)) 1) (0 : Int32).toNatClampNeg (0 : Int32).toNatClampNeg (((sg_st (sg_st (sg_st σ 0 0 (τ 0 0)) 0 1 (τ 0 1)) 0 2 (τ 0 2)) 0 0) : Int32).toNatClampNeg)) 2) (0 : Int32).toNatClampNeg (0 : Int32).toNatClampNeg (((sg_ar (sg_st (sg_st (sg_st σ 0 0 (τ 0 0)) 0 1 (τ 0 1)) 0 2 (τ 0 2)) 1 (va_cpy (τ 1) ((sg_st (sg_st (sg_st σ 0 0 (τ 0 0)) 0 1 (τ 0 1)) 0 2 (τ 0 2)) 1) (0 : Int32).toNatClampNeg (0 : Int32).toNatClampNeg (((sg_st (sg_st (sg_st σ 0 0 (τ 0 0)) 0 1 (τ 0 1)) 0 2 (τ 0 2)) 0 0) : Int32).toNatClampNeg)) 0 0) : Int32).toNatClampNeg)) 0 0) : Int32).toNatClampNeg)) 4) (0 : Int32).toNatClampNeg (0 : Int32).toNatClampNeg (((sg_ar (sg_ar (sg_ar (sg_st (sg_st (sg_st σ 0 0 (τ 0 0)) 0 1 (τ 0 1)) 0 2 (τ 0 2)) 1 (va_cpy (τ 1) ((sg_st (sg_st (sg_st σ 0 0 (τ 0 0)) 0 1 (τ 0 1)) 0 2 (τ 0 2)) 1) (0 : Int32).toNatClampNeg (0 : Int32).toNatClampNeg (((sg_st (sg_st (sg_st σ 0 0 (τ 0 0)) 0 1 (τ 0 1)) 0 2 (τ 0 2)) 0 0) : Int32).toNatClampNeg)) 2 (va_cpy (τ 2) ((sg_ar (sg_st (sg_st (sg_st σ 0 0 (τ 0 0)) 0 1 (τ 0 1)) 0 2 (τ 0 2)) 1 (va_cpy (τ 1) ((sg_st (sg_st (sg_st σ 0 0 (τ 0 0)) 0 1 (τ 0 1)) 0 2 (τ 0 2)) 1) (0 : Int32).toNatClampNeg (0 : Int32).toNatClampNeg (((sg_st (sg_st (sg_st σ 0 0 (τ 0 0)) 0 1 (τ 0 1)) 0 2 (τ 0 2)) 0 0) : Int32).toNatClampNeg)) 2) (0 : Int32).toNatClampNeg (0 : Int32).toNatClampNeg (((sg_ar (sg_st (sg_st (sg_st σ 0 0 (τ 0 0)) 0 1 (τ 0 1)) 0 2 (τ 0 2)) 1 (va_cpy (τ 1) ((sg_st (sg_st (sg_st σ 0 0 (τ 0 0)) 0 1 (τ 0 1)) 0 2 (τ 0 2)) 1) (0 : Int32).toNatClampNeg (0 : Int32).toNatClampNeg (((sg_st (sg_st (sg_st σ 0 0 (τ 0 0)) 0 1 (τ 0 1)) 0 2 (τ 0 2)) 0 0) : Int32).toNatClampNeg)) 0 0) : Int32).toNatClampNeg)) 3 (va_cpy (τ 3) ((sg_ar (sg_ar (sg_st (sg_st (sg_st σ 0 0 (τ 0 0)) 0 1 (τ 0 1)) 0 2 (τ 0 2)) 1 (va_cpy (τ 1) ((sg_st (sg_st (sg_st σ 0 0 (τ 0 0)) 0 1 (τ 0 1)) 0 2 (τ 0 2)) 1) (0 : Int32).toNatClampNeg (0 : Int32).toNatClampNeg (((sg_st (sg_st (sg_st σ 0 0 (τ 0 0)) 0 1 (τ 0 1)) 0 2 (τ 0 2)) 0 0) : Int32).toNatClampNeg)) 2 (va_cpy (τ 2) ((sg_ar (sg_st (sg_st (sg_st σ 0 0 (τ 0 0)) 0 1 (τ 0 1)) 0 2 (τ 0 2)) 1 (va_cpy (τ 1) ((sg_st (sg_st (sg_st σ 0 0 (τ 0 0)) 0 1 (τ 0 1)) 0 2 (τ 0 2)) 1) (0 : Int32).toNatClampNeg (0 : Int32).toNatClampNeg (((sg_st (sg_st (sg_st σ 0 0 (τ 0 0)) 0 1 (τ 0 1)) 0 2 (τ 0 2)) 0 0) : Int32).toNatClampNeg)) 2) (0 : Int32).toNatClampNeg (0 : Int32).toNatClampNeg (((sg_ar (sg_st (sg_st (sg_st σ 0 0 (τ 0 0)) 0 1 (τ 0 1)) 0 2 (τ 0 2)) 1 (va_cpy (τ 1) ((sg_st (sg_st (sg_st σ 0 0 (τ 0 0)) 0 1 (τ 0 1)) 0 2 (τ 0 2)) 1) (0 : Int32).toNatClampNeg (0 : Int32).toNatClampNeg (((sg_st (sg_st (sg_st σ 0 0 (τ 0 0)) 0 1 (τ 0 1)) 0 2 (τ 0 2)) 0 0) : Int32).toNatClampNeg)) 0 0) : Int32).toNatClampNeg)) 3) (0 : Int32).toNatClampNeg (0 : Int32).toNatClampNeg (((sg_ar (sg_ar (sg_st (sg_st (sg_st σ 0 0 (τ 0 0)) 0 1 (τ 0 1)) 0 2 (τ 0 2)) 1 (va_cpy (τ 1) ((sg_st (sg_st (sg_st σ 0 0 (τ 0 0)) 0 1 (τ 0 1)) 0 2 (τ 0 2)) 1) (0 : Int32).toNatClampNeg (0 : Int32).toNatClampNeg (((sg_st (sg_st (sg_st σ 0 0 (τ 0 0)) 0 1 (τ 0 1)) 0 2 (τ 0 2)) 0 0) : Int32).toNatClampNeg)) 2 (va_cpy (τ 2) ((sg_ar (sg_st (sg_st (sg_st σ 0 0 (τ 0 0)) 0 1 (τ 0 1)) 0 2 (τ 0 2)) 1 (va_cpy (τ 1) ((sg_st (sg_st (sg_st σ 0 0 (τ 0 0)) 0 1 (τ 0 1)) 0 2 (τ 0 2)) 1) (0 : Int32).toNatClampNeg (0 : Int32).toNatClampNeg (((sg_st (sg_st (sg_st σ 0 0 (τ 0 0)) 0 1 (τ 0 1)) 0 2 (τ 0 2)) 0 0) : Int32).toNatClampNeg)) 2) (0 : Int32).toNatClampNeg (0 : Int32).toNatClampNeg (((sg_ar (sg_st (sg_st (sg_st σ 0 0 (τ 0 0)) 0 1 (τ 0 1)) 0 2 (τ 0 2)) 1 (va_cpy (τ 1) ((sg_st (sg_st (sg_st σ 0 0 (τ 0 0)) 0 1 (τ 0 1)) 0 2 (τ 0 2)) 1) (0 : Int32).toNatClampNeg (0 : Int32).toNatClampNeg (((sg_st (sg_st (sg_st σ 0 0 (τ 0 0)) 0 1 (τ 0 1)) 0 2 (τ 0 2)) 0 0) : Int32).toNatClampNeg)) 0 0) : Int32).toNatClampNeg)) 0 0) : Int32).toNatClampNeg)) 0 0) : Int32).toNatClampNeg))
noncomputable def s_X3_countFought_4 (σ : Sg) (τ : Sg) (x1 : Int32) (x2 : Int32) (k3 : Int32 → Int32 → Option (Int32)) : Option (Int32) :=
  if (τ 0 0) ≤ x2 then
    some x1
  else
    chk x2 6 <|
    chk x2 6 <|
    (f_X3_touching σ (τ 1 (x2 : Int32).toNatClampNeg) (τ 2 (x2 : Int32).toNatClampNeg)).bind fun z7 =>
    if z7 = 1 then
      k3 (x1 + 1) (x2 + 1)
    else
      k3 x1 (x2 + 1)
noncomputable def f_X3_countFought (σ : Sg) (τ : Sg) : Option (Int32) :=
  lc2 (s_X3_countFought_4 σ τ) 1000 0 0
noncomputable def s_X3_countFrontPairs_16 (σ : Sg) (x2 : Int32) (k3 : Int32 → Int32 → Option (Int32)) (x5 : Int32) (x6 : Int32) (k7 : Int32 → Int32 → Option (Int32)) : Option (Int32) :=
  if (σ 0 0) ≤ x6 then
    k3 x5 (x2 + 1)
  else
    (f_X3_touching σ x2 x6).bind fun z9 =>
    if z9 = 1 then
      k7 (x5 + 1) (x6 + 1)
    else
      k7 x5 (x6 + 1)
noncomputable def s_X3_countFrontPairs_4 (σ : Sg) (x1 : Int32) (x2 : Int32) (k3 : Int32 → Int32 → Option (Int32)) : Option (Int32) :=
  if (σ 0 0) ≤ x2 then
    some x1
  else
    lc2 (s_X3_countFrontPairs_16 σ x2 k3) 1000 x1 (x2 + 1)
noncomputable def f_X3_countFrontPairs (σ : Sg) : Option (Int32) :=
  lc2 (s_X3_countFrontPairs_4 σ) 1000 0 0
noncomputable def s_X3_gainOf_5 (σ : Sg) (τ : Sg) (p1 : Int32) (x1 : Int32) (x2 : Int32) (k3 : Int32 → Int32 → Option (Int32)) : Option (Int32) :=
  if (σ 0 0) ≤ x2 then
    some x1
  else
    if x2 = p1 then
      k3 x1 (x2 + 1)
    else
      (f_X3_touching σ p1 x2).bind fun z6 =>
      if z6 = 1 then
        chk x2 16 <|
        k3 (x1 + (τ 0 (x2 : Int32).toNatClampNeg)) (x2 + 1)
      else
        k3 x1 (x2 + 1)
noncomputable def f_X3_gainOf (σ : Sg) (τ : Sg) (p1 : Int32) : Option (Int32) :=
  lc2 (s_X3_gainOf_5 σ τ p1) 1000 0 0
noncomputable def s_X3_isOutermost_21 (σ : Sg) (p1 : Int32) (x2 : Int32) (k3 : Int32 → Option (Int32)) : Option (Int32) :=
  if (σ 0 0) ≤ x2 then
    some 1
  else
    chk x2 16 <|
    chk p1 16 <|
    if (σ 1 (x2 : Int32).toNatClampNeg) = (σ 1 (p1 : Int32).toNatClampNeg) then
      chk x2 16 <|
      chk p1 16 <|
      if (σ 2 (x2 : Int32).toNatClampNeg) = (σ 2 (p1 : Int32).toNatClampNeg) then
        chk x2 16 <|
        chk p1 16 <|
        if (σ 3 (x2 : Int32).toNatClampNeg) ≤ (σ 3 (p1 : Int32).toNatClampNeg) then
          k3 (x2 + 1)
        else
          some 0
      else
        k3 (x2 + 1)
    else
      k3 (x2 + 1)
noncomputable def f_X3_isOutermost (σ : Sg) (p1 : Int32) (p2 : Int32) : Option (Int32) :=
  if p2 = 0 then
    chk p1 16 <|
    if (σ 3 (p1 : Int32).toNatClampNeg) = 0 then
      some 1
    else
      some 0
  else
    lc1 (s_X3_isOutermost_21 σ p1) 1000 0
noncomputable def s_X3_layFlat_36 (x1 : Int32) (k3 : Int32 → Sg → Option (Sg)) (x5 : Int32) (g6 : Sg) (k7 : Int32 → Sg → Option (Sg)) : Option (Sg) :=
  if (g6 0 1) ≤ x5 then
    k3 (x1 + 1) g6
  else
    chk (g6 0 0) 16 <|
    chk ((sg_st g6 1 ((g6 0 0) : Int32).toNatClampNeg x5) 0 0) 16 <|
    chk ((sg_st (sg_st g6 1 ((g6 0 0) : Int32).toNatClampNeg x5) 2 (((sg_st g6 1 ((g6 0 0) : Int32).toNatClampNeg x5) 0 0) : Int32).toNatClampNeg x1) 0 0) 16 <|
    chk ((sg_st (sg_st (sg_st g6 1 ((g6 0 0) : Int32).toNatClampNeg x5) 2 (((sg_st g6 1 ((g6 0 0) : Int32).toNatClampNeg x5) 0 0) : Int32).toNatClampNeg x1) 3 (((sg_st (sg_st g6 1 ((g6 0 0) : Int32).toNatClampNeg x5) 2 (((sg_st g6 1 ((g6 0 0) : Int32).toNatClampNeg x5) 0 0) : Int32).toNatClampNeg x1) 0 0) : Int32).toNatClampNeg 0) 0 0) 16 <|
    k7 (x5 + 1) (sg_st (sg_st (sg_st (sg_st (sg_st g6 1 ((g6 0 0) : Int32).toNatClampNeg x5) 2 (((sg_st g6 1 ((g6 0 0) : Int32).toNatClampNeg x5) 0 0) : Int32).toNatClampNeg x1) 3 (((sg_st (sg_st g6 1 ((g6 0 0) : Int32).toNatClampNeg x5) 2 (((sg_st g6 1 ((g6 0 0) : Int32).toNatClampNeg x5) 0 0) : Int32).toNatClampNeg x1) 0 0) : Int32).toNatClampNeg 0) 4 (((sg_st (sg_st (sg_st g6 1 ((g6 0 0) : Int32).toNatClampNeg x5) 2 (((sg_st g6 1 ((g6 0 0) : Int32).toNatClampNeg x5) 0 0) : Int32).toNatClampNeg x1) 3 (((sg_st (sg_st g6 1 ((g6 0 0) : Int32).toNatClampNeg x5) 2 (((sg_st g6 1 ((g6 0 0) : Int32).toNatClampNeg x5) 0 0) : Int32).toNatClampNeg x1) 0 0) : Int32).toNatClampNeg 0) 0 0) : Int32).toNatClampNeg 1) 0 0 (((sg_st (sg_st (sg_st (sg_st g6 1 ((g6 0 0) : Int32).toNatClampNeg x5) 2 (((sg_st g6 1 ((g6 0 0) : Int32).toNatClampNeg x5) 0 0) : Int32).toNatClampNeg x1) 3 (((sg_st (sg_st g6 1 ((g6 0 0) : Int32).toNatClampNeg x5) 2 (((sg_st g6 1 ((g6 0 0) : Int32).toNatClampNeg x5) 0 0) : Int32).toNatClampNeg x1) 0 0) : Int32).toNatClampNeg 0) 4 (((sg_st (sg_st (sg_st g6 1 ((g6 0 0) : Int32).toNatClampNeg x5) 2 (((sg_st g6 1 ((g6 0 0) : Int32).toNatClampNeg x5) 0 0) : Int32).toNatClampNeg x1) 3 (((sg_st (sg_st g6 1 ((g6 0 0) : Int32).toNatClampNeg x5) 2 (((sg_st g6 1 ((g6 0 0) : Int32).toNatClampNeg x5) 0 0) : Int32).toNatClampNeg x1) 0 0) : Int32).toNatClampNeg 0) 0 0) : Int32).toNatClampNeg 1) 0 0) + 1))
noncomputable def s_X3_layFlat_25 (x1 : Int32) (g2 : Sg) (k3 : Int32 → Sg → Option (Sg)) : Option (Sg) :=
  if (g2 0 2) ≤ x1 then
    some g2
  else
    lc2 (s_X3_layFlat_36 x1 k3) 1000 0 g2
noncomputable def f_X3_layFlat (σ : Sg) (p1 : Int32) (p2 : Int32) : Option (Sg) :=
  lc2 (s_X3_layFlat_25) 1000 0 (sg_st (sg_st (sg_st σ 0 1 (if 4 < p1 then 4 else p1)) 0 2 (if 4 < p2 then 4 else p2)) 0 0 0)
noncomputable def j_X3_meetingFold_4 (σ : Sg) (p1 : Int32) (p2 : Int32) (x11 : Int32) (x12 : Int32) : Option (Int32) :=
  chk p1 16 <|
  if (x12 - x12 / 2 * 2) = 0 then
    some (-9)
  else
    (f_X3_isOutermost σ p1 (σ 4 (p1 : Int32).toNatClampNeg)).bind fun z15 =>
    if z15 = 0 then
      some (-9)
    else
      (f_X3_isOutermost σ p2 (σ 4 (p1 : Int32).toNatClampNeg)).bind fun z17 =>
      if z17 = 0 then
        some (-9)
      else
        some ((x11 + (4 * (σ 4 (p1 : Int32).toNatClampNeg))) + (8 * (((x12 + 1) / 2) - 1)))
noncomputable def j_X3_meetingFold_3 (σ : Sg) (p1 : Int32) (p2 : Int32) (x6 : Int32) (x11 : Int32) : Option (Int32) :=
  if x6 = 0 then
    chk p1 16 <|
    chk p2 16 <|
    j_X3_meetingFold_4 σ p1 p2 x11 ((σ 2 (p1 : Int32).toNatClampNeg) + (σ 2 (p2 : Int32).toNatClampNeg))
  else
    chk p1 16 <|
    chk p2 16 <|
    j_X3_meetingFold_4 σ p1 p2 x11 ((σ 1 (p1 : Int32).toNatClampNeg) + (σ 1 (p2 : Int32).toNatClampNeg))
noncomputable def j_X3_meetingFold_2 (σ : Sg) (p1 : Int32) (p2 : Int32) (x3 : Int32) (x6 : Int32) : Option (Int32) :=
  if x3 = x6 then
    some (-9)
  else
    chk p1 16 <|
    chk p2 16 <|
    if (σ 4 (p1 : Int32).toNatClampNeg) = (σ 4 (p2 : Int32).toNatClampNeg) then
      if x6 = 0 then
        j_X3_meetingFold_3 σ p1 p2 x6 1
      else
        j_X3_meetingFold_3 σ p1 p2 x6 0
    else
      some (-9)
noncomputable def j_X3_meetingFold_1 (σ : Sg) (p1 : Int32) (p2 : Int32) (x3 : Int32) : Option (Int32) :=
  chk p1 16 <|
  chk p2 16 <|
  if (σ 2 (p1 : Int32).toNatClampNeg) = (σ 2 (p2 : Int32).toNatClampNeg) then
    j_X3_meetingFold_2 σ p1 p2 x3 1
  else
    j_X3_meetingFold_2 σ p1 p2 x3 0
noncomputable def f_X3_meetingFold (σ : Sg) (p1 : Int32) (p2 : Int32) : Option (Int32) :=
  chk p1 16 <|
  chk p2 16 <|
  if (σ 1 (p1 : Int32).toNatClampNeg) = (σ 1 (p2 : Int32).toNatClampNeg) then
    j_X3_meetingFold_1 σ p1 p2 1
  else
    j_X3_meetingFold_1 σ p1 p2 0
noncomputable def s_X3_thickest_4 (σ : Sg) (x1 : Int32) (x2 : Int32) (k3 : Int32 → Int32 → Option (Int32)) : Option (Int32) :=
  if (σ 0 0) ≤ x2 then
    some x1
  else
    chk x2 16 <|
    k3 (if x1 < ((σ 3 (x2 : Int32).toNatClampNeg) + 1) then ((σ 3 (x2 : Int32).toNatClampNeg) + 1) else x1) (x2 + 1)
noncomputable def f_X3_thickest (σ : Sg) : Option (Int32) :=
  lc2 (s_X3_thickest_4 σ) 1000 0 0
noncomputable def f_X4_isFull (σ : Sg) : Option (Int32) :=
  if (σ 0 0) < 6 then
    some 0
  else
    some 1
noncomputable def f_X4_add (σ : Sg) (p1 : Int32) (p2 : Int32) : Option (Sg) :=
  (f_X4_isFull σ).bind fun z1 =>
  if z1 = 0 then
    chk (σ 0 0) 6 <|
    chk ((sg_st σ 1 ((σ 0 0) : Int32).toNatClampNeg p1) 0 0) 6 <|
    some (sg_st (sg_st (sg_st σ 1 ((σ 0 0) : Int32).toNatClampNeg p1) 2 (((sg_st σ 1 ((σ 0 0) : Int32).toNatClampNeg p1) 0 0) : Int32).toNatClampNeg p2) 0 0 (((sg_st (sg_st σ 1 ((σ 0 0) : Int32).toNatClampNeg p1) 2 (((sg_st σ 1 ((σ 0 0) : Int32).toNatClampNeg p1) 0 0) : Int32).toNatClampNeg p2) 0 0) + 1))
  else
    some σ
noncomputable def j_X5_layFold_2 (p1 : Int32) (p2 : Int32) (g9 : Sg) : Option (Int32 × Sg) :=
  if (p1 + 1) = 0 then
    (f_X3_bend (sg_off g9 4) (am_choice (p2 : Int32).toNatClampNeg)).bind fun z11 =>
    some (1, (sg_sp g9 4 6 z11))
  else
    if (p1 + 1) = 1 then
      (f_X3_bend (sg_off g9 10) (am_choice (p2 : Int32).toNatClampNeg)).bind fun z13 =>
      some (1, (sg_sp g9 10 6 z13))
    else
      if (p1 + 1) = 2 then
        (f_X3_bend (sg_off g9 16) (am_choice (p2 : Int32).toNatClampNeg)).bind fun z15 =>
        some (1, (sg_sp g9 16 6 z15))
      else
        none
noncomputable def j_X5_layFold_1 (σ : Sg) (p1 : Int32) (p2 : Int32) (x6 : Int32) : Option (Int32 × Sg) :=
  if x6 = 0 then
    some (0, σ)
  else
    chk p1 2 <|
    if (p1 + 1) = 0 then
      if p1 = 0 then
        none
      else
        if p1 = 1 then
          (f_X3_copyFrom (sg_off (sg_st σ 2 (p1 : Int32).toNatClampNeg (am_choice (p2 : Int32).toNatClampNeg)) 4) (sg_off (sg_st σ 2 (p1 : Int32).toNatClampNeg (am_choice (p2 : Int32).toNatClampNeg)) 10)).bind fun z20 =>
          j_X5_layFold_2 p1 p2 (sg_sp (sg_st σ 2 (p1 : Int32).toNatClampNeg (am_choice (p2 : Int32).toNatClampNeg)) 4 6 z20)
        else
          if p1 = 2 then
            (f_X3_copyFrom (sg_off (sg_st σ 2 (p1 : Int32).toNatClampNeg (am_choice (p2 : Int32).toNatClampNeg)) 4) (sg_off (sg_st σ 2 (p1 : Int32).toNatClampNeg (am_choice (p2 : Int32).toNatClampNeg)) 16)).bind fun z22 =>
            j_X5_layFold_2 p1 p2 (sg_sp (sg_st σ 2 (p1 : Int32).toNatClampNeg (am_choice (p2 : Int32).toNatClampNeg)) 4 6 z22)
          else
            none
    else
      if (p1 + 1) = 1 then
        if p1 = 0 then
          (f_X3_copyFrom (sg_off (sg_st σ 2 (p1 : Int32).toNatClampNeg (am_choice (p2 : Int32).toNatClampNeg)) 10) (sg_off (sg_st σ 2 (p1 : Int32).toNatClampNeg (am_choice (p2 : Int32).toNatClampNeg)) 4)).bind fun z25 =>
          j_X5_layFold_2 p1 p2 (sg_sp (sg_st σ 2 (p1 : Int32).toNatClampNeg (am_choice (p2 : Int32).toNatClampNeg)) 10 6 z25)
        else
          if p1 = 1 then
            none
          else
            if p1 = 2 then
              (f_X3_copyFrom (sg_off (sg_st σ 2 (p1 : Int32).toNatClampNeg (am_choice (p2 : Int32).toNatClampNeg)) 10) (sg_off (sg_st σ 2 (p1 : Int32).toNatClampNeg (am_choice (p2 : Int32).toNatClampNeg)) 16)).bind fun z29 =>
              j_X5_layFold_2 p1 p2 (sg_sp (sg_st σ 2 (p1 : Int32).toNatClampNeg (am_choice (p2 : Int32).toNatClampNeg)) 10 6 z29)
            else
              none
      else
        if (p1 + 1) = 2 then
          if p1 = 0 then
            (f_X3_copyFrom (sg_off (sg_st σ 2 (p1 : Int32).toNatClampNeg (am_choice (p2 : Int32).toNatClampNeg)) 16) (sg_off (sg_st σ 2 (p1 : Int32).toNatClampNeg (am_choice (p2 : Int32).toNatClampNeg)) 4)).bind fun z32 =>
            j_X5_layFold_2 p1 p2 (sg_sp (sg_st σ 2 (p1 : Int32).toNatClampNeg (am_choice (p2 : Int32).toNatClampNeg)) 16 6 z32)
          else
            if p1 = 1 then
              (f_X3_copyFrom (sg_off (sg_st σ 2 (p1 : Int32).toNatClampNeg (am_choice (p2 : Int32).toNatClampNeg)) 16) (sg_off (sg_st σ 2 (p1 : Int32).toNatClampNeg (am_choice (p2 : Int32).toNatClampNeg)) 10)).bind fun z34 =>
              j_X5_layFold_2 p1 p2 (sg_sp (sg_st σ 2 (p1 : Int32).toNatClampNeg (am_choice (p2 : Int32).toNatClampNeg)) 16 6 z34)
            else
              if p1 = 2 then
                none
              else
                none
        else
          none
noncomputable def f_X5_layFold (σ : Sg) (p1 : Int32) (p2 : Int32) : Option (Int32 × Sg) :=
  if p1 < 0 then
    some (0, σ)
  else
    if 2 ≤ p1 then
      some (0, σ)
    else
      if p2 < 0 then
        some (0, σ)
      else
        if p2 < 12 then
          chk p2 12 <|
          if p1 = 0 then
            (f_X3_canBend (sg_off σ 4) (am_choice (p2 : Int32).toNatClampNeg)).bind fun z38 =>
            j_X5_layFold_1 σ p1 p2 z38
          else
            if p1 = 1 then
              (f_X3_canBend (sg_off σ 10) (am_choice (p2 : Int32).toNatClampNeg)).bind fun z40 =>
              j_X5_layFold_1 σ p1 p2 z40
            else
              if p1 = 2 then
                (f_X3_canBend (sg_off σ 16) (am_choice (p2 : Int32).toNatClampNeg)).bind fun z42 =>
                j_X5_layFold_1 σ p1 p2 z42
              else
                none
        else
          some (0, σ)
noncomputable def j_X5_lay_1 (p2 : Int32) (g3 : Sg) : Option (Int32 × Sg) :=
  if (g3 0 4) = 0 then
    some (0, g3)
  else
    (f_X5_layFold g3 1 (p2 - p2 / 12 * 12)).bind fun z5 =>
    if z5.1 = 0 then
      some (0, z5.2)
    else
      some (1, z5.2)
noncomputable def f_X5_lay (σ : Sg) (p1 : Int32) (p2 : Int32) : Option (Int32 × Sg) :=
  if p1 = 0 then
    some (1, σ)
  else
    if p1 = 1 then
      (f_X5_layFold σ 0 p2).bind fun z10 =>
      cbl z10.1 <|
      some (z10.1, z10.2)
    else
      if (p2 - p2 / 12 * 12) = 0 then
        (f_X5_layFold σ 0 (p2 / 12)).bind fun z8 =>
        cbl z8.1 <|
        j_X5_lay_1 p2 (sg_st z8.2 0 4 z8.1)
      else
        j_X5_lay_1 p2 σ
noncomputable def j_X5_countFitting_1 (p1 : Int32) (x3 : Int32) (g4 : Sg) : Option (Int32 × Sg) :=
  some ((x3 <<< (p1 &&& 31)), g4)
noncomputable def j_X5_countFitting_2 (x5 : Int32) (x6 : Int32) (k8 : Int32 → Int32 → Sg → Option (Int32 × Sg)) (z12 : Int32 × Sg) (x14 : Int32) : Option (Int32 × Sg) :=
  if x14 = 0 then
    k8 x5 (x6 + 1) z12.2
  else
    k8 (x5 + 1) (x6 + 1) z12.2
noncomputable def s_X5_countFitting_16 (τ : Sg) (p1 : Int32) (e9 : Int32 → Sg → Option (Int32 × Sg)) (x5 : Int32) (x6 : Int32) (g7 : Sg) (k8 : Int32 → Int32 → Sg → Option (Int32 × Sg)) : Option (Int32 × Sg) :=
  chk p1 3 <|
  if (am_plans (p1 : Int32).toNatClampNeg) ≤ x6 then
    e9 x5 g7
  else
    (f_X5_lay g7 p1 x6).bind fun z12 =>
    if z12.1 = 0 then
      k8 x5 (x6 + 1) z12.2
    else
      if p1 = 0 then
        (f_X3_allTouch (sg_off z12.2 4) τ).bind fun z17 =>
        j_X5_countFitting_2 x5 x6 k8 z12 z17
      else
        if p1 = 1 then
          (f_X3_allTouch (sg_off z12.2 10) τ).bind fun z19 =>
          j_X5_countFitting_2 x5 x6 k8 z12 z19
        else
          if p1 = 2 then
            (f_X3_allTouch (sg_off z12.2 16) τ).bind fun z21 =>
            j_X5_countFitting_2 x5 x6 k8 z12 z21
          else
            none
noncomputable def f_X5_countFitting (σ : Sg) (τ : Sg) (p1 : Int32) : Option (Int32 × Sg) :=
  if p1 < 0 then
    some (0, σ)
  else
    if p1 ≤ 2 then
      lc3 (s_X5_countFitting_16 τ p1 (j_X5_countFitting_1 p1)) 1000 0 0 σ
    else
      some (0, σ)
noncomputable def f_X5_noteFound (σ : Sg) (p1 : Int32) : Option (Sg) :=
  ccp 0 0 p1 2 3 <|
  some (sg_st (sg_ar σ 1 (va_cpy (σ 2) (σ 1) (0 : Int32).toNatClampNeg (0 : Int32).toNatClampNeg (p1 : Int32).toNatClampNeg)) 0 0 p1)
noncomputable def j_X5_findBestGain_1 (x3 : Int32) (x7 : Int32) (x8 : Int32) (k10 : Int32 → Int32 → Sg → Option (Int32 × Sg)) (z13 : Int32 × Sg) (x14 : Int32) : Option (Int32 × Sg) :=
  if x14 ≤ x7 then
    k10 x7 (x8 + 1) z13.2
  else
    (f_X5_noteFound z13.2 x3).bind fun z16 =>
    k10 x14 (x8 + 1) z16
noncomputable def s_X5_findBestGain_24 (τ : Sg) (p1 : Int32) (x3 : Int32) (k5 : Int32 → Int32 → Sg → Option (Int32 × Sg)) (x7 : Int32) (x8 : Int32) (g9 : Sg) (k10 : Int32 → Int32 → Sg → Option (Int32 × Sg)) : Option (Int32 × Sg) :=
  chk x3 3 <|
  if (am_plans (x3 : Int32).toNatClampNeg) ≤ x8 then
    k5 x7 (x3 + 1) g9
  else
    (f_X5_lay g9 x3 x8).bind fun z13 =>
    if z13.1 = 0 then
      j_X5_findBestGain_1 x3 x7 x8 k10 z13 0
    else
      if x3 = 0 then
        (f_X3_gainOf (sg_off z13.2 4) τ p1).bind fun z19 =>
        j_X5_findBestGain_1 x3 x7 x8 k10 z13 z19
      else
        if x3 = 1 then
          (f_X3_gainOf (sg_off z13.2 10) τ p1).bind fun z21 =>
          j_X5_findBestGain_1 x3 x7 x8 k10 z13 z21
        else
          if x3 = 2 then
            (f_X3_gainOf (sg_off z13.2 16) τ p1).bind fun z23 =>
            j_X5_findBestGain_1 x3 x7 x8 k10 z13 z23
          else
            none
noncomputable def s_X5_findBestGain_15 (τ : Sg) (p1 : Int32) (x2 : Int32) (x3 : Int32) (g4 : Sg) (k5 : Int32 → Int32 → Sg → Option (Int32 × Sg)) : Option (Int32 × Sg) :=
  if 2 < x3 then
    some (x2, g4)
  else
    lc3 (s_X5_findBestGain_24 τ p1 x3 k5) 1000 x2 0 g4
noncomputable def f_X5_findBestGain (σ : Sg) (τ : Sg) (p1 : Int32) : Option (Int32 × Sg) :=
  (f_X3_gainOf (sg_off σ 4) τ p1).bind fun z1 =>
  lc3 (s_X5_findBestGain_15 τ p1) 1000 z1 1 σ
noncomputable def j_X5_findMeeting_1 (x3 : Int32) (x4 : Int32) (g5 : Sg) : Option (Int32 × Sg) :=
  (f_X5_noteFound g5 x3).bind fun z6 =>
  chk x3 3 <|
  some (1, (sg_st (sg_st z6 1 (x3 : Int32).toNatClampNeg x4) 0 0 (x3 + 1)))
noncomputable def j_X5_findMeeting_2 (x8 : Int32) (e11 : Int32 → Int32 → Sg → Option (Int32 × Sg)) (x13 : Int32) (k15 : Int32 → Sg → Option (Int32 × Sg)) (z18 : Int32 × Sg) (x19 : Int32) : Option (Int32 × Sg) :=
  if x19 = (-9) then
    k15 (x13 + 1) z18.2
  else
    e11 x8 x19 z18.2
noncomputable def s_X5_findMeeting_27 (p1 : Int32) (p2 : Int32) (x8 : Int32) (k10 : Int32 → Sg → Option (Int32 × Sg)) (e11 : Int32 → Int32 → Sg → Option (Int32 × Sg)) (x13 : Int32) (g14 : Sg) (k15 : Int32 → Sg → Option (Int32 × Sg)) : Option (Int32 × Sg) :=
  chk x8 3 <|
  if (am_plans (x8 : Int32).toNatClampNeg) ≤ x13 then
    k10 (x8 + 1) g14
  else
    (f_X5_lay g14 x8 x13).bind fun z18 =>
    if z18.1 = 0 then
      j_X5_findMeeting_2 x8 e11 x13 k15 z18 (-9)
    else
      if x8 = 0 then
        (f_X3_meetingFold (sg_off z18.2 4) p1 p2).bind fun z23 =>
        j_X5_findMeeting_2 x8 e11 x13 k15 z18 z23
      else
        if x8 = 1 then
          (f_X3_meetingFold (sg_off z18.2 10) p1 p2).bind fun z25 =>
          j_X5_findMeeting_2 x8 e11 x13 k15 z18 z25
        else
          if x8 = 2 then
            (f_X3_meetingFold (sg_off z18.2 16) p1 p2).bind fun z27 =>
            j_X5_findMeeting_2 x8 e11 x13 k15 z18 z27
          else
            none
noncomputable def s_X5_findMeeting_19 (p1 : Int32) (p2 : Int32) (e11 : Int32 → Int32 → Sg → Option (Int32 × Sg)) (x8 : Int32) (g9 : Sg) (k10 : Int32 → Sg → Option (Int32 × Sg)) : Option (Int32 × Sg) :=
  if 2 < x8 then
    some (0, g9)
  else
    lc2 (s_X5_findMeeting_27 p1 p2 x8 k10 e11) 1000 0 g9
noncomputable def f_X5_findMeeting (σ : Sg) (p1 : Int32) (p2 : Int32) : Option (Int32 × Sg) :=
  (f_X3_touching (sg_off σ 4) p1 p2).bind fun z1 =>
  if z1 = 1 then
    some (1, σ)
  else
    lc2 (s_X5_findMeeting_19 p1 p2 j_X5_findMeeting_1) 1000 0 σ
noncomputable def f_X5_foundFold (σ : Sg) (p1 : Int32) : Option (Int32) :=
  if p1 < 0 then
    some (-5)
  else
    if (σ 0 0) ≤ p1 then
      some (-5)
    else
      if 2 < p1 then
        some (-5)
      else
        chk p1 3 <|
        some (σ 1 (p1 : Int32).toNatClampNeg)
noncomputable def f_X5_startFrom (σ : Sg) (τ : Sg) : Option (Sg) :=
  (f_X3_copyFrom (sg_off σ 4) τ).bind fun z1 =>
  some (sg_st (sg_sp σ 4 6 z1) 0 0 0)
noncomputable def f_X6_mayBegin (σ : Sg) (p1 : Int32) : Option (Int32) :=
  if p1 = 4 then
    if (σ 0 2) = 0 then
      some 1
    else
      some 0
  else
    if p1 = 5 then
      some 1
    else
      if p1 = 6 then
        (f_X4_isFull (sg_off σ 5)).bind fun z5 =>
        if z5 = 0 then
          some 1
        else
          some 0
      else
        if p1 = 7 then
          if (σ 0 7) = 0 then
            some 1
          else
            some 0
        else
          some 0
noncomputable def j_X6_mostNumber_1 (σ : Sg) (x2 : Int32) : Option (Int32) :=
  if x2 = 0 then
    some 9
  else
    some (((σ 3 0) * (σ 3 1)) - 1)
noncomputable def f_X6_mostNumber (σ : Sg) : Option (Int32) :=
  if (σ 0 3) = 4 then
    some 4
  else
    if (σ 0 3) = 6 then
      j_X6_mostNumber_1 σ 1
    else
      if (σ 0 3) = 5 then
        if (σ 0 4) = 0 then
          j_X6_mostNumber_1 σ 1
        else
          j_X6_mostNumber_1 σ 0
      else
        j_X6_mostNumber_1 σ 0
noncomputable def j_X6_takesEnd_1 (g2 : Sg) : Option (Int32 × Sg) :=
  some (1, (sg_st (sg_st g2 0 3 0) 0 2 (((sg_st g2 0 3 0) 0 2) + 1)))
noncomputable def f_X6_takesEnd (σ : Sg) : Option (Int32 × Sg) :=
  if (σ 1 4) = 3 then
    if (σ 0 3) = 4 then
      j_X6_takesEnd_1 (sg_st (sg_st σ 3 0 (σ 0 5)) 3 1 ((sg_st σ 3 0 (σ 0 5)) 0 6))
    else
      if (σ 0 3) = 5 then
        (f_X1_setWorth (sg_off σ 3) (σ 0 5) (σ 0 6)).bind fun z7 =>
        j_X6_takesEnd_1 (sg_sp σ 3 5 z7)
      else
        if (σ 0 3) = 6 then
          (f_X4_add (sg_off σ 5) (σ 0 5) (σ 0 6)).bind fun z6 =>
          j_X6_takesEnd_1 (sg_sp σ 5 3 z6)
        else
          j_X6_takesEnd_1 (sg_st (sg_st σ 3 2 (σ 0 5)) 0 7 1)
  else
    some (0, σ)
noncomputable def j_X6_takesNumber_2 (g6 : Sg) : Option (Int32 × Sg) :=
  some (1, (sg_st g6 0 4 ((g6 0 4) + 1)))
noncomputable def j_X6_takesNumber_3 (σ : Sg) : Option (Int32 × Sg) :=
  j_X6_takesNumber_2 (sg_st σ 0 6 (σ 1 5))
noncomputable def j_X6_takesNumber_1 (σ : Sg) (x1 : Int32) : Option (Int32 × Sg) :=
  if (σ 1 4) = 2 then
    if (σ 1 5) < x1 then
      some (0, σ)
    else
      (f_X6_mostNumber σ).bind fun z4 =>
      if (σ 1 5) ≤ z4 then
        if (σ 0 4) = 0 then
          j_X6_takesNumber_2 (sg_st σ 0 5 (σ 1 5))
        else
          if (σ 0 3) = 6 then
            if (σ 1 5) = (σ 0 5) then
              some (0, σ)
            else
              j_X6_takesNumber_3 σ
          else
            j_X6_takesNumber_3 σ
      else
        some (0, σ)
  else
    some (0, σ)
noncomputable def f_X6_takesNumber (σ : Sg) : Option (Int32 × Sg) :=
  if (σ 0 3) = 4 then
    j_X6_takesNumber_1 σ 1
  else
    if (σ 0 3) = 7 then
      j_X6_takesNumber_1 σ 1
    else
      j_X6_takesNumber_1 σ 0
noncomputable def f_X6_takesWord (σ : Sg) : Option (Int32 × Sg) :=
  (f_X6_mayBegin σ (σ 1 4)).bind fun z1 =>
  if z1 = 0 then
    some (0, σ)
  else
    some (1, (sg_st (sg_st σ 0 3 (σ 1 4)) 0 4 0))
noncomputable def j_X6_takesToken_1 (σ : Sg) (x2 : Int32) : Option (Int32 × Sg) :=
  if x2 ≤ (σ 0 4) then
    (f_X6_takesEnd σ).bind fun z4 =>
    cbl z4.1 <|
    some (z4.1, z4.2)
  else
    (f_X6_takesNumber σ).bind fun z6 =>
    cbl z6.1 <|
    some (z6.1, z6.2)
noncomputable def f_X6_takesToken (σ : Sg) : Option (Int32 × Sg) :=
  if (σ 0 3) = 0 then
    (f_X6_takesWord σ).bind fun z9 =>
    cbl z9.1 <|
    some (z9.1, z9.2)
  else
    if (σ 0 3) = 7 then
      j_X6_takesToken_1 σ 1
    else
      j_X6_takesToken_1 σ 2
noncomputable def f_X7_byteAt (σ : Sg) (p1 : Int32) : Option (Int32) :=
  if p1 < 0 then
    some (-1)
  else
    if (σ 0 0) ≤ p1 then
      some (-1)
    else
      if 200 ≤ p1 then
        some (-1)
      else
        chk p1 200 <|
        some (σ 1 (p1 : Int32).toNatClampNeg)
noncomputable def f_X7_isDigit (p1 : Int32) : Option (Int32) :=
  if p1 < 48 then
    some 0
  else
    if 57 < p1 then
      some 0
    else
      some 1
noncomputable def f_X7_isLetter (p1 : Int32) : Option (Int32) :=
  if p1 < 97 then
    some 0
  else
    if 122 < p1 then
      some 0
    else
      some 1
noncomputable def j_X7_readNumber_3 (g1 : Sg) (x3 : Int32) : Option (Sg) :=
  some (sg_st g1 0 4 x3)
noncomputable def j_X7_readNumber_2 (g1 : Sg) (x2 : Int32) : Option (Sg) :=
  if 2 < ((g1 0 3) - (g1 0 2)) then
    j_X7_readNumber_3 g1 1
  else
    if x2 = 0 then
      j_X7_readNumber_3 g1 2
    else
      j_X7_readNumber_3 g1 1
noncomputable def j_X7_readNumber_1 (g1 : Sg) : Option (Sg) :=
  if ((g1 0 3) - (g1 0 2)) ≤ 1 then
    j_X7_readNumber_2 g1 0
  else
    (f_X7_byteAt g1 (g1 0 2)).bind fun z7 =>
    if z7 = 48 then
      j_X7_readNumber_2 g1 1
    else
      j_X7_readNumber_2 g1 0
noncomputable def j_X7_readNumber_4 (k10 : Sg → Option (Sg)) (g16 : Sg) : Option (Sg) :=
  k10 (sg_st g16 0 3 ((g16 0 3) + 1))
noncomputable def s_X7_readNumber_5 (e11 : Sg → Option (Sg)) (g9 : Sg) (k10 : Sg → Option (Sg)) : Option (Sg) :=
  if (g9 0 0) ≤ (g9 0 3) then
    e11 g9
  else
    (f_X7_byteAt g9 (g9 0 3)).bind fun z13 =>
    (f_X7_isDigit z13).bind fun z14 =>
    if z14 = 0 then
      e11 g9
    else
      if 2 ≤ ((g9 0 3) - (g9 0 2)) then
        j_X7_readNumber_4 k10 g9
      else
        (f_X7_byteAt g9 (g9 0 3)).bind fun z18 =>
        j_X7_readNumber_4 k10 (sg_st g9 0 5 (((10 * (g9 0 5)) + z18) - 48))
noncomputable def f_X7_readNumber (σ : Sg) : Option (Sg) :=
  lc1 (s_X7_readNumber_5 j_X7_readNumber_1) 1000 (sg_st σ 0 5 0)
noncomputable def s_X7_isWord_20 (σ : Sg) (i0 : Nat) (x3 : Int32) (k4 : Int32 → Option (Int32)) : Option (Int32) :=
  (st_len i0).bind fun z5 =>
  if z5 ≤ x3 then
    some 1
  else
    (f_X7_byteAt σ ((σ 0 2) + x3)).bind fun z7 =>
    (st_at i0 x3).bind fun z8 =>
    if z7 = z8 then
      k4 (x3 + 1)
    else
      some 0
noncomputable def f_X7_isWord (σ : Sg) (i0 : Nat) : Option (Int32) :=
  (st_len i0).bind fun z1 =>
  if ((σ 0 3) - (σ 0 2)) = z1 then
    lc1 (s_X7_isWord_20 σ i0) 1000 0
  else
    some 0
noncomputable def j_X7_readWord_1 (g1 : Sg) : Option (Sg) :=
  (f_X7_isWord g1 0).bind fun z2 =>
  if z2 = 0 then
    (f_X7_isWord g1 1).bind fun z4 =>
    if z4 = 0 then
      (f_X7_isWord g1 2).bind fun z6 =>
      if z6 = 0 then
        (f_X7_isWord g1 3).bind fun z8 =>
        if z8 = 0 then
          some (sg_st g1 0 4 1)
        else
          some (sg_st g1 0 4 7)
      else
        some (sg_st g1 0 4 6)
    else
      some (sg_st g1 0 4 5)
  else
    some (sg_st g1 0 4 4)
noncomputable def s_X7_readWord_0 (e12 : Sg → Option (Sg)) (g10 : Sg) (k11 : Sg → Option (Sg)) : Option (Sg) :=
  if (g10 0 0) ≤ (g10 0 3) then
    e12 g10
  else
    (f_X7_byteAt g10 (g10 0 3)).bind fun z14 =>
    (f_X7_isLetter z14).bind fun z15 =>
    if z15 = 0 then
      e12 g10
    else
      k11 (sg_st g10 0 3 ((g10 0 3) + 1))
noncomputable def f_X7_readWord (σ : Sg) : Option (Sg) :=
  lc1 (s_X7_readWord_0 j_X7_readWord_1) 1000 σ
noncomputable def j_X7_readToken_2 (g1 : Sg) (x8 : Int32) : Option (Sg) :=
  some (sg_st (sg_st (sg_st g1 0 2 (g1 0 3)) 0 4 x8) 0 3 (((sg_st (sg_st g1 0 2 (g1 0 3)) 0 4 x8) 0 3) + 1))
noncomputable def j_X7_readToken_1 (g1 : Sg) : Option (Sg) :=
  (f_X7_byteAt (sg_st g1 0 2 (g1 0 3)) ((sg_st g1 0 2 (g1 0 3)) 0 2)).bind fun z2 =>
  if 0 ≤ z2 then
    (f_X7_isLetter z2).bind fun z4 =>
    if z4 = 0 then
      (f_X7_isDigit z2).bind fun z6 =>
      if z6 = 0 then
        if z2 = 59 then
          j_X7_readToken_2 g1 3
        else
          j_X7_readToken_2 g1 1
      else
        (f_X7_readNumber (sg_st g1 0 2 (g1 0 3))).bind fun z10 =>
        some z10
    else
      (f_X7_readWord (sg_st g1 0 2 (g1 0 3))).bind fun z11 =>
      some z11
  else
    some (sg_st (sg_st g1 0 2 (g1 0 3)) 0 4 0)
noncomputable def s_X7_readToken_0 (e14 : Sg → Option (Sg)) (g12 : Sg) (k13 : Sg → Option (Sg)) : Option (Sg) :=
  if (g12 0 0) ≤ (g12 0 3) then
    e14 g12
  else
    (f_X7_byteAt g12 (g12 0 3)).bind fun z16 =>
    if z16 = 32 then
      k13 (sg_st g12 0 3 ((g12 0 3) + 1))
    else
      e14 g12
noncomputable def f_X7_readToken (σ : Sg) : Option (Sg) :=
  lc1 (s_X7_readToken_0 j_X7_readToken_1) 1000 σ
noncomputable def f_X7_rewind (σ : Sg) : Option (Sg) :=
  some (sg_st (sg_st (sg_st (sg_st σ 0 2 0) 0 3 0) 0 4 0) 0 5 0)
noncomputable def j_X6_readAll_1 (g3 : Sg) : Option (Int32 × Sg) :=
  if (g3 0 3) = 0 then
    some (1, g3)
  else
    some (0, g3)
noncomputable def s_X6_readAll_31 (e8 : Sg → Option (Int32 × Sg)) (x5 : Int32) (g6 : Sg) (k7 : Int32 → Sg → Option (Int32 × Sg)) : Option (Int32 × Sg) :=
  if 200 < x5 then
    some (0, g6)
  else
    (f_X7_readToken (sg_off g6 1)).bind fun z10 =>
    if ((sg_sp g6 1 2 z10) 1 4) = 0 then
      e8 (sg_sp g6 1 2 z10)
    else
      (f_X6_takesToken (sg_sp g6 1 2 z10)).bind fun z12 =>
      if z12.1 = 0 then
        some (0, z12.2)
      else
        k7 (x5 + 1) z12.2
noncomputable def f_X6_readAll (σ : Sg) : Option (Int32 × Sg) :=
  (f_X1_becomeAsAtFirst (sg_off σ 3)).bind fun z1 =>
  (f_X7_rewind (sg_off (sg_st (sg_st (sg_st (sg_sp σ 3 5 z1) 0 2 0) 0 3 0) 0 7 0) 1)).bind fun z2 =>
  lc2 (s_X6_readAll_31 j_X6_readAll_1) 1000 0 (sg_sp (sg_st (sg_st (sg_st (sg_sp σ 3 5 z1) 0 2 0) 0 3 0) 0 7 0) 1 2 z2)
noncomputable def f_X7_append (σ : Sg) (p1 : Int32) : Option (Sg) :=
  if 200 ≤ (σ 0 0) then
    some σ
  else
    chk (σ 0 0) 200 <|
    some (sg_st (sg_st σ 1 ((σ 0 0) : Int32).toNatClampNeg p1) 0 0 (((sg_st σ 1 ((σ 0 0) : Int32).toNatClampNeg p1) 0 0) + 1))
noncomputable def f_X8_isCell (σ : Sg) (tr : Int64) (p1 : Int32) : Option (Int32) :=
  if p1 < 0 then
    some 0
  else
    if (σ 20 0) ≤ p1 then
      some 0
    else
      some 1
noncomputable def f_X8_areTwoCells (σ : Sg) (tr : Int64) (p1 : Int32) (p2 : Int32) : Option (Int32) :=
  (f_X8_isCell σ tr p1).bind fun z1 =>
  if z1 = 0 then
    some 0
  else
    (f_X8_isCell σ tr p2).bind fun z3 =>
    if z3 = 0 then
      some 0
    else
      if p1 = p2 then
        some 0
      else
        some 1
noncomputable def s_X8_at_17 (σ : Sg) (p1 : Int32) (p2 : Int32) (p3 : Int32) (x4 : Int32) (k5 : Int32 → Option (Int32)) : Option (Int32) :=
  if (σ 20 0) ≤ x4 then
    some (-9)
  else
    chk x4 16 <|
    if (σ 21 (x4 : Int32).toNatClampNeg) = p1 then
      chk x4 16 <|
      if (σ 22 (x4 : Int32).toNatClampNeg) = p2 then
        chk x4 16 <|
        if (σ 23 (x4 : Int32).toNatClampNeg) = p3 then
          some x4
        else
          k5 (x4 + 1)
      else
        k5 (x4 + 1)
    else
      k5 (x4 + 1)
noncomputable def f_X8_at (σ : Sg) (tr : Int64) (p1 : Int32) (p2 : Int32) (p3 : Int32) : Option (Int32) :=
  if p1 < 0 then
    some (-1)
  else
    if p2 < 0 then
      some (-1)
    else
      if 0 ≤ p3 then
        lc1 (s_X8_at_17 σ p1 p2 p3) 1000 0
      else
        some (-1)
noncomputable def f_X8_bendBy (σ : Sg) (tr : Int64) (p1 : Int32) : Option (Sg) :=
  (f_X0_bend (sg_off σ 26) (sg_off σ 20) p1).bind fun z1 =>
  (f_X3_bend (sg_off (sg_sp σ 26 4 z1) 20) p1).bind fun z2 =>
  some (sg_sp (sg_sp σ 26 4 z1) 20 6 z2)
noncomputable def s_X8_foldAsNowTells_34 (tr : Int64) (x3 : Int32) (g4 : Sg) (k5 : Int32 → Sg → Option (Sg)) : Option (Sg) :=
  if (g4 30 2) ≤ x3 then
    some g4
  else
    chk x3 6 <|
    (f_X8_bendBy g4 tr (g4 31 (x3 : Int32).toNatClampNeg)).bind fun z8 =>
    k5 (x3 + 1) z8
noncomputable def f_X8_foldAsNowTells (σ : Sg) (tr : Int64) : Option (Sg) :=
  (f_X3_copyFrom (sg_off σ 20) (sg_off σ 14)).bind fun z1 =>
  ccp 0 0 24 24 24 <|
  lc2 (s_X8_foldAsNowTells_34 tr) 1000 0 (sg_ar (sg_sp σ 20 6 z1) 29 (va_cpy ((sg_sp σ 20 6 z1) 32) ((sg_sp σ 20 6 z1) 29) (0 : Int32).toNatClampNeg (0 : Int32).toNatClampNeg (24 : Int32).toNatClampNeg))
noncomputable def f_X8_isImage (p1 : Int32) : Option (Int32) :=
  if p1 < 0 then
    some 0
  else
    if 2 ≤ p1 then
      some 0
    else
      some 1
noncomputable def j_X8_back_2 (tr : Int64) (g5 : Sg) : Option (Int32 × Sg) :=
  (f_X8_foldAsNowTells g5 tr).bind fun z6 =>
  some ((z6 30 1), z6)
noncomputable def j_X8_back_1 (σ : Sg) (tr : Int64) (p1 : Int32) (x3 : Int32) : Option (Int32 × Sg) :=
  if x3 = 0 then
    some ((-2), σ)
  else
    if p1 = 0 then
      (f_X2_copyFrom (sg_off σ 30) (sg_off σ 34)).bind fun z8 =>
      j_X8_back_2 tr (sg_sp σ 30 3 z8)
    else
      if p1 = 1 then
        (f_X2_copyFrom (sg_off σ 30) (sg_off σ 37)).bind fun z10 =>
        j_X8_back_2 tr (sg_sp σ 30 3 z10)
      else
        none
noncomputable def f_X8_back (σ : Sg) (tr : Int64) (p1 : Int32) : Option (Int32 × Sg) :=
  (f_X8_isImage p1).bind fun z1 =>
  if z1 = 0 then
    some ((-1), σ)
  else
    if p1 = 0 then
      j_X8_back_1 σ tr p1 (σ 34 0)
    else
      if p1 = 1 then
        j_X8_back_1 σ tr p1 (σ 37 0)
      else
        none
noncomputable def j_X8_beginAnew_1 (tr : Int64) (g4 : Sg) : Option (Sg) :=
  (f_X8_foldAsNowTells (sg_st g4 40 0 0) tr).bind fun z5 =>
  some z5
noncomputable def s_X8_beginAnew_41 (e9 : Sg → Option (Sg)) (x6 : Int32) (g7 : Sg) (k8 : Int32 → Sg → Option (Sg)) : Option (Sg) :=
  if 2 ≤ x6 then
    e9 g7
  else
    if x6 = 0 then
      k8 (x6 + 1) (sg_st g7 34 0 0)
    else
      if x6 = 1 then
        k8 (x6 + 1) (sg_st g7 37 0 0)
      else
        none
noncomputable def f_X8_beginAnew (σ : Sg) (tr : Int64) : Option (Sg) :=
  (f_X3_layFlat (sg_off σ 14) (σ 9 0) (σ 9 1)).bind fun z1 =>
  (f_X0_layOut (sg_off (sg_sp σ 14 6 z1) 26) (sg_off (sg_sp σ 14 6 z1) 14)).bind fun z2 =>
  (f_X2_begin (sg_off (sg_sp (sg_sp σ 14 6 z1) 26 4 z2) 30)).bind fun z3 =>
  lc2 (s_X8_beginAnew_41 (j_X8_beginAnew_1 tr)) 1000 0 (sg_sp (sg_sp (sg_sp σ 14 6 z1) 26 4 z2) 30 3 z3)
noncomputable def f_X8_bent (σ : Sg) (tr : Int64) (p1 : Int32) (p2 : Int32) : Option (Int32) :=
  (f_X0_find (sg_off σ 26) p1 p2).bind fun z1 =>
  if z1 = (-9) then
    some (-1)
  else
    chk z1 24 <|
    some (σ 29 (z1 : Int32).toNatClampNeg)
noncomputable def f_X8_cell (σ : Sg) (tr : Int64) (p1 : Int32) (p2 : Int32) : Option (Int32) :=
  (f_X8_isCell σ tr p1).bind fun z1 =>
  if z1 = 0 then
    some (-1)
  else
    if p2 = 0 then
      chk p1 16 <|
      some (σ 21 (p1 : Int32).toNatClampNeg)
    else
      if p2 = 1 then
        chk p1 16 <|
        some (σ 22 (p1 : Int32).toNatClampNeg)
      else
        if p2 = 2 then
          chk p1 16 <|
          some (σ 23 (p1 : Int32).toNatClampNeg)
        else
          if p2 = 3 then
            chk p1 16 <|
            some (σ 24 (p1 : Int32).toNatClampNeg)
          else
            if p2 = 4 then
              chk p1 16 <|
              some (σ 10 (p1 : Int32).toNatClampNeg)
            else
              if p2 = 5 then
                (f_X3_gainOf (sg_off σ 20) (sg_off σ 10) p1).bind fun z14 =>
                some z14
              else
                some (-1)
noncomputable def f_X8_clear (σ : Sg) (tr : Int64) : Option (Int32 × Sg) :=
  some ((σ 2 0), (sg_st σ 2 0 0))
noncomputable def f_X8_count (σ : Sg) (tr : Int64) (p1 : Int32) : Option (Int32) :=
  if p1 = 0 then
    some (σ 9 0)
  else
    if p1 = 1 then
      some (σ 9 1)
    else
      if p1 = 2 then
        some (σ 11 0)
      else
        if p1 = 3 then
          some (σ 9 2)
        else
          if p1 = 4 then
            some (σ 40 0)
          else
            if p1 = 5 then
              some (σ 30 1)
            else
              if p1 = 6 then
                some (σ 30 2)
              else
                if p1 = 7 then
                  some (σ 2 0)
                else
                  some (-1)
noncomputable def f_X8_day (σ : Sg) (tr : Int64) : Option (Int32 × Sg) :=
  (f_X2_nextDay (sg_off σ 30) (sg_off σ 26)).bind fun z1 =>
  (f_X8_foldAsNowTells (sg_sp σ 30 3 z1) tr).bind fun z2 =>
  some ((z2 30 1), z2)
noncomputable def f_X8_fits (σ : Sg) (tr : Int64) (p1 : Int32) : Option (Int32 × Sg) :=
  if p1 < 0 then
    some ((-1), σ)
  else
    if p1 ≤ 2 then
      (f_X5_startFrom (sg_off σ 43) (sg_off σ 14)).bind fun z3 =>
      (f_X5_countFitting (sg_off (sg_sp σ 43 22 z3) 43) (sg_off (sg_sp σ 43 22 z3) 40) p1).bind fun z4 =>
      some (z4.1, (sg_sp (sg_sp σ 43 22 z3) 43 22 z4.2))
    else
      some ((-1), σ)
noncomputable def f_X8_isBit (p1 : Int32) : Option (Int32) :=
  if p1 = 0 then
    some 1
  else
    if p1 = 1 then
      some 1
    else
      some 0
noncomputable def f_X8_fold (σ : Sg) (tr : Int64) (p1 : Int32) (p2 : Int32) (p3 : Int32) (p4 : Int32) : Option (Int32 × Sg) :=
  (f_X8_isBit p1).bind fun z1 =>
  if z1 = 0 then
    some ((-1), σ)
  else
    (f_X8_isBit p3).bind fun z3 =>
    if z3 = 0 then
      some ((-1), σ)
    else
      (f_X8_isBit p4).bind fun z5 =>
      if z5 = 0 then
        some ((-1), σ)
      else
        if p2 < 1 then
          some ((-1), σ)
        else
          if p2 < 4 then
            (f_X3_canBend (sg_off σ 20) (((p1 + (2 * p3)) + (4 * p4)) + (8 * (p2 - 1)))).bind fun z9 =>
            if z9 = 0 then
              some ((-2), σ)
            else
              (f_X0_wouldTear (sg_off σ 26) (sg_off σ 20) (((p1 + (2 * p3)) + (4 * p4)) + (8 * (p2 - 1))) (σ 9 2)).bind fun z11 =>
              if z11 = 0 then
                (f_X2_addFold (sg_off σ 30) (((p1 + (2 * p3)) + (4 * p4)) + (8 * (p2 - 1)))).bind fun z13 =>
                (f_X8_bendBy (sg_sp σ 30 3 z13) tr (((p1 + (2 * p3)) + (4 * p4)) + (8 * (p2 - 1)))).bind fun z14 =>
                (f_X3_thickest (sg_off z14 20)).bind fun z15 =>
                some (z15, z14)
              else
                some ((-2), σ)
          else
            some ((-1), σ)
noncomputable def f_X8_forget (σ : Sg) (tr : Int64) : Option (Int32 × Sg) :=
  some ((σ 40 0), (sg_st σ 40 0 0))
noncomputable def j_X8_keep_2 (g4 : Sg) : Option (Int32 × Sg) :=
  some ((g4 30 1), g4)
noncomputable def j_X8_keep_1 (p1 : Int32) (g3 : Sg) : Option (Int32 × Sg) :=
  if p1 = 0 then
    j_X8_keep_2 (sg_st g3 34 0 1)
  else
    if p1 = 1 then
      j_X8_keep_2 (sg_st g3 37 0 1)
    else
      none
noncomputable def f_X8_keep (σ : Sg) (tr : Int64) (p1 : Int32) : Option (Int32 × Sg) :=
  (f_X8_isImage p1).bind fun z1 =>
  if z1 = 0 then
    some ((-1), σ)
  else
    if p1 = 0 then
      (f_X2_copyFrom (sg_off σ 34) (sg_off σ 30)).bind fun z8 =>
      j_X8_keep_1 p1 (sg_sp σ 34 3 z8)
    else
      if p1 = 1 then
        (f_X2_copyFrom (sg_off σ 37) (sg_off σ 30)).bind fun z10 =>
        j_X8_keep_1 p1 (sg_sp σ 37 3 z10)
      else
        none
noncomputable def f_X8_map (σ : Sg) (tr : Int64) : Option (Int32 × Sg) :=
  (f_X6_readAll (sg_off σ 1)).bind fun z1 =>
  if z1.1 = 0 then
    some (((-10) - ((sg_sp σ 1 8 z1.2) 2 2)), (sg_sp σ 1 8 z1.2))
  else
    (f_X1_copyFrom (sg_off (sg_sp σ 1 8 z1.2) 9) (sg_off (sg_sp σ 1 8 z1.2) 4)).bind fun z3 =>
    (f_X8_beginAnew (sg_st (sg_sp (sg_sp σ 1 8 z1.2) 9 5 z3) 2 0 0) tr).bind fun z4 =>
    some ((z4 1 2), z4)
noncomputable def f_X8_packet (σ : Sg) (tr : Int64) (p1 : Int32) : Option (Int32) :=
  if p1 = 0 then
    some (σ 20 1)
  else
    if p1 = 1 then
      some (σ 20 2)
    else
      if p1 = 2 then
        (f_X3_thickest (sg_off σ 20)).bind fun z4 =>
        some z4
      else
        if p1 = 3 then
          (f_X3_countFought (sg_off σ 20) (sg_off σ 11)).bind fun z6 =>
          some z6
        else
          if p1 = 4 then
            (f_X3_countFrontPairs (sg_off σ 20)).bind fun z8 =>
            some z8
          else
            some (-1)
noncomputable def f_X8_rateAsCell (σ : Sg) (tr : Int64) (p1 : Int32) : Option (Int32 × Int64) :=
  chk p1 16 <|
  some ((σ 10 (p1 : Int32).toNatClampNeg), (tr + 1))
noncomputable def f_X8_rateAsDuke (σ : Sg) (tr : Int64) (p1 : Int32) : Option (Int32 × Int64) :=
  (f_X8_rateAsCell σ (tr + 100000) p1).bind fun z1 =>
  some ((z1.1 + (σ 30 1)), z1.2)
noncomputable def f_X8_rateAsHermit (σ : Sg) (tr : Int64) (p1 : Int32) : Option (Int32 × Int64) :=
  (f_X8_rateAsCell σ (tr + 100) p1).bind fun z1 =>
  chk p1 16 <|
  some ((z1.1 - (σ 23 (p1 : Int32).toNatClampNeg)), z1.2)
noncomputable def f_X8_rateAsFolder (σ : Sg) (tr : Int64) (p1 : Int32) : Option (Int32 × Int64) :=
  (f_X8_rateAsHermit σ (tr + 10000) p1).bind fun z1 =>
  some ((z1.1 + (σ 30 2)), z1.2)
noncomputable def f_X8_rateAsWell (σ : Sg) (tr : Int64) (p1 : Int32) : Option (Int32 × Int64) :=
  (f_X8_rateAsCell σ (tr + 10) p1).bind fun z1 =>
  (f_X3_gainOf (sg_off σ 20) (sg_off σ 10) p1).bind fun z2 =>
  some ((z1.1 + z2), z1.2)
noncomputable def f_X8_rateAsLight (σ : Sg) (tr : Int64) (p1 : Int32) : Option (Int32 × Int64) :=
  (f_X8_rateAsWell σ (tr + 1000) p1).bind fun z1 =>
  some ((2 * z1.1), z1.2)
noncomputable def f_X8_rate (σ : Sg) (tr : Int64) (p1 : Int32) (p2 : Int32) : Option (Int32 × Int64) :=
  if p1 < 0 then
    some ((-1000000), tr)
  else
    if 6 ≤ p1 then
      some ((-1000000), tr)
    else
      (f_X8_isCell σ tr p2).bind fun z3 =>
      if z3 = 0 then
        some ((-1000000), tr)
      else
        if p1 = 1 then
          (f_X8_rateAsWell σ tr p2).bind fun z6 =>
          some (z6.1, z6.2)
        else
          if p1 = 2 then
            (f_X8_rateAsHermit σ tr p2).bind fun z8 =>
            some (z8.1, z8.2)
          else
            if p1 = 3 then
              (f_X8_rateAsLight σ tr p2).bind fun z10 =>
              some (z10.1, z10.2)
            else
              if p1 = 4 then
                (f_X8_rateAsFolder σ tr p2).bind fun z12 =>
                some (z12.1, z12.2)
              else
                if p1 = 5 then
                  (f_X8_rateAsDuke σ tr p2).bind fun z14 =>
                  some (z14.1, z14.2)
                else
                  (f_X8_rateAsCell σ tr p2).bind fun z15 =>
                  some (z15.1, z15.2)
noncomputable def f_X8_reach (σ : Sg) (tr : Int64) (p1 : Int32) (p2 : Int32) (p3 : Int32) : Option (Int32 × Sg) :=
  (f_X8_areTwoCells σ tr p1 p2).bind fun z1 =>
  if z1 = 0 then
    some ((-1), σ)
  else
    if (-1) ≤ p3 then
      (f_X5_startFrom (sg_off σ 43) (sg_off σ 20)).bind fun z4 =>
      (f_X5_findMeeting (sg_off (sg_sp σ 43 22 z4) 43) p1 p2).bind fun z5 =>
      if z5.1 = 0 then
        some ((-9), (sg_sp (sg_sp σ 43 22 z4) 43 22 z5.2))
      else
        if p3 = (-1) then
          some (((sg_sp (sg_sp σ 43 22 z4) 43 22 z5.2) 43 0), (sg_sp (sg_sp σ 43 22 z4) 43 22 z5.2))
        else
          (f_X5_foundFold (sg_off (sg_sp (sg_sp σ 43 22 z4) 43 22 z5.2) 43) p3).bind fun z8 =>
          some (z8, (sg_sp (sg_sp σ 43 22 z4) 43 22 z5.2))
    else
      some ((-1), σ)
noncomputable def f_X8_saw (σ : Sg) (tr : Int64) (p1 : Int32) (p2 : Int32) : Option (Int32 × Sg) :=
  (f_X8_areTwoCells σ tr p1 p2).bind fun z1 =>
  if z1 = 0 then
    some ((-1), σ)
  else
    (f_X4_isFull (sg_off σ 40)).bind fun z3 =>
    if z3 = 0 then
      (f_X4_add (sg_off σ 40) p1 p2).bind fun z5 =>
      some (((sg_sp σ 40 3 z5) 40 0), (sg_sp σ 40 3 z5))
    else
      some ((-3), σ)
noncomputable def f_X8_serves (σ : Sg) (tr : Int64) (p1 : Int32) (p2 : Int32) : Option (Int32 × Sg) :=
  (f_X8_isCell σ tr p1).bind fun z1 =>
  if z1 = 0 then
    some ((-1), σ)
  else
    if (-1) ≤ p2 then
      (f_X5_startFrom (sg_off σ 43) (sg_off σ 20)).bind fun z4 =>
      (f_X5_findBestGain (sg_off (sg_sp σ 43 22 z4) 43) (sg_off (sg_sp σ 43 22 z4) 10) p1).bind fun z5 =>
      if p2 = (-1) then
        some (z5.1, (sg_sp (sg_sp σ 43 22 z4) 43 22 z5.2))
      else
        (f_X5_foundFold (sg_off (sg_sp (sg_sp σ 43 22 z4) 43 22 z5.2) 43) p2).bind fun z7 =>
        some (z7, (sg_sp (sg_sp σ 43 22 z4) 43 22 z5.2))
    else
      some ((-1), σ)
noncomputable def f_X8_touch (σ : Sg) (tr : Int64) (p1 : Int32) (p2 : Int32) : Option (Int32) :=
  (f_X8_areTwoCells σ tr p1 p2).bind fun z1 =>
  if z1 = 0 then
    some (-1)
  else
    (f_X3_touching (sg_off σ 20) p1 p2).bind fun z3 =>
    some z3
noncomputable def f_X8_trace (σ : Sg) (tr : Int64) : Option (Int64) :=
  some tr
noncomputable def j_X8_type_1 (g4 : Sg) : Option (Int32 × Sg) :=
  some ((g4 2 0), g4)
noncomputable def s_X8_type_36 (p1 : Int64) (e8 : Sg → Option (Int32 × Sg)) (x5 : Int32) (g6 : Sg) (k7 : Int32 → Sg → Option (Int32 × Sg)) : Option (Int32 × Sg) :=
  if x5 < 0 then
    e8 g6
  else
    (f_X7_append (sg_off g6 2) ((((p1 : Int64).toUInt64 >>> (((8 * x5) : Int32).toInt64.toUInt64 &&& Int64.toUInt64 63)).toInt64 : Int64).toInt32 &&& 255)).bind fun z10 =>
    k7 (x5 + (-1)) (sg_sp g6 2 2 z10)
noncomputable def f_X8_type (σ : Sg) (tr : Int64) (p1 : Int64) (p2 : Int32) : Option (Int32 × Sg) :=
  if p2 < 1 then
    some ((-1), σ)
  else
    if p2 ≤ 8 then
      if ((σ 2 0) + p2) ≤ 200 then
        lc2 (s_X8_type_36 p1 j_X8_type_1) 1000 (p2 - 1) σ
      else
        some ((-3), σ)
    else
      some ((-1), σ)
noncomputable def f_X8_undo (σ : Sg) (tr : Int64) : Option (Int32 × Sg) :=
  if (σ 30 2) = 0 then
    some ((-2), σ)
  else
    (f_X8_foldAsNowTells (sg_st σ 30 2 ((σ 30 2) - 1)) tr).bind fun z2 =>
    some ((z2 30 2), z2)
noncomputable def f_X9_cells (σ : Sg) (tr : Int64) : Option (Int32) :=
  chk 0 35 <|
  chk 1 35 <|
  some ((σ 2 (0 : Int32).toNatClampNeg) * (σ 2 (1 : Int32).toNatClampNeg))
noncomputable def f_X9_in (p1 : Int32) (p2 : Int32) (p3 : Int32) : Option (Int32) :=
  if p1 < p2 then
    some 0
  else
    if p3 < p1 then
      some 0
    else
      some 1
noncomputable def f_X9_isCell (σ : Sg) (tr : Int64) (p1 : Int32) : Option (Int32) :=
  (f_X9_cells σ tr).bind fun z1 =>
  (f_X9_in p1 0 (z1 - 1)).bind fun z2 =>
  cbl z2 <|
  some z2
noncomputable def f_X9_areTwo (σ : Sg) (tr : Int64) (p1 : Int32) (p2 : Int32) : Option (Int32) :=
  (f_X9_isCell σ tr p1).bind fun z1 =>
  if z1 = 0 then
    some 0
  else
    (f_X9_isCell σ tr p2).bind fun z3 =>
    if z3 = 0 then
      some 0
    else
      if p1 = p2 then
        some 0
      else
        some 1
noncomputable def j_X9_falls_1 (p1 : Int32) (g1 : Sg) : Option (Sg) :=
  chk (2 * p1) 8 <|
  chk 0 8 <|
  chk ((2 * p1) + 1) 8 <|
  chk 1 8 <|
  some (sg_st (sg_st g1 10 (0 : Int32).toNatClampNeg (g1 10 ((2 * p1) : Int32).toNatClampNeg)) 10 (1 : Int32).toNatClampNeg ((sg_st g1 10 (0 : Int32).toNatClampNeg (g1 10 ((2 * p1) : Int32).toNatClampNeg)) 10 (((2 * p1) + 1) : Int32).toNatClampNeg))
noncomputable def s_X9_falls_2 (p1 : Int32) (e9 : Sg → Option (Sg)) (x6 : Int32) (g7 : Sg) (k8 : Int32 → Sg → Option (Sg)) : Option (Sg) :=
  if 64 ≤ x6 then
    e9 g7
  else
    chk ((64 * p1) + x6) 256 <|
    chk x6 256 <|
    k8 (x6 + 1) (sg_st g7 9 (x6 : Int32).toNatClampNeg (g7 9 (((64 * p1) + x6) : Int32).toNatClampNeg))
noncomputable def f_X9_falls (σ : Sg) (tr : Int64) (p1 : Int32) : Option (Sg) :=
  lc2 (s_X9_falls_2 p1 (j_X9_falls_1 p1)) 1000 0 σ
noncomputable def j_X9_flat_1 (g1 : Sg) : Option (Sg) :=
  chk 0 35 <|
  chk 0 8 <|
  chk 1 35 <|
  chk 1 8 <|
  some (sg_st (sg_st g1 10 (0 : Int32).toNatClampNeg (g1 2 (0 : Int32).toNatClampNeg)) 10 (1 : Int32).toNatClampNeg ((sg_st g1 10 (0 : Int32).toNatClampNeg (g1 2 (0 : Int32).toNatClampNeg)) 2 (1 : Int32).toNatClampNeg))
noncomputable def s_X9_flat_2 (tr : Int64) (e9 : Sg → Option (Sg)) (x6 : Int32) (g7 : Sg) (k8 : Int32 → Sg → Option (Sg)) : Option (Sg) :=
  (f_X9_cells g7 tr).bind fun z10 =>
  if z10 ≤ x6 then
    e9 g7
  else
    chk 0 35 <|
    cnz (g7 2 (0 : Int32).toNatClampNeg) <|
    chk x6 256 <|
    chk 0 35 <|
    cnz ((sg_st g7 9 (x6 : Int32).toNatClampNeg (x6 - x6 / (g7 2 (0 : Int32).toNatClampNeg) * (g7 2 (0 : Int32).toNatClampNeg))) 2 (0 : Int32).toNatClampNeg) <|
    chk (16 + x6) 256 <|
    chk (32 + x6) 256 <|
    chk (48 + x6) 256 <|
    k8 (x6 + 1) (sg_st (sg_st (sg_st (sg_st g7 9 (x6 : Int32).toNatClampNeg (x6 - x6 / (g7 2 (0 : Int32).toNatClampNeg) * (g7 2 (0 : Int32).toNatClampNeg))) 9 ((16 + x6) : Int32).toNatClampNeg (x6 / ((sg_st g7 9 (x6 : Int32).toNatClampNeg (x6 - x6 / (g7 2 (0 : Int32).toNatClampNeg) * (g7 2 (0 : Int32).toNatClampNeg))) 2 (0 : Int32).toNatClampNeg))) 9 ((32 + x6) : Int32).toNatClampNeg 0) 9 ((48 + x6) : Int32).toNatClampNeg 1)
noncomputable def f_X9_flat (σ : Sg) (tr : Int64) : Option (Sg) :=
  lc2 (s_X9_flat_2 tr j_X9_flat_1) 1000 0 σ
noncomputable def j_X9_manyAt_2 (x2 : Int32) (x3 : Int32) (k4 : Int32 → Int32 → Option (Int32)) (x8 : Int32) : Option (Int32) :=
  k4 (x2 + x8) (x3 + 1)
noncomputable def s_X9_manyAt_20 (σ : Sg) (tr : Int64) (p1 : Int32) (p3 : Int32) (p4 : Int32) (x1 : Int32) (x2 : Int32) (x3 : Int32) (k4 : Int32 → Int32 → Option (Int32)) : Option (Int32) :=
  (f_X9_cells σ tr).bind fun z5 =>
  if z5 ≤ x3 then
    some x2
  else
    chk x3 16 <|
    if (σ 11 (x3 : Int32).toNatClampNeg) = p4 then
      chk x3 16 <|
      chk p3 16 <|
      if (σ 12 (x3 : Int32).toNatClampNeg) = (σ 12 (p3 : Int32).toNatClampNeg) then
        chk ((p1 + x1) + x3) 256 <|
        chk ((p1 + x1) + p3) 256 <|
        if (σ 9 (((p1 + x1) + x3) : Int32).toNatClampNeg) = (σ 9 (((p1 + x1) + p3) : Int32).toNatClampNeg) then
          j_X9_manyAt_2 x2 x3 k4 1
        else
          j_X9_manyAt_2 x2 x3 k4 0
      else
        j_X9_manyAt_2 x2 x3 k4 0
    else
      j_X9_manyAt_2 x2 x3 k4 0
noncomputable def j_X9_manyAt_1 (σ : Sg) (tr : Int64) (p1 : Int32) (p3 : Int32) (p4 : Int32) (x1 : Int32) : Option (Int32) :=
  lc2 (s_X9_manyAt_20 σ tr p1 p3 p4 x1) 1000 0 0
noncomputable def f_X9_manyAt (σ : Sg) (tr : Int64) (p1 : Int32) (p2 : Int32) (p3 : Int32) (p4 : Int32) : Option (Int32) :=
  if p2 = 0 then
    j_X9_manyAt_1 σ tr p1 p3 p4 16
  else
    j_X9_manyAt_1 σ tr p1 p3 p4 0
noncomputable def j_X9_folds_3 (p1 : Int32) (p2 : Int32) (x4 : Int32) (x5 : Int32) (g8 : Sg) : Option (Int32 × Sg) :=
  chk (((2 * p1) + 2) + (p2 &&& 1)) 8 <|
  chk (((2 * p1) + 1) - (p2 &&& 1)) 8 <|
  chk (((2 * p1) + 3) - (p2 &&& 1)) 8 <|
  some (1, (sg_st (sg_st g8 10 ((((2 * p1) + 2) + (p2 &&& 1)) : Int32).toNatClampNeg ((x5 - x4) + 1)) 10 ((((2 * p1) + 3) - (p2 &&& 1)) : Int32).toNatClampNeg ((sg_st g8 10 ((((2 * p1) + 2) + (p2 &&& 1)) : Int32).toNatClampNeg ((x5 - x4) + 1)) 10 ((((2 * p1) + 1) - (p2 &&& 1)) : Int32).toNatClampNeg)))
noncomputable def j_X9_folds_7 (p1 : Int32) (x3 : Int32) (x4 : Int32) (x12 : Int32) (g13 : Sg) (k14 : Int32 → Sg → Option (Int32 × Sg)) (x22 : Int32) (x25 : Int32) (x27 : Int32) (x28 : Int32) : Option (Int32 × Sg) :=
  chk (((64 * p1) + x28) + x12) 256 <|
  chk ((((64 * p1) + 64) + x27) + x12) 256 <|
  chk x12 16 <|
  chk ((((64 * p1) + 64) + x3) + x12) 256 <|
  k14 (x12 + 1) (sg_st (sg_st (sg_st (sg_st g13 9 (((((64 * p1) + 64) + 32) + x12) : Int32).toNatClampNeg x22) 9 (((((64 * p1) + 64) + 48) + x12) : Int32).toNatClampNeg x25) 9 (((((64 * p1) + 64) + x27) + x12) : Int32).toNatClampNeg ((sg_st (sg_st g13 9 (((((64 * p1) + 64) + 32) + x12) : Int32).toNatClampNeg x22) 9 (((((64 * p1) + 64) + 48) + x12) : Int32).toNatClampNeg x25) 9 ((((64 * p1) + x28) + x12) : Int32).toNatClampNeg)) 9 (((((64 * p1) + 64) + x3) + x12) : Int32).toNatClampNeg (((sg_st (sg_st (sg_st g13 9 (((((64 * p1) + 64) + 32) + x12) : Int32).toNatClampNeg x22) 9 (((((64 * p1) + 64) + 48) + x12) : Int32).toNatClampNeg x25) 9 (((((64 * p1) + 64) + x27) + x12) : Int32).toNatClampNeg ((sg_st (sg_st g13 9 (((((64 * p1) + 64) + 32) + x12) : Int32).toNatClampNeg x22) 9 (((((64 * p1) + 64) + 48) + x12) : Int32).toNatClampNeg x25) 9 ((((64 * p1) + x28) + x12) : Int32).toNatClampNeg)) 12 (x12 : Int32).toNatClampNeg) - x4))
noncomputable def j_X9_folds_6 (p1 : Int32) (p2 : Int32) (x3 : Int32) (x4 : Int32) (x12 : Int32) (g13 : Sg) (k14 : Int32 → Sg → Option (Int32 × Sg)) (x22 : Int32) (x25 : Int32) (x27 : Int32) : Option (Int32 × Sg) :=
  if (p2 &&& 1) = 0 then
    j_X9_folds_7 p1 x3 x4 x12 g13 k14 x22 x25 x27 16
  else
    j_X9_folds_7 p1 x3 x4 x12 g13 k14 x22 x25 x27 0
noncomputable def j_X9_folds_5 (p1 : Int32) (p2 : Int32) (x3 : Int32) (x4 : Int32) (x12 : Int32) (g13 : Sg) (k14 : Int32 → Sg → Option (Int32 × Sg)) (x22 : Int32) (x25 : Int32) : Option (Int32 × Sg) :=
  chk ((((64 * p1) + 64) + 48) + x12) 256 <|
  if (p2 &&& 1) = 0 then
    j_X9_folds_6 p1 p2 x3 x4 x12 g13 k14 x22 x25 16
  else
    j_X9_folds_6 p1 p2 x3 x4 x12 g13 k14 x22 x25 0
noncomputable def j_X9_folds_4 (p1 : Int32) (p2 : Int32) (x3 : Int32) (x4 : Int32) (x12 : Int32) (g13 : Sg) (k14 : Int32 → Sg → Option (Int32 × Sg)) (x22 : Int32) : Option (Int32 × Sg) :=
  chk ((((64 * p1) + 64) + 32) + x12) 256 <|
  chk x12 16 <|
  if ((sg_st g13 9 (((((64 * p1) + 64) + 32) + x12) : Int32).toNatClampNeg x22) 11 (x12 : Int32).toNatClampNeg) = 0 then
    chk (((64 * p1) + 48) + x12) 256 <|
    j_X9_folds_5 p1 p2 x3 x4 x12 g13 k14 x22 ((sg_st g13 9 (((((64 * p1) + 64) + 32) + x12) : Int32).toNatClampNeg x22) 9 ((((64 * p1) + 48) + x12) : Int32).toNatClampNeg)
  else
    chk (((64 * p1) + 48) + x12) 256 <|
    j_X9_folds_5 p1 p2 x3 x4 x12 g13 k14 x22 (1 - ((sg_st g13 9 (((((64 * p1) + 64) + 32) + x12) : Int32).toNatClampNeg x22) 9 ((((64 * p1) + 48) + x12) : Int32).toNatClampNeg))
noncomputable def j_X9_folds_8 (p1 : Int32) (p2 : Int32) (x3 : Int32) (x4 : Int32) (x12 : Int32) (g13 : Sg) (k14 : Int32 → Sg → Option (Int32 × Sg)) (x39 : Int32) : Option (Int32 × Sg) :=
  j_X9_folds_4 p1 p2 x3 x4 x12 g13 k14 ((g13 9 ((((64 * p1) + 32) + x12) : Int32).toNatClampNeg) + x39)
noncomputable def j_X9_folds_9 (p1 : Int32) (p2 : Int32) (x3 : Int32) (x4 : Int32) (x12 : Int32) (g13 : Sg) (k14 : Int32 → Sg → Option (Int32 × Sg)) (z19 : Int32) (x41 : Int32) : Option (Int32 × Sg) :=
  j_X9_folds_4 p1 p2 x3 x4 x12 g13 k14 (((x41 + z19) - 1) - (g13 9 ((((64 * p1) + 32) + x12) : Int32).toNatClampNeg))
noncomputable def s_X9_folds_239 (tr : Int64) (p1 : Int32) (p2 : Int32) (x3 : Int32) (x4 : Int32) (e15 : Sg → Option (Int32 × Sg)) (x12 : Int32) (g13 : Sg) (k14 : Int32 → Sg → Option (Int32 × Sg)) : Option (Int32 × Sg) :=
  (f_X9_cells g13 tr).bind fun z16 =>
  if z16 ≤ x12 then
    e15 g13
  else
    chk (((64 * p1) + 32) + x12) 256 <|
    (f_X9_manyAt g13 tr (64 * p1) (p2 &&& 1) x12 1).bind fun z19 =>
    (f_X9_manyAt g13 tr (64 * p1) (p2 &&& 1) x12 0).bind fun z20 =>
    chk x12 16 <|
    if (g13 11 (x12 : Int32).toNatClampNeg) = 0 then
      if (0 : Int32) = 0 then
        j_X9_folds_8 p1 p2 x3 x4 x12 g13 k14 z19
      else
        j_X9_folds_8 p1 p2 x3 x4 x12 g13 k14 0
    else
      if (0 : Int32) = 0 then
        j_X9_folds_9 p1 p2 x3 x4 x12 g13 k14 z19 0
      else
        j_X9_folds_9 p1 p2 x3 x4 x12 g13 k14 z19 z20
noncomputable def j_X9_folds_10 (p1 : Int32) (p2 : Int32) (x4 : Int32) (x5 : Int32) (g43 : Sg) : Option (Int32 × Sg) :=
  chk (((2 * p1) + 2) + (p2 &&& 1)) 8 <|
  chk (((2 * p1) + 1) - (p2 &&& 1)) 8 <|
  chk (((2 * p1) + 3) - (p2 &&& 1)) 8 <|
  some (1, (sg_st (sg_st g43 10 ((((2 * p1) + 2) + (p2 &&& 1)) : Int32).toNatClampNeg ((x5 - x4) + 1)) 10 ((((2 * p1) + 3) - (p2 &&& 1)) : Int32).toNatClampNeg ((sg_st g43 10 ((((2 * p1) + 2) + (p2 &&& 1)) : Int32).toNatClampNeg ((x5 - x4) + 1)) 10 ((((2 * p1) + 1) - (p2 &&& 1)) : Int32).toNatClampNeg)))
noncomputable def j_X9_folds_14 (p1 : Int32) (x3 : Int32) (x4 : Int32) (x47 : Int32) (g48 : Sg) (k49 : Int32 → Sg → Option (Int32 × Sg)) (x57 : Int32) (x60 : Int32) (x62 : Int32) (x63 : Int32) : Option (Int32 × Sg) :=
  chk (((64 * p1) + x63) + x47) 256 <|
  chk ((((64 * p1) + 64) + x62) + x47) 256 <|
  chk x47 16 <|
  chk ((((64 * p1) + 64) + x3) + x47) 256 <|
  k49 (x47 + 1) (sg_st (sg_st (sg_st (sg_st g48 9 (((((64 * p1) + 64) + 32) + x47) : Int32).toNatClampNeg x57) 9 (((((64 * p1) + 64) + 48) + x47) : Int32).toNatClampNeg x60) 9 (((((64 * p1) + 64) + x62) + x47) : Int32).toNatClampNeg ((sg_st (sg_st g48 9 (((((64 * p1) + 64) + 32) + x47) : Int32).toNatClampNeg x57) 9 (((((64 * p1) + 64) + 48) + x47) : Int32).toNatClampNeg x60) 9 ((((64 * p1) + x63) + x47) : Int32).toNatClampNeg)) 9 (((((64 * p1) + 64) + x3) + x47) : Int32).toNatClampNeg (((sg_st (sg_st (sg_st g48 9 (((((64 * p1) + 64) + 32) + x47) : Int32).toNatClampNeg x57) 9 (((((64 * p1) + 64) + 48) + x47) : Int32).toNatClampNeg x60) 9 (((((64 * p1) + 64) + x62) + x47) : Int32).toNatClampNeg ((sg_st (sg_st g48 9 (((((64 * p1) + 64) + 32) + x47) : Int32).toNatClampNeg x57) 9 (((((64 * p1) + 64) + 48) + x47) : Int32).toNatClampNeg x60) 9 ((((64 * p1) + x63) + x47) : Int32).toNatClampNeg)) 12 (x47 : Int32).toNatClampNeg) - x4))
noncomputable def j_X9_folds_13 (p1 : Int32) (p2 : Int32) (x3 : Int32) (x4 : Int32) (x47 : Int32) (g48 : Sg) (k49 : Int32 → Sg → Option (Int32 × Sg)) (x57 : Int32) (x60 : Int32) (x62 : Int32) : Option (Int32 × Sg) :=
  if (p2 &&& 1) = 0 then
    j_X9_folds_14 p1 x3 x4 x47 g48 k49 x57 x60 x62 16
  else
    j_X9_folds_14 p1 x3 x4 x47 g48 k49 x57 x60 x62 0
noncomputable def j_X9_folds_12 (p1 : Int32) (p2 : Int32) (x3 : Int32) (x4 : Int32) (x47 : Int32) (g48 : Sg) (k49 : Int32 → Sg → Option (Int32 × Sg)) (x57 : Int32) (x60 : Int32) : Option (Int32 × Sg) :=
  chk ((((64 * p1) + 64) + 48) + x47) 256 <|
  if (p2 &&& 1) = 0 then
    j_X9_folds_13 p1 p2 x3 x4 x47 g48 k49 x57 x60 16
  else
    j_X9_folds_13 p1 p2 x3 x4 x47 g48 k49 x57 x60 0
noncomputable def j_X9_folds_11 (p1 : Int32) (p2 : Int32) (x3 : Int32) (x4 : Int32) (x47 : Int32) (g48 : Sg) (k49 : Int32 → Sg → Option (Int32 × Sg)) (x57 : Int32) : Option (Int32 × Sg) :=
  chk ((((64 * p1) + 64) + 32) + x47) 256 <|
  chk x47 16 <|
  if ((sg_st g48 9 (((((64 * p1) + 64) + 32) + x47) : Int32).toNatClampNeg x57) 11 (x47 : Int32).toNatClampNeg) = 0 then
    chk (((64 * p1) + 48) + x47) 256 <|
    j_X9_folds_12 p1 p2 x3 x4 x47 g48 k49 x57 ((sg_st g48 9 (((((64 * p1) + 64) + 32) + x47) : Int32).toNatClampNeg x57) 9 ((((64 * p1) + 48) + x47) : Int32).toNatClampNeg)
  else
    chk (((64 * p1) + 48) + x47) 256 <|
    j_X9_folds_12 p1 p2 x3 x4 x47 g48 k49 x57 (1 - ((sg_st g48 9 (((((64 * p1) + 64) + 32) + x47) : Int32).toNatClampNeg x57) 9 ((((64 * p1) + 48) + x47) : Int32).toNatClampNeg))
noncomputable def j_X9_folds_15 (p1 : Int32) (p2 : Int32) (x3 : Int32) (x4 : Int32) (x47 : Int32) (g48 : Sg) (k49 : Int32 → Sg → Option (Int32 × Sg)) (x74 : Int32) : Option (Int32 × Sg) :=
  j_X9_folds_11 p1 p2 x3 x4 x47 g48 k49 ((g48 9 ((((64 * p1) + 32) + x47) : Int32).toNatClampNeg) + x74)
noncomputable def j_X9_folds_16 (p1 : Int32) (p2 : Int32) (x3 : Int32) (x4 : Int32) (x47 : Int32) (g48 : Sg) (k49 : Int32 → Sg → Option (Int32 × Sg)) (z54 : Int32) (x76 : Int32) : Option (Int32 × Sg) :=
  j_X9_folds_11 p1 p2 x3 x4 x47 g48 k49 (((x76 + z54) - 1) - (g48 9 ((((64 * p1) + 32) + x47) : Int32).toNatClampNeg))
noncomputable def s_X9_folds_239q (tr : Int64) (p1 : Int32) (p2 : Int32) (x3 : Int32) (x4 : Int32) (e50 : Sg → Option (Int32 × Sg)) (x47 : Int32) (g48 : Sg) (k49 : Int32 → Sg → Option (Int32 × Sg)) : Option (Int32 × Sg) :=
  (f_X9_cells g48 tr).bind fun z51 =>
  if z51 ≤ x47 then
    e50 g48
  else
    chk (((64 * p1) + 32) + x47) 256 <|
    (f_X9_manyAt g48 tr (64 * p1) (p2 &&& 1) x47 1).bind fun z54 =>
    (f_X9_manyAt g48 tr (64 * p1) (p2 &&& 1) x47 0).bind fun z55 =>
    chk x47 16 <|
    if (g48 11 (x47 : Int32).toNatClampNeg) = 0 then
      if (1 : Int32) = 0 then
        j_X9_folds_15 p1 p2 x3 x4 x47 g48 k49 z54
      else
        j_X9_folds_15 p1 p2 x3 x4 x47 g48 k49 0
    else
      if (1 : Int32) = 0 then
        j_X9_folds_16 p1 p2 x3 x4 x47 g48 k49 z54 0
      else
        j_X9_folds_16 p1 p2 x3 x4 x47 g48 k49 z54 z55
noncomputable def j_X9_folds_2 (tr : Int64) (p1 : Int32) (p2 : Int32) (x3 : Int32) (x4 : Int32) (x5 : Int32) (g6 : Sg) : Option (Int32 × Sg) :=
  if ((p2 >>> (2 &&& 31)) &&& 1) = 1 then
    lc2 (s_X9_folds_239q tr p1 p2 x3 x4 (j_X9_folds_10 p1 p2 x4 x5)) 1000 0 g6
  else
    lc2 (s_X9_folds_239 tr p1 p2 x3 x4 (j_X9_folds_3 p1 p2 x4 x5)) 1000 0 g6
noncomputable def j_X9_folds_19 (x79 : Int32) (x80 : Int32) (g81 : Sg) (k82 : Int32 → Int32 → Int32 → Sg → Option (Int32 × Sg)) (x87 : Int32) (x90 : Int32) (x93 : Int32) : Option (Int32 × Sg) :=
  chk x80 16 <|
  if ((sg_st (sg_st g81 11 (x80 : Int32).toNatClampNeg (vp_nar .boolean x87)) 12 (x80 : Int32).toNatClampNeg x90) 12 (x80 : Int32).toNatClampNeg) ≤ x79 then
    k82 x93 x79 (x80 + 1) (sg_st (sg_st g81 11 (x80 : Int32).toNatClampNeg (vp_nar .boolean x87)) 12 (x80 : Int32).toNatClampNeg x90)
  else
    chk x80 16 <|
    k82 x93 ((sg_st (sg_st g81 11 (x80 : Int32).toNatClampNeg (vp_nar .boolean x87)) 12 (x80 : Int32).toNatClampNeg x90) 12 (x80 : Int32).toNatClampNeg) (x80 + 1) (sg_st (sg_st g81 11 (x80 : Int32).toNatClampNeg (vp_nar .boolean x87)) 12 (x80 : Int32).toNatClampNeg x90)
noncomputable def j_X9_folds_18 (x78 : Int32) (x79 : Int32) (x80 : Int32) (g81 : Sg) (k82 : Int32 → Int32 → Int32 → Sg → Option (Int32 × Sg)) (x87 : Int32) (x90 : Int32) : Option (Int32 × Sg) :=
  chk x80 16 <|
  chk x80 16 <|
  if x78 ≤ ((sg_st (sg_st g81 11 (x80 : Int32).toNatClampNeg (vp_nar .boolean x87)) 12 (x80 : Int32).toNatClampNeg x90) 12 (x80 : Int32).toNatClampNeg) then
    j_X9_folds_19 x79 x80 g81 k82 x87 x90 x78
  else
    chk x80 16 <|
    j_X9_folds_19 x79 x80 g81 k82 x87 x90 ((sg_st (sg_st g81 11 (x80 : Int32).toNatClampNeg (vp_nar .boolean x87)) 12 (x80 : Int32).toNatClampNeg x90) 12 (x80 : Int32).toNatClampNeg)
noncomputable def j_X9_folds_17 (p1 : Int32) (p2 : Int32) (x3 : Int32) (x78 : Int32) (x79 : Int32) (x80 : Int32) (g81 : Sg) (k82 : Int32 → Int32 → Int32 → Sg → Option (Int32 × Sg)) (x87 : Int32) : Option (Int32 × Sg) :=
  chk x80 16 <|
  chk x80 16 <|
  if ((sg_st g81 11 (x80 : Int32).toNatClampNeg (vp_nar .boolean x87)) 11 (x80 : Int32).toNatClampNeg) = 0 then
    j_X9_folds_18 x78 x79 x80 g81 k82 x87 (g81 9 ((((64 * p1) + x3) + x80) : Int32).toNatClampNeg)
  else
    j_X9_folds_18 x78 x79 x80 g81 k82 x87 (((2 * ((p2 / 8) + 1)) - 1) - (g81 9 ((((64 * p1) + x3) + x80) : Int32).toNatClampNeg))
noncomputable def s_X9_folds_65 (tr : Int64) (p1 : Int32) (p2 : Int32) (x3 : Int32) (e83 : Int32 → Int32 → Sg → Option (Int32 × Sg)) (x78 : Int32) (x79 : Int32) (x80 : Int32) (g81 : Sg) (k82 : Int32 → Int32 → Int32 → Sg → Option (Int32 × Sg)) : Option (Int32 × Sg) :=
  (f_X9_cells g81 tr).bind fun z84 =>
  if z84 ≤ x80 then
    e83 x78 x79 g81
  else
    chk (((64 * p1) + x3) + x80) 256 <|
    if ((p2 >>> (1 &&& 31)) &&& 1) = 0 then
      if ((p2 / 8) + 1) ≤ (g81 9 ((((64 * p1) + x3) + x80) : Int32).toNatClampNeg) then
        j_X9_folds_17 p1 p2 x3 x78 x79 x80 g81 k82 0
      else
        j_X9_folds_17 p1 p2 x3 x78 x79 x80 g81 k82 1
    else
      if (g81 9 ((((64 * p1) + x3) + x80) : Int32).toNatClampNeg) < ((p2 / 8) + 1) then
        j_X9_folds_17 p1 p2 x3 x78 x79 x80 g81 k82 0
      else
        j_X9_folds_17 p1 p2 x3 x78 x79 x80 g81 k82 1
noncomputable def j_X9_folds_1 (σ : Sg) (tr : Int64) (p1 : Int32) (p2 : Int32) (x3 : Int32) : Option (Int32 × Sg) :=
  lc4 (s_X9_folds_65 tr p1 p2 x3 (j_X9_folds_2 tr p1 p2 x3)) 1000 100 (-100) 0 σ
noncomputable def f_X9_folds (σ : Sg) (tr : Int64) (p1 : Int32) (p2 : Int32) : Option (Int32 × Sg) :=
  chk ((2 * p1) + (p2 &&& 1)) 8 <|
  if ((p2 / 8) + 1) < (σ 10 (((2 * p1) + (p2 &&& 1)) : Int32).toNatClampNeg) then
    if (p2 &&& 1) = 0 then
      j_X9_folds_1 σ tr p1 p2 0
    else
      j_X9_folds_1 σ tr p1 p2 16
  else
    some (0, σ)
noncomputable def s_X9_now_6 (tr : Int64) (p1 : Int32) (x2 : Int32) (g3 : Sg) (k4 : Int32 → Sg → Option (Sg)) : Option (Sg) :=
  if p1 ≤ x2 then
    some g3
  else
    chk (2 + x2) 40 <|
    (f_X9_folds g3 tr 0 (g3 4 ((2 + x2) : Int32).toNatClampNeg)).bind fun z7 =>
    if z7.1 = 0 then
      k4 (x2 + 1) z7.2
    else
      (f_X9_falls z7.2 tr 1).bind fun z9 =>
      k4 (x2 + 1) z9
noncomputable def f_X9_now (σ : Sg) (tr : Int64) (p1 : Int32) : Option (Sg) :=
  (f_X9_flat σ tr).bind fun z1 =>
  lc2 (s_X9_now_6 tr p1) 1000 0 z1
noncomputable def s_X9_at_31 (tr : Int64) (p1 : Int32) (p2 : Int32) (p3 : Int32) (z5 : Sg) (x6 : Int32) (x7 : Int32) (k8 : Int32 → Int32 → Option (Int32 × Sg)) : Option (Int32 × Sg) :=
  (f_X9_cells z5 tr).bind fun z9 =>
  if z9 ≤ x7 then
    some (x6, z5)
  else
    chk x7 256 <|
    if (z5 9 (x7 : Int32).toNatClampNeg) = p1 then
      chk (16 + x7) 256 <|
      if (z5 9 ((16 + x7) : Int32).toNatClampNeg) = p2 then
        chk (32 + x7) 256 <|
        if (z5 9 ((32 + x7) : Int32).toNatClampNeg) = p3 then
          k8 x7 (x7 + 1)
        else
          k8 x6 (x7 + 1)
      else
        k8 x6 (x7 + 1)
    else
      k8 x6 (x7 + 1)
noncomputable def f_X9_at (σ : Sg) (tr : Int64) (p1 : Int32) (p2 : Int32) (p3 : Int32) : Option (Int32 × Sg) :=
  if p1 < 0 then
    some ((-1), σ)
  else
    if p2 < 0 then
      some ((-1), σ)
    else
      if 0 ≤ p3 then
        chk 1 40 <|
        (f_X9_now σ tr (σ 4 (1 : Int32).toNatClampNeg)).bind fun z5 =>
        lc2 (s_X9_at_31 tr p1 p2 p3 z5) 1000 (-9) 0
      else
        some ((-1), σ)
noncomputable def j_X9_back_1 (g5 : Sg) : Option (Int32 × Sg) :=
  chk 0 40 <|
  some ((g5 4 (0 : Int32).toNatClampNeg), g5)
noncomputable def s_X9_back_25 (p1 : Int32) (e10 : Sg → Option (Int32 × Sg)) (x7 : Int32) (g8 : Sg) (k9 : Int32 → Sg → Option (Int32 × Sg)) : Option (Int32 × Sg) :=
  if 40 ≤ x7 then
    e10 g8
  else
    chk ((40 * p1) + x7) 80 <|
    chk x7 40 <|
    k9 (x7 + 1) (sg_st g8 4 (x7 : Int32).toNatClampNeg (g8 5 (((40 * p1) + x7) : Int32).toNatClampNeg))
noncomputable def f_X9_back (σ : Sg) (tr : Int64) (p1 : Int32) : Option (Int32 × Sg) :=
  (f_X9_in p1 0 1).bind fun z1 =>
  if z1 = 0 then
    some ((-1), σ)
  else
    chk p1 2 <|
    if (σ 6 (p1 : Int32).toNatClampNeg) = 0 then
      some ((-2), σ)
    else
      lc2 (s_X9_back_25 p1 j_X9_back_1) 1000 0 σ
noncomputable def j_X9_bends_3 (σ : Sg) (p2 : Int32) (p3 : Int32) (p4 : Int32) (x1 : Int32) : Option (Int32) :=
  if (σ 9 ((x1 + p3) : Int32).toNatClampNeg) = p2 then
    if (σ 9 ((x1 + p4) : Int32).toNatClampNeg) = (p2 - 1) then
      some 1
    else
      some 0
  else
    some 0
noncomputable def j_X9_bends_2 (σ : Sg) (p2 : Int32) (p3 : Int32) (p4 : Int32) (x1 : Int32) (x2 : Int32) : Option (Int32) :=
  chk (x1 + p3) 256 <|
  chk (x1 + p4) 256 <|
  chk (x2 + p3) 256 <|
  chk (x2 + p4) 256 <|
  if (σ 9 ((x2 + p3) : Int32).toNatClampNeg) = (σ 9 ((x2 + p4) : Int32).toNatClampNeg) then
    if (σ 9 ((x1 + p3) : Int32).toNatClampNeg) = (p2 - 1) then
      if (σ 9 ((x1 + p4) : Int32).toNatClampNeg) = p2 then
        some 1
      else
        j_X9_bends_3 σ p2 p3 p4 x1
    else
      j_X9_bends_3 σ p2 p3 p4 x1
  else
    some 0
noncomputable def j_X9_bends_1 (σ : Sg) (p1 : Int32) (p2 : Int32) (p3 : Int32) (p4 : Int32) (x1 : Int32) : Option (Int32) :=
  if p1 = 0 then
    j_X9_bends_2 σ p2 p3 p4 x1 16
  else
    j_X9_bends_2 σ p2 p3 p4 x1 0
noncomputable def f_X9_bends (σ : Sg) (tr : Int64) (p1 : Int32) (p2 : Int32) (p3 : Int32) (p4 : Int32) : Option (Int32) :=
  if p1 = 0 then
    j_X9_bends_1 σ p1 p2 p3 p4 0
  else
    j_X9_bends_1 σ p1 p2 p3 p4 16
noncomputable def f_X9_neighbour (σ : Sg) (tr : Int64) (p1 : Int32) (p2 : Int32) : Option (Int32) :=
  chk 0 35 <|
  if p2 = 0 then
    cnz (σ 2 (0 : Int32).toNatClampNeg) <|
    if ((σ 2 (0 : Int32).toNatClampNeg) - 1) ≤ (p1 - p1 / (σ 2 (0 : Int32).toNatClampNeg) * (σ 2 (0 : Int32).toNatClampNeg)) then
      some (-9)
    else
      some (p1 + 1)
  else
    (f_X9_cells σ tr).bind fun z3 =>
    if z3 ≤ (p1 + (σ 2 (0 : Int32).toNatClampNeg)) then
      some (-9)
    else
      some (p1 + (σ 2 (0 : Int32).toNatClampNeg))
noncomputable def j_X9_bendsAll_1 (tr : Int64) (p1 : Int32) (p2 : Int32) (x2 : Int32) (x7 : Int32) (x8 : Int32) (g9 : Sg) (k10 : Int32 → Int32 → Sg → Option (Int32 × Sg)) (z12 : Int32) (x13 : Int32) : Option (Int32 × Sg) :=
  if z12 = (-9) then
    k10 x7 (x8 + 1) g9
  else
    (f_X9_bends g9 tr (p1 &&& 1) ((p1 / 8) + 1) x2 z12).bind fun z15 =>
    if z15 = 0 then
      k10 x7 (x8 + 1) g9
    else
      chk (x13 + x2) 40 <|
      chk (x13 + x2) 40 <|
      chk (x13 + x2) 40 <|
      if ((sg_st g9 4 ((x13 + x2) : Int32).toNatClampNeg ((g9 4 ((x13 + x2) : Int32).toNatClampNeg) + p2)) 4 ((x13 + x2) : Int32).toNatClampNeg) ≤ x7 then
        k10 x7 (x8 + 1) (sg_st g9 4 ((x13 + x2) : Int32).toNatClampNeg ((g9 4 ((x13 + x2) : Int32).toNatClampNeg) + p2))
      else
        chk (x13 + x2) 40 <|
        k10 ((sg_st g9 4 ((x13 + x2) : Int32).toNatClampNeg ((g9 4 ((x13 + x2) : Int32).toNatClampNeg) + p2)) 4 ((x13 + x2) : Int32).toNatClampNeg) (x8 + 1) (sg_st g9 4 ((x13 + x2) : Int32).toNatClampNeg ((g9 4 ((x13 + x2) : Int32).toNatClampNeg) + p2))
noncomputable def s_X9_bendsAll_17 (tr : Int64) (p1 : Int32) (p2 : Int32) (x2 : Int32) (k4 : Int32 → Int32 → Sg → Option (Int32 × Sg)) (x7 : Int32) (x8 : Int32) (g9 : Sg) (k10 : Int32 → Int32 → Sg → Option (Int32 × Sg)) : Option (Int32 × Sg) :=
  if 2 ≤ x8 then
    k4 x7 (x2 + 1) g9
  else
    (f_X9_neighbour g9 tr x2 x8).bind fun z12 =>
    if x8 = 0 then
      j_X9_bendsAll_1 tr p1 p2 x2 x7 x8 g9 k10 z12 8
    else
      j_X9_bendsAll_1 tr p1 p2 x2 x7 x8 g9 k10 z12 24
noncomputable def s_X9_bendsAll_5 (tr : Int64) (p1 : Int32) (p2 : Int32) (x1 : Int32) (x2 : Int32) (g3 : Sg) (k4 : Int32 → Int32 → Sg → Option (Int32 × Sg)) : Option (Int32 × Sg) :=
  (f_X9_cells g3 tr).bind fun z5 =>
  if z5 ≤ x2 then
    some (x1, g3)
  else
    lc3 (s_X9_bendsAll_17 tr p1 p2 x2 k4) 1000 x1 0 g3
noncomputable def f_X9_bendsAll (σ : Sg) (tr : Int64) (p1 : Int32) (p2 : Int32) : Option (Int32 × Sg) :=
  lc3 (s_X9_bendsAll_5 tr p1 p2) 1000 0 0 σ
noncomputable def j_X9_bent_2 (σ : Sg) (tr : Int64) (x3 : Int32) (x4 : Int32) : Option (Int32) :=
  (f_X9_neighbour σ tr x3 0).bind fun z5 =>
  if z5 = x4 then
    chk (8 + x3) 40 <|
    some (σ 4 ((8 + x3) : Int32).toNatClampNeg)
  else
    (f_X9_neighbour σ tr x3 1).bind fun z7 =>
    if z7 = x4 then
      chk (24 + x3) 40 <|
      some (σ 4 ((24 + x3) : Int32).toNatClampNeg)
    else
      some (-1)
noncomputable def j_X9_bent_1 (σ : Sg) (tr : Int64) (p1 : Int32) (p2 : Int32) (x3 : Int32) : Option (Int32) :=
  if p2 ≤ p1 then
    j_X9_bent_2 σ tr x3 p1
  else
    j_X9_bent_2 σ tr x3 p2
noncomputable def f_X9_bent (σ : Sg) (tr : Int64) (p1 : Int32) (p2 : Int32) : Option (Int32) :=
  (f_X9_areTwo σ tr p1 p2).bind fun z1 =>
  if z1 = 0 then
    some (-1)
  else
    if p2 ≤ p1 then
      j_X9_bent_1 σ tr p1 p2 p2
    else
      j_X9_bent_1 σ tr p1 p2 p1
noncomputable def f_X9_byteAt (σ : Sg) (tr : Int64) (p1 : Int32) : Option (Int32) :=
  if (σ 0 2) ≤ p1 then
    some (-1)
  else
    chk p1 200 <|
    some (σ 1 (p1 : Int32).toNatClampNeg)
noncomputable def j_X9_touches_6 (x12 : Int32) (x14 : Int32) : Option (Int32) :=
  if x12 = 0 then
    if x14 = 0 then
      some 2
    else
      some 3
  else
    some 3
noncomputable def j_X9_touches_5 (x12 : Int32) (x14 : Int32) : Option (Int32) :=
  if x12 = 0 then
    j_X9_touches_6 x12 x14
  else
    if x14 = 0 then
      j_X9_touches_6 x12 x14
    else
      some 1
noncomputable def j_X9_touches_4 (σ : Sg) (p1 : Int32) (x10 : Int32) (x12 : Int32) : Option (Int32) :=
  chk (((64 * p1) + 48) + x10) 256 <|
  if (σ 9 ((((64 * p1) + 48) + x10) : Int32).toNatClampNeg) = 0 then
    j_X9_touches_5 x12 1
  else
    j_X9_touches_5 x12 0
noncomputable def j_X9_touches_3 (σ : Sg) (p1 : Int32) (x9 : Int32) (x10 : Int32) : Option (Int32) :=
  chk (((64 * p1) + 48) + x9) 256 <|
  if (σ 9 ((((64 * p1) + 48) + x9) : Int32).toNatClampNeg) = 1 then
    j_X9_touches_4 σ p1 x10 1
  else
    j_X9_touches_4 σ p1 x10 0
noncomputable def j_X9_touches_2 (σ : Sg) (p1 : Int32) (p2 : Int32) (p3 : Int32) (x9 : Int32) : Option (Int32) :=
  if ((σ 9 ((((64 * p1) + 32) + p3) : Int32).toNatClampNeg) - (σ 9 ((((64 * p1) + 32) + p2) : Int32).toNatClampNeg)) = 1 then
    j_X9_touches_3 σ p1 x9 p3
  else
    j_X9_touches_3 σ p1 x9 p2
noncomputable def j_X9_touches_1 (σ : Sg) (p1 : Int32) (p2 : Int32) (p3 : Int32) : Option (Int32) :=
  if ((σ 9 ((((64 * p1) + 32) + p3) : Int32).toNatClampNeg) - (σ 9 ((((64 * p1) + 32) + p2) : Int32).toNatClampNeg)) = 1 then
    j_X9_touches_2 σ p1 p2 p3 p2
  else
    j_X9_touches_2 σ p1 p2 p3 p3
noncomputable def f_X9_touches (σ : Sg) (tr : Int64) (p1 : Int32) (p2 : Int32) (p3 : Int32) : Option (Int32) :=
  chk (((64 * p1) + 32) + p3) 256 <|
  chk (((64 * p1) + 32) + p2) 256 <|
  chk ((64 * p1) + p2) 256 <|
  chk ((64 * p1) + p3) 256 <|
  if (σ 9 (((64 * p1) + p2) : Int32).toNatClampNeg) = (σ 9 (((64 * p1) + p3) : Int32).toNatClampNeg) then
    chk (((64 * p1) + 16) + p2) 256 <|
    chk (((64 * p1) + 16) + p3) 256 <|
    if (σ 9 ((((64 * p1) + 16) + p2) : Int32).toNatClampNeg) = (σ 9 ((((64 * p1) + 16) + p3) : Int32).toNatClampNeg) then
      if ((σ 9 ((((64 * p1) + 32) + p3) : Int32).toNatClampNeg) - (σ 9 ((((64 * p1) + 32) + p2) : Int32).toNatClampNeg)) = 1 then
        j_X9_touches_1 σ p1 p2 p3
      else
        if ((σ 9 ((((64 * p1) + 32) + p3) : Int32).toNatClampNeg) - (σ 9 ((((64 * p1) + 32) + p2) : Int32).toNatClampNeg)) = (-1) then
          j_X9_touches_1 σ p1 p2 p3
        else
          some 0
    else
      some 0
  else
    some 0
noncomputable def j_X9_gain_1 (x1 : Int32) (x2 : Int32) (k3 : Int32 → Int32 → Option (Int32)) (x6 : Int32) : Option (Int32) :=
  k3 (x1 + x6) (x2 + 1)
noncomputable def s_X9_gain_5 (σ : Sg) (tr : Int64) (p1 : Int32) (p2 : Int32) (x1 : Int32) (x2 : Int32) (k3 : Int32 → Int32 → Option (Int32)) : Option (Int32) :=
  (f_X9_cells σ tr).bind fun z4 =>
  if z4 ≤ x2 then
    some x1
  else
    if x2 = p2 then
      j_X9_gain_1 x1 x2 k3 0
    else
      (f_X9_touches σ tr p1 p2 x2).bind fun z8 =>
      if z8 = 1 then
        chk (6 + x2) 35 <|
        j_X9_gain_1 x1 x2 k3 (σ 2 ((6 + x2) : Int32).toNatClampNeg)
      else
        j_X9_gain_1 x1 x2 k3 0
noncomputable def f_X9_gain (σ : Sg) (tr : Int64) (p1 : Int32) (p2 : Int32) : Option (Int32) :=
  lc2 (s_X9_gain_5 σ tr p1 p2) 1000 0 0
noncomputable def f_X9_cell (σ : Sg) (tr : Int64) (p1 : Int32) (p2 : Int32) : Option (Int32 × Sg) :=
  (f_X9_isCell σ tr p1).bind fun z1 =>
  if z1 = 0 then
    some ((-1), σ)
  else
    (f_X9_in p2 0 5).bind fun z3 =>
    if z3 = 0 then
      some ((-1), σ)
    else
      chk 1 40 <|
      (f_X9_now σ tr (σ 4 (1 : Int32).toNatClampNeg)).bind fun z6 =>
      if 4 ≤ p2 then
        if p2 = 4 then
          chk (6 + p1) 35 <|
          some ((z6 2 ((6 + p1) : Int32).toNatClampNeg), z6)
        else
          (f_X9_gain z6 tr 0 p1).bind fun z9 =>
          some (z9, z6)
      else
        chk ((16 * p2) + p1) 256 <|
        some ((z6 9 (((16 * p2) + p1) : Int32).toNatClampNeg), z6)
noncomputable def f_X9_clear (σ : Sg) (tr : Int64) : Option (Int32 × Sg) :=
  some ((σ 0 2), (sg_st σ 0 2 0))
noncomputable def j_X9_count_1 (σ : Sg) (p1 : Int32) (x3 : Int32) : Option (Int32) :=
  if 4 ≤ p1 then
    if p1 = 4 then
      some (σ 0 10)
    else
      if p1 = 5 then
        chk 0 40 <|
        some (σ 4 (0 : Int32).toNatClampNeg)
      else
        if p1 = 6 then
          chk 1 40 <|
          some (σ 4 (1 : Int32).toNatClampNeg)
        else
          some (σ 0 2)
  else
    some x3
noncomputable def f_X9_count (σ : Sg) (tr : Int64) (p1 : Int32) : Option (Int32) :=
  (f_X9_in p1 0 7).bind fun z1 =>
  if z1 = 0 then
    some (-1)
  else
    if p1 = 0 then
      chk 0 35 <|
      j_X9_count_1 σ p1 (σ 2 (0 : Int32).toNatClampNeg)
    else
      if p1 = 1 then
        chk 1 35 <|
        j_X9_count_1 σ p1 (σ 2 (1 : Int32).toNatClampNeg)
      else
        if p1 = 2 then
          chk 3 35 <|
          j_X9_count_1 σ p1 (σ 2 (3 : Int32).toNatClampNeg)
        else
          chk 2 35 <|
          j_X9_count_1 σ p1 (σ 2 (2 : Int32).toNatClampNeg)
noncomputable def f_X9_day (σ : Sg) (tr : Int64) : Option (Int32 × Sg) :=
  chk 1 40 <|
  chk 0 40 <|
  chk 0 40 <|
  chk 0 40 <|
  some (((sg_st (sg_st σ 4 (1 : Int32).toNatClampNeg 0) 4 (0 : Int32).toNatClampNeg (((sg_st σ 4 (1 : Int32).toNatClampNeg 0) 4 (0 : Int32).toNatClampNeg) + 1)) 4 (0 : Int32).toNatClampNeg), (sg_st (sg_st σ 4 (1 : Int32).toNatClampNeg 0) 4 (0 : Int32).toNatClampNeg (((sg_st σ 4 (1 : Int32).toNatClampNeg 0) 4 (0 : Int32).toNatClampNeg) + 1)))
noncomputable def f_X9_draftCells (σ : Sg) (tr : Int64) : Option (Int32) :=
  chk 0 35 <|
  chk 1 35 <|
  some ((σ 3 (0 : Int32).toNatClampNeg) * (σ 3 (1 : Int32).toNatClampNeg))
noncomputable def j_X9_fitsAt_1 (x1 : Int32) : Option (Int32) :=
  if x1 = 0 then
    some 0
  else
    some 1
noncomputable def s_X9_fitsAt_4 (σ : Sg) (tr : Int64) (p1 : Int32) (e6 : Int32 → Option (Int32)) (x3 : Int32) (x4 : Int32) (k5 : Int32 → Int32 → Option (Int32)) : Option (Int32) :=
  if (σ 0 10) ≤ x4 then
    e6 x3
  else
    if x3 = 0 then
      k5 0 (x4 + 1)
    else
      chk x4 6 <|
      chk x4 6 <|
      (f_X9_touches σ tr p1 (σ 7 (x4 : Int32).toNatClampNeg) (σ 8 (x4 : Int32).toNatClampNeg)).bind fun z11 =>
      if z11 ≤ 0 then
        k5 0 (x4 + 1)
      else
        k5 1 (x4 + 1)
noncomputable def f_X9_fitsAt (σ : Sg) (tr : Int64) (p1 : Int32) : Option (Int32) :=
  lc2 (s_X9_fitsAt_4 σ tr p1 j_X9_fitsAt_1) 1000 1 0
noncomputable def j_X9_fits_2 (x13 : Int32) (x14 : Int32) (k16 : Int32 → Int32 → Sg → Option (Int32 × Sg)) (z20 : Int32 × Sg) (x21 : Int32) : Option (Int32 × Sg) :=
  k16 (x13 + x21) (x14 + 1) z20.2
noncomputable def s_X9_fits_74 (tr : Int64) (p1 : Int32) (x6 : Int32) (k8 : Int32 → Int32 → Sg → Option (Int32 × Sg)) (z11 : Int32 × Sg) (x13 : Int32) (x14 : Int32) (g15 : Sg) (k16 : Int32 → Int32 → Sg → Option (Int32 × Sg)) : Option (Int32 × Sg) :=
  if 24 ≤ x14 then
    k8 x13 (x6 + 1) g15
  else
    if z11.1 = 0 then
      k8 x13 (x6 + 1) g15
    else
      if p1 = 2 then
        (f_X9_folds g15 tr 1 x14).bind fun z20 =>
        if z20.1 = 0 then
          j_X9_fits_2 x13 x14 k16 z20 0
        else
          (f_X9_fitsAt z20.2 tr 2).bind fun z23 =>
          j_X9_fits_2 x13 x14 k16 z20 z23
      else
        k8 x13 (x6 + 1) g15
noncomputable def j_X9_fits_1 (tr : Int64) (p1 : Int32) (x5 : Int32) (x6 : Int32) (k8 : Int32 → Int32 → Sg → Option (Int32 × Sg)) (z11 : Int32 × Sg) (x12 : Int32) : Option (Int32 × Sg) :=
  lc3 (s_X9_fits_74 tr p1 x6 k8 z11) 1000 (x5 + x12) 0 z11.2
noncomputable def s_X9_fits_31 (tr : Int64) (p1 : Int32) (x5 : Int32) (x6 : Int32) (g7 : Sg) (k8 : Int32 → Int32 → Sg → Option (Int32 × Sg)) : Option (Int32 × Sg) :=
  if 24 ≤ x6 then
    some (x5, g7)
  else
    if p1 ≤ 0 then
      some (x5, g7)
    else
      (f_X9_folds g7 tr 0 x6).bind fun z11 =>
      if z11.1 = 0 then
        j_X9_fits_1 tr p1 x5 x6 k8 z11 0
      else
        if p1 = 1 then
          (f_X9_fitsAt z11.2 tr 1).bind fun z26 =>
          j_X9_fits_1 tr p1 x5 x6 k8 z11 z26
        else
          j_X9_fits_1 tr p1 x5 x6 k8 z11 0
noncomputable def j_X9_fits_4 (x36 : Int32) (x37 : Int32) (k39 : Int32 → Int32 → Sg → Option (Int32 × Sg)) (z43 : Int32 × Sg) (x44 : Int32) : Option (Int32 × Sg) :=
  k39 (x36 + x44) (x37 + 1) z43.2
noncomputable def s_X9_fits_74q (tr : Int64) (p1 : Int32) (x29 : Int32) (k31 : Int32 → Int32 → Sg → Option (Int32 × Sg)) (z34 : Int32 × Sg) (x36 : Int32) (x37 : Int32) (g38 : Sg) (k39 : Int32 → Int32 → Sg → Option (Int32 × Sg)) : Option (Int32 × Sg) :=
  if 24 ≤ x37 then
    k31 x36 (x29 + 1) g38
  else
    if z34.1 = 0 then
      k31 x36 (x29 + 1) g38
    else
      if p1 = 2 then
        (f_X9_folds g38 tr 1 x37).bind fun z43 =>
        if z43.1 = 0 then
          j_X9_fits_4 x36 x37 k39 z43 0
        else
          (f_X9_fitsAt z43.2 tr 2).bind fun z46 =>
          j_X9_fits_4 x36 x37 k39 z43 z46
      else
        k31 x36 (x29 + 1) g38
noncomputable def j_X9_fits_3 (tr : Int64) (p1 : Int32) (x28 : Int32) (x29 : Int32) (k31 : Int32 → Int32 → Sg → Option (Int32 × Sg)) (z34 : Int32 × Sg) (x35 : Int32) : Option (Int32 × Sg) :=
  lc3 (s_X9_fits_74q tr p1 x29 k31 z34) 1000 (x28 + x35) 0 z34.2
noncomputable def s_X9_fits_31q (tr : Int64) (p1 : Int32) (x28 : Int32) (x29 : Int32) (g30 : Sg) (k31 : Int32 → Int32 → Sg → Option (Int32 × Sg)) : Option (Int32 × Sg) :=
  if 24 ≤ x29 then
    some (x28, g30)
  else
    if p1 ≤ 0 then
      some (x28, g30)
    else
      (f_X9_folds g30 tr 0 x29).bind fun z34 =>
      if z34.1 = 0 then
        j_X9_fits_3 tr p1 x28 x29 k31 z34 0
      else
        if p1 = 1 then
          (f_X9_fitsAt z34.2 tr 1).bind fun z49 =>
          j_X9_fits_3 tr p1 x28 x29 k31 z34 z49
        else
          j_X9_fits_3 tr p1 x28 x29 k31 z34 0
noncomputable def f_X9_fits (σ : Sg) (tr : Int64) (p1 : Int32) : Option (Int32 × Sg) :=
  (f_X9_in p1 0 2).bind fun z1 =>
  if z1 = 0 then
    some ((-1), σ)
  else
    (f_X9_flat σ tr).bind fun z3 =>
    if p1 = 0 then
      (f_X9_fitsAt z3 tr 0).bind fun z27 =>
      lc3 (s_X9_fits_31q tr p1) 1000 z27 0 z3
    else
      lc3 (s_X9_fits_31 tr p1) 1000 0 0 z3
noncomputable def j_X9_thick_1 (x1 : Int32) : Option (Int32) :=
  some (x1 + 1)
noncomputable def s_X9_thick_4 (σ : Sg) (tr : Int64) (e5 : Int32 → Option (Int32)) (x2 : Int32) (x3 : Int32) (k4 : Int32 → Int32 → Option (Int32)) : Option (Int32) :=
  (f_X9_cells σ tr).bind fun z6 =>
  if z6 ≤ x3 then
    e5 x2
  else
    chk (32 + x3) 256 <|
    if (σ 9 ((32 + x3) : Int32).toNatClampNeg) ≤ x2 then
      k4 x2 (x3 + 1)
    else
      chk (32 + x3) 256 <|
      k4 (σ 9 ((32 + x3) : Int32).toNatClampNeg) (x3 + 1)
noncomputable def f_X9_thick (σ : Sg) (tr : Int64) : Option (Int32) :=
  lc2 (s_X9_thick_4 σ tr j_X9_thick_1) 1000 0 0
noncomputable def f_X9_fold (σ : Sg) (tr : Int64) (p1 : Int32) (p2 : Int32) (p3 : Int32) (p4 : Int32) : Option (Int32 × Sg) :=
  (f_X9_in p1 0 1).bind fun z1 =>
  if z1 = 0 then
    some ((-1), σ)
  else
    (f_X9_in p2 1 3).bind fun z3 =>
    if z3 = 0 then
      some ((-1), σ)
    else
      (f_X9_in p3 0 1).bind fun z5 =>
      if z5 = 0 then
        some ((-1), σ)
      else
        (f_X9_in p4 0 1).bind fun z7 =>
        if z7 = 0 then
          some ((-1), σ)
        else
          chk 1 40 <|
          (f_X9_now σ tr (σ 4 (1 : Int32).toNatClampNeg)).bind fun z10 =>
          chk p1 8 <|
          if p2 < (z10 10 (p1 : Int32).toNatClampNeg) then
            (f_X9_bendsAll z10 tr (((p1 + (2 * p3)) + (4 * p4)) + (8 * (p2 - 1))) 1).bind fun z13 =>
            chk 2 35 <|
            if z13.1 ≤ (z13.2 2 (2 : Int32).toNatClampNeg) then
              chk 1 40 <|
              chk (2 + (z13.2 4 (1 : Int32).toNatClampNeg)) 40 <|
              chk 1 40 <|
              chk 1 40 <|
              chk 1 40 <|
              (f_X9_now (sg_st (sg_st z13.2 4 ((2 + (z13.2 4 (1 : Int32).toNatClampNeg)) : Int32).toNatClampNeg (((p1 + (2 * p3)) + (4 * p4)) + (8 * (p2 - 1)))) 4 (1 : Int32).toNatClampNeg (((sg_st z13.2 4 ((2 + (z13.2 4 (1 : Int32).toNatClampNeg)) : Int32).toNatClampNeg (((p1 + (2 * p3)) + (4 * p4)) + (8 * (p2 - 1)))) 4 (1 : Int32).toNatClampNeg) + 1)) tr ((sg_st (sg_st z13.2 4 ((2 + (z13.2 4 (1 : Int32).toNatClampNeg)) : Int32).toNatClampNeg (((p1 + (2 * p3)) + (4 * p4)) + (8 * (p2 - 1)))) 4 (1 : Int32).toNatClampNeg (((sg_st z13.2 4 ((2 + (z13.2 4 (1 : Int32).toNatClampNeg)) : Int32).toNatClampNeg (((p1 + (2 * p3)) + (4 * p4)) + (8 * (p2 - 1)))) 4 (1 : Int32).toNatClampNeg) + 1)) 4 (1 : Int32).toNatClampNeg)).bind fun z21 =>
              (f_X9_thick z21 tr).bind fun z22 =>
              some (z22, z21)
            else
              (f_X9_bendsAll z13.2 tr (((p1 + (2 * p3)) + (4 * p4)) + (8 * (p2 - 1))) (-1)).bind fun z23 =>
              some ((-2), z23.2)
          else
            some ((-2), z10)
noncomputable def f_X9_forget (σ : Sg) (tr : Int64) : Option (Int32 × Sg) :=
  some ((σ 0 10), (sg_st σ 0 10 0))
noncomputable def j_X9_keep_1 (p1 : Int32) (g3 : Sg) : Option (Int32 × Sg) :=
  chk p1 2 <|
  chk 0 40 <|
  some (((sg_st g3 6 (p1 : Int32).toNatClampNeg (vp_nar .boolean 1)) 4 (0 : Int32).toNatClampNeg), (sg_st g3 6 (p1 : Int32).toNatClampNeg (vp_nar .boolean 1)))
noncomputable def s_X9_keep_13 (p1 : Int32) (e9 : Sg → Option (Int32 × Sg)) (x6 : Int32) (g7 : Sg) (k8 : Int32 → Sg → Option (Int32 × Sg)) : Option (Int32 × Sg) :=
  if 40 ≤ x6 then
    e9 g7
  else
    chk x6 40 <|
    chk ((40 * p1) + x6) 80 <|
    k8 (x6 + 1) (sg_st g7 5 (((40 * p1) + x6) : Int32).toNatClampNeg (g7 4 (x6 : Int32).toNatClampNeg))
noncomputable def f_X9_keep (σ : Sg) (tr : Int64) (p1 : Int32) : Option (Int32 × Sg) :=
  (f_X9_in p1 0 1).bind fun z1 =>
  if z1 = 0 then
    some ((-1), σ)
  else
    lc2 (s_X9_keep_13 p1 (j_X9_keep_1 p1)) 1000 0 σ
noncomputable def f_X9_sortOf (p1 : Int32) : Option (Int32) :=
  if 0 ≤ p1 then
    (f_X9_in p1 97 122).bind fun z2 =>
    if z2 = 0 then
      (f_X9_in p1 48 57).bind fun z4 =>
      if z4 = 0 then
        if p1 = 59 then
          some 3
        else
          some 4
      else
        some 2
    else
      some 1
  else
    some 0
noncomputable def j_X9_token_2 (g4 : Sg) (k5 : Sg → Option (Sg)) : Option (Sg) :=
  k5 (sg_st (sg_st g4 0 11 ((g4 0 11) + 1)) 0 14 (((sg_st g4 0 11 ((g4 0 11) + 1)) 0 14) + 1))
noncomputable def j_X9_token_4 (tr : Int64) (g4 : Sg) (k5 : Sg → Option (Sg)) : Option (Sg) :=
  (f_X9_byteAt g4 tr (g4 0 11)).bind fun z6 =>
  (f_X9_sortOf z6).bind fun z7 =>
  if z7 = (g4 0 12) then
    j_X9_token_2 g4 k5
  else
    some g4
noncomputable def j_X9_token_3 (tr : Int64) (g4 : Sg) (k5 : Sg → Option (Sg)) : Option (Sg) :=
  if (g4 0 12) = 1 then
    j_X9_token_4 tr g4 k5
  else
    if (g4 0 12) = 2 then
      j_X9_token_4 tr g4 k5
    else
      some g4
noncomputable def s_X9_token_54 (tr : Int64) (g4 : Sg) (k5 : Sg → Option (Sg)) : Option (Sg) :=
  if (g4 0 14) = 0 then
    if (g4 0 12) = 0 then
      j_X9_token_3 tr g4 k5
    else
      j_X9_token_2 g4 k5
  else
    j_X9_token_3 tr g4 k5
noncomputable def j_X9_token_1 (tr : Int64) (g1 : Sg) : Option (Sg) :=
  (f_X9_byteAt (sg_st g1 0 13 (g1 0 11)) tr ((sg_st g1 0 13 (g1 0 11)) 0 11)).bind fun z2 =>
  (f_X9_sortOf z2).bind fun z3 =>
  lc1 (s_X9_token_54 tr) 1000 (sg_st (sg_st (sg_st g1 0 13 (g1 0 11)) 0 12 z3) 0 14 0)
noncomputable def s_X9_token_0 (tr : Int64) (e15 : Sg → Option (Sg)) (g13 : Sg) (k14 : Sg → Option (Sg)) : Option (Sg) :=
  (f_X9_byteAt g13 tr (g13 0 11)).bind fun z16 =>
  if z16 = 32 then
    k14 (sg_st g13 0 11 ((g13 0 11) + 1))
  else
    e15 g13
noncomputable def f_X9_token (σ : Sg) (tr : Int64) : Option (Sg) :=
  lc1 (s_X9_token_0 tr (j_X9_token_1 tr)) 1000 σ
noncomputable def j_X9_number_2 (p1 : Int32) (p2 : Int32) (z1 : Sg) (x3 : Int32) : Option (Int32 × Sg) :=
  (f_X9_in x3 p1 p2).bind fun z5 =>
  if z5 = 0 then
    some ((-9), z1)
  else
    some (x3, z1)
noncomputable def j_X9_number_1 (p1 : Int32) (p2 : Int32) (z1 : Sg) (z2 : Int32) (x3 : Int32) : Option (Int32 × Sg) :=
  if (z1 0 12) = 2 then
    if (z1 0 14) = 1 then
      j_X9_number_2 p1 p2 z1 x3
    else
      if (z1 0 14) = 2 then
        if (z2 - 48) ≤ 0 then
          some ((-9), z1)
        else
          j_X9_number_2 p1 p2 z1 x3
      else
        some ((-9), z1)
  else
    some ((-9), z1)
noncomputable def f_X9_number (σ : Sg) (tr : Int64) (p1 : Int32) (p2 : Int32) : Option (Int32 × Sg) :=
  (f_X9_token σ tr).bind fun z1 =>
  (f_X9_byteAt z1 tr (z1 0 13)).bind fun z2 =>
  if (z1 0 14) = 2 then
    (f_X9_byteAt z1 tr ((z1 0 13) + 1)).bind fun z11 =>
    j_X9_number_1 p1 p2 z1 z2 (((10 * (z2 - 48)) + z11) - 48)
  else
    j_X9_number_1 p1 p2 z1 z2 (z2 - 48)
noncomputable def j_X9_readsMap_1 (tr : Int64) (x2 : Int32) (g3 : Sg) : Option (Int32 × Sg) :=
  if x2 = (-9) then
    some (0, g3)
  else
    (f_X9_number g3 tr 1 4).bind fun z5 =>
    chk 0 35 <|
    chk 1 35 <|
    if z5.1 = (-9) then
      some (0, (sg_st (sg_st z5.2 3 (0 : Int32).toNatClampNeg x2) 3 (1 : Int32).toNatClampNeg z5.1))
    else
      some (1, (sg_st (sg_st z5.2 3 (0 : Int32).toNatClampNeg x2) 3 (1 : Int32).toNatClampNeg z5.1))
noncomputable def f_X9_readsMap (σ : Sg) (tr : Int64) : Option (Int32 × Sg) :=
  chk 4 35 <|
  if (σ 3 (4 : Int32).toNatClampNeg) ≤ 0 then
    (f_X9_number σ tr 1 4).bind fun z10 =>
    j_X9_readsMap_1 tr z10.1 z10.2
  else
    j_X9_readsMap_1 tr (-9) σ
noncomputable def j_X9_readsQuarrel_1 (σ : Sg) (tr : Int64) (x2 : Int32) (g3 : Sg) : Option (Int32 × Sg) :=
  if x2 = (-9) then
    some (0, g3)
  else
    (f_X9_draftCells g3 tr).bind fun z5 =>
    (f_X9_number g3 tr 0 (z5 - 1)).bind fun z6 =>
    if z6.1 = (-9) then
      some (0, z6.2)
    else
      if z6.1 = x2 then
        some (0, z6.2)
      else
        chk (22 + (σ 3 (3 : Int32).toNatClampNeg)) 35 <|
        chk (28 + (σ 3 (3 : Int32).toNatClampNeg)) 35 <|
        chk 3 35 <|
        chk 3 35 <|
        some (1, (sg_st (sg_st (sg_st z6.2 3 ((22 + (σ 3 (3 : Int32).toNatClampNeg)) : Int32).toNatClampNeg x2) 3 ((28 + (σ 3 (3 : Int32).toNatClampNeg)) : Int32).toNatClampNeg z6.1) 3 (3 : Int32).toNatClampNeg (((sg_st (sg_st z6.2 3 ((22 + (σ 3 (3 : Int32).toNatClampNeg)) : Int32).toNatClampNeg x2) 3 ((28 + (σ 3 (3 : Int32).toNatClampNeg)) : Int32).toNatClampNeg z6.1) 3 (3 : Int32).toNatClampNeg) + 1)))
noncomputable def f_X9_readsQuarrel (σ : Sg) (tr : Int64) : Option (Int32 × Sg) :=
  chk 3 35 <|
  if (σ 3 (3 : Int32).toNatClampNeg) = 6 then
    j_X9_readsQuarrel_1 σ tr (-9) σ
  else
    (f_X9_draftCells σ tr).bind fun z14 =>
    (f_X9_number σ tr 0 (z14 - 1)).bind fun z15 =>
    j_X9_readsQuarrel_1 σ tr z15.1 z15.2
noncomputable def j_X9_readsTear_1 (x2 : Int32) (g3 : Sg) : Option (Int32 × Sg) :=
  chk 5 35 <|
  chk 2 35 <|
  if x2 = (-9) then
    some (0, (sg_st (sg_st g3 3 (5 : Int32).toNatClampNeg 1) 3 (2 : Int32).toNatClampNeg x2))
  else
    some (1, (sg_st (sg_st g3 3 (5 : Int32).toNatClampNeg 1) 3 (2 : Int32).toNatClampNeg x2))
noncomputable def f_X9_readsTear (σ : Sg) (tr : Int64) : Option (Int32 × Sg) :=
  chk 5 35 <|
  if (σ 3 (5 : Int32).toNatClampNeg) ≤ 0 then
    (f_X9_number σ tr 1 9).bind fun z8 =>
    j_X9_readsTear_1 z8.1 z8.2
  else
    j_X9_readsTear_1 (-9) σ
noncomputable def f_X9_readsWorth (σ : Sg) (tr : Int64) : Option (Int32 × Sg) :=
  (f_X9_draftCells σ tr).bind fun z1 =>
  (f_X9_number σ tr 0 (z1 - 1)).bind fun z2 =>
  if z2.1 = (-9) then
    some (0, z2.2)
  else
    (f_X9_number z2.2 tr 0 9).bind fun z4 =>
    chk (6 + z2.1) 35 <|
    if z4.1 = (-9) then
      some (0, (sg_st z4.2 3 ((6 + z2.1) : Int32).toNatClampNeg z4.1))
    else
      some (1, (sg_st z4.2 3 ((6 + z2.1) : Int32).toNatClampNeg z4.1))
noncomputable def f_X9_readsItem (σ : Sg) (tr : Int64) (p1 : Int32) : Option (Int32 × Sg) :=
  if p1 = 0 then
    (f_X9_readsMap σ tr).bind fun z11 =>
    cbl z11.1 <|
    some (z11.1, z11.2)
  else
    if p1 = 1 then
      (f_X9_readsWorth σ tr).bind fun z9 =>
      cbl z9.1 <|
      some (z9.1, z9.2)
    else
      if p1 = 2 then
        (f_X9_readsQuarrel σ tr).bind fun z7 =>
        cbl z7.1 <|
        some (z7.1, z7.2)
      else
        if p1 = 3 then
          (f_X9_readsTear σ tr).bind fun z5 =>
          if z5.1 = 0 then
            some (0, z5.2)
          else
            some (1, z5.2)
        else
          some (0, σ)
noncomputable def j_X9_verb_1 (y1 : Int64) : Option (Int32) :=
  if (lg_cmp y1 7168368) = 0 then
    some 0
  else
    if (lg_cmp y1 512970880104) = 0 then
      some 1
    else
      if (lg_cmp y1 31935733760681324) = 0 then
        some 2
      else
        if (lg_cmp y1 1952801138) = 0 then
          some 3
        else
          some (-9)
noncomputable def s_X9_verb_4 (σ : Sg) (tr : Int64) (e9 : Int64 → Option (Int32)) (y6 : Int64) (x7 : Int32) (k8 : Int64 → Int32 → Option (Int32)) : Option (Int32) :=
  if (σ 0 14) ≤ x7 then
    e9 y6
  else
    if 8 ≤ (σ 0 14) then
      e9 y6
    else
      if (σ 0 12) = 1 then
        (f_X9_byteAt σ tr ((σ 0 13) + x7)).bind fun z13 =>
        k8 ((256 * y6) + (z13 : Int32).toInt64) (x7 + 1)
      else
        e9 y6
noncomputable def f_X9_verb (σ : Sg) (tr : Int64) : Option (Int32) :=
  lc2 (s_X9_verb_4 σ tr j_X9_verb_1) 1000 0 0
noncomputable def s_X9_reads_66 (tr : Int64) (g6 : Sg) (k7 : Sg → Option (Int32 × Sg)) : Option (Int32 × Sg) :=
  if (g6 0 12) = 0 then
    some (1, g6)
  else
    (f_X9_verb g6 tr).bind fun z9 =>
    (f_X9_readsItem g6 tr z9).bind fun z10 =>
    if z10.1 = 0 then
      some (0, z10.2)
    else
      (f_X9_token z10.2 tr).bind fun z12 =>
      if (z12 0 12) = 3 then
        chk 4 35 <|
        chk 4 35 <|
        (f_X9_token (sg_st z12 3 (4 : Int32).toNatClampNeg ((z12 3 (4 : Int32).toNatClampNeg) + 1)) tr).bind fun z16 =>
        k7 z16
      else
        some (0, z12)
noncomputable def j_X9_reads_1 (tr : Int64) (g1 : Sg) : Option (Int32 × Sg) :=
  chk 0 35 <|
  chk 1 35 <|
  chk 2 35 <|
  (f_X9_token (sg_st (sg_st (sg_st (sg_st g1 3 (0 : Int32).toNatClampNeg 3) 3 (1 : Int32).toNatClampNeg 2) 3 (2 : Int32).toNatClampNeg 3) 0 11 0) tr).bind fun z5 =>
  lc1 (s_X9_reads_66 tr) 1000 z5
noncomputable def j_X9_reads_2 (x17 : Int32) (g18 : Sg) (k19 : Int32 → Sg → Option (Int32 × Sg)) (x23 : Int32) : Option (Int32 × Sg) :=
  chk x17 35 <|
  k19 (x17 + 1) (sg_st g18 3 (x17 : Int32).toNatClampNeg x23)
noncomputable def s_X9_reads_2 (e20 : Sg → Option (Int32 × Sg)) (x17 : Int32) (g18 : Sg) (k19 : Int32 → Sg → Option (Int32 × Sg)) : Option (Int32 × Sg) :=
  if 35 ≤ x17 then
    e20 g18
  else
    (f_X9_in x17 6 21).bind fun z22 =>
    if z22 = 0 then
      j_X9_reads_2 x17 g18 k19 0
    else
      j_X9_reads_2 x17 g18 k19 1
noncomputable def f_X9_reads (σ : Sg) (tr : Int64) : Option (Int32 × Sg) :=
  lc2 (s_X9_reads_2 (j_X9_reads_1 tr)) 1000 0 σ
noncomputable def j_X9_map_1 (g7 : Sg) : Option (Int32 × Sg) :=
  chk 0 2 <|
  chk 1 2 <|
  chk 4 35 <|
  some (((sg_st (sg_st (sg_st (sg_st g7 6 (0 : Int32).toNatClampNeg (vp_nar .boolean 0)) 6 (1 : Int32).toNatClampNeg (vp_nar .boolean 0)) 0 10 0) 0 2 0) 2 (4 : Int32).toNatClampNeg), (sg_st (sg_st (sg_st (sg_st g7 6 (0 : Int32).toNatClampNeg (vp_nar .boolean 0)) 6 (1 : Int32).toNatClampNeg (vp_nar .boolean 0)) 0 10 0) 0 2 0))
noncomputable def s_X9_map_43 (e14 : Sg → Option (Int32 × Sg)) (x11 : Int32) (g12 : Sg) (k13 : Int32 → Sg → Option (Int32 × Sg)) : Option (Int32 × Sg) :=
  if 40 ≤ x11 then
    e14 g12
  else
    chk x11 40 <|
    k13 (x11 + 1) (sg_st g12 4 (x11 : Int32).toNatClampNeg 0)
noncomputable def s_X9_map_17 (x3 : Int32) (g4 : Sg) (k5 : Int32 → Sg → Option (Int32 × Sg)) : Option (Int32 × Sg) :=
  if 35 ≤ x3 then
    lc2 (s_X9_map_43 j_X9_map_1) 1000 0 g4
  else
    chk x3 35 <|
    chk x3 35 <|
    k5 (x3 + 1) (sg_st g4 2 (x3 : Int32).toNatClampNeg (g4 3 (x3 : Int32).toNatClampNeg))
noncomputable def f_X9_map (σ : Sg) (tr : Int64) : Option (Int32 × Sg) :=
  (f_X9_reads σ tr).bind fun z1 =>
  if z1.1 = 0 then
    some (((-10) - (z1.2 0 13)), z1.2)
  else
    lc2 (s_X9_map_17) 1000 0 z1.2
noncomputable def j_X9_member_1 (p2 : Int32) (p3 : Int32) (x1 : Int32) : Option (Int32) :=
  if p2 ≤ p3 then
    some (-5)
  else
    some (x1 - x1 / 32 * 32)
noncomputable def s_X9_member_7 (p3 : Int32) (e6 : Int32 → Option (Int32)) (x3 : Int32) (x4 : Int32) (k5 : Int32 → Int32 → Option (Int32)) : Option (Int32) :=
  if x4 ≤ p3 then
    e6 x3
  else
    k5 (x3 / 32) (x4 + (-1))
noncomputable def f_X9_member (p1 : Int32) (p2 : Int32) (p3 : Int32) : Option (Int32) :=
  lc2 (s_X9_member_7 p3 (j_X9_member_1 p2 p3)) 1000 p1 (p2 - 1)
noncomputable def j_X9_packet_1 (tr : Int64) (p1 : Int32) (z4 : Sg) (x5 : Int32) (x10 : Int32) : Option (Int32 × Sg) :=
  if 2 ≤ p1 then
    if p1 = 2 then
      (f_X9_thick z4 tr).bind fun z14 =>
      some (z14, z4)
    else
      if p1 = 3 then
        some (x5, z4)
      else
        some (x10, z4)
  else
    chk p1 8 <|
    some ((z4 10 (p1 : Int32).toNatClampNeg), z4)
noncomputable def j_X9_packet_2 (x22 : Int32) (x23 : Int32) (k24 : Int32 → Int32 → Option (Int32 × Sg)) (x27 : Int32) : Option (Int32 × Sg) :=
  k24 (x22 + x27) (x23 + 1)
noncomputable def s_X9_packet_93 (tr : Int64) (z4 : Sg) (x17 : Int32) (k18 : Int32 → Int32 → Option (Int32 × Sg)) (x22 : Int32) (x23 : Int32) (k24 : Int32 → Int32 → Option (Int32 × Sg)) : Option (Int32 × Sg) :=
  if x17 ≤ x23 then
    k18 x22 (x17 + 1)
  else
    (f_X9_touches z4 tr 0 x17 x23).bind fun z26 =>
    if z26 = 1 then
      j_X9_packet_2 x22 x23 k24 1
    else
      j_X9_packet_2 x22 x23 k24 0
noncomputable def s_X9_packet_81 (tr : Int64) (z4 : Sg) (e19 : Int32 → Option (Int32 × Sg)) (x16 : Int32) (x17 : Int32) (k18 : Int32 → Int32 → Option (Int32 × Sg)) : Option (Int32 × Sg) :=
  (f_X9_cells z4 tr).bind fun z20 =>
  if z20 ≤ x17 then
    e19 x16
  else
    lc2 (s_X9_packet_93 tr z4 x17 k18) 1000 x16 0
noncomputable def j_X9_packet_3 (x5 : Int32) (x6 : Int32) (k7 : Int32 → Int32 → Option (Int32 × Sg)) (x32 : Int32) : Option (Int32 × Sg) :=
  k7 (x5 + x32) (x6 + 1)
noncomputable def s_X9_packet_25 (tr : Int64) (p1 : Int32) (z4 : Sg) (x5 : Int32) (x6 : Int32) (k7 : Int32 → Int32 → Option (Int32 × Sg)) : Option (Int32 × Sg) :=
  chk 3 35 <|
  if (z4 2 (3 : Int32).toNatClampNeg) ≤ x6 then
    lc2 (s_X9_packet_81 tr z4 (j_X9_packet_1 tr p1 z4 x5)) 1000 0 0
  else
    chk (22 + x6) 35 <|
    chk (28 + x6) 35 <|
    (f_X9_touches z4 tr 0 (z4 2 ((22 + x6) : Int32).toNatClampNeg) (z4 2 ((28 + x6) : Int32).toNatClampNeg)).bind fun z31 =>
    if z31 = 1 then
      j_X9_packet_3 x5 x6 k7 1
    else
      j_X9_packet_3 x5 x6 k7 0
noncomputable def f_X9_packet (σ : Sg) (tr : Int64) (p1 : Int32) : Option (Int32 × Sg) :=
  (f_X9_in p1 0 4).bind fun z1 =>
  if z1 = 0 then
    some ((-1), σ)
  else
    chk 1 40 <|
    (f_X9_now σ tr (σ 4 (1 : Int32).toNatClampNeg)).bind fun z4 =>
    lc2 (s_X9_packet_25 tr p1 z4) 1000 0 0
noncomputable def j_X9_rate_1 (σ : Sg) (tr : Int64) (p1 : Int32) (p2 : Int32) (y5 : Int64) : Option (Int32 × Sg × Int64) :=
  chk 1 40 <|
  (f_X9_now σ (tr + y5) (σ 4 (1 : Int32).toNatClampNeg)).bind fun z7 =>
  chk (6 + p2) 35 <|
  (f_X9_gain z7 (tr + y5) 0 p2).bind fun z9 =>
  chk (32 + p2) 256 <|
  if p1 = 0 then
    some ((z7 2 ((6 + p2) : Int32).toNatClampNeg), z7, (tr + y5))
  else
    if p1 = 1 then
      some (((z7 2 ((6 + p2) : Int32).toNatClampNeg) + z9), z7, (tr + y5))
    else
      if p1 = 2 then
        some (((z7 2 ((6 + p2) : Int32).toNatClampNeg) - (z7 9 ((32 + p2) : Int32).toNatClampNeg)), z7, (tr + y5))
      else
        if p1 = 3 then
          some ((2 * ((z7 2 ((6 + p2) : Int32).toNatClampNeg) + z9)), z7, (tr + y5))
        else
          if p1 = 4 then
            chk 1 40 <|
            some ((((z7 2 ((6 + p2) : Int32).toNatClampNeg) - (z7 9 ((32 + p2) : Int32).toNatClampNeg)) + (z7 4 (1 : Int32).toNatClampNeg)), z7, (tr + y5))
          else
            chk 0 40 <|
            some (((z7 2 ((6 + p2) : Int32).toNatClampNeg) + (z7 4 (0 : Int32).toNatClampNeg)), z7, (tr + y5))
noncomputable def f_X9_rate (σ : Sg) (tr : Int64) (p1 : Int32) (p2 : Int32) : Option (Int32 × Sg × Int64) :=
  (f_X9_in p1 0 5).bind fun z1 =>
  if z1 = 0 then
    some ((-1000000), σ, tr)
  else
    (f_X9_isCell σ tr p2).bind fun z3 =>
    if z3 = 0 then
      some ((-1000000), σ, tr)
    else
      if p1 = 0 then
        j_X9_rate_1 σ tr p1 p2 1
      else
        if p1 = 1 then
          j_X9_rate_1 σ tr p1 p2 11
        else
          if p1 = 2 then
            j_X9_rate_1 σ tr p1 p2 101
          else
            if p1 = 3 then
              j_X9_rate_1 σ tr p1 p2 1011
            else
              if p1 = 4 then
                j_X9_rate_1 σ tr p1 p2 10101
              else
                j_X9_rate_1 σ tr p1 p2 100001
noncomputable def j_X9_reachesOn_1 (p4 : Int32) (x2 : Int32) (x3 : Int32) (g4 : Sg) : Option (Int32 × Sg) :=
  some (((32 * ((32 * p4) + x2)) + x3), g4)
noncomputable def j_X9_reachesOn_2 (p4 : Int32) (x5 : Int32) (g6 : Sg) : Option (Int32 × Sg) :=
  some (((32 * p4) + x5), g6)
noncomputable def s_X9_reachesOn_76 (tr : Int64) (p1 : Int32) (p2 : Int32) (p3 : Int32) (x7 : Int32) (k9 : Int32 → Sg → Option (Int32 × Sg)) (e10 : Int32 → Int32 → Sg → Option (Int32 × Sg)) (z13 : Int32 × Sg) (x15 : Int32) (g16 : Sg) (k17 : Int32 → Sg → Option (Int32 × Sg)) : Option (Int32 × Sg) :=
  if 24 ≤ x15 then
    k9 (x7 + 1) g16
  else
    if z13.1 = 0 then
      k9 (x7 + 1) g16
    else
      if p3 = 3 then
        (f_X9_folds g16 tr 2 x15).bind fun z21 =>
        if z21.1 = 0 then
          k17 (x15 + 1) z21.2
        else
          (f_X9_touches z21.2 tr 3 p1 p2).bind fun z23 =>
          if z23 = 1 then
            e10 x7 x15 z21.2
          else
            k17 (x15 + 1) z21.2
      else
        k9 (x7 + 1) g16
noncomputable def s_X9_reachesOn_76q (tr : Int64) (p1 : Int32) (p2 : Int32) (p3 : Int32) (x7 : Int32) (k9 : Int32 → Sg → Option (Int32 × Sg)) (e10 : Int32 → Int32 → Sg → Option (Int32 × Sg)) (z13 : Int32 × Sg) (x26 : Int32) (g27 : Sg) (k28 : Int32 → Sg → Option (Int32 × Sg)) : Option (Int32 × Sg) :=
  if 24 ≤ x26 then
    k9 (x7 + 1) g27
  else
    if z13.1 = 0 then
      k9 (x7 + 1) g27
    else
      if p3 = 3 then
        (f_X9_folds g27 tr 2 x26).bind fun z32 =>
        if z32.1 = 0 then
          k28 (x26 + 1) z32.2
        else
          (f_X9_touches z32.2 tr 3 p1 p2).bind fun z34 =>
          if z34 = 1 then
            e10 x7 x26 z32.2
          else
            k28 (x26 + 1) z32.2
      else
        k9 (x7 + 1) g27
noncomputable def s_X9_reachesOn_76qq (tr : Int64) (p1 : Int32) (p2 : Int32) (p3 : Int32) (x7 : Int32) (k9 : Int32 → Sg → Option (Int32 × Sg)) (e10 : Int32 → Int32 → Sg → Option (Int32 × Sg)) (z13 : Int32 × Sg) (x38 : Int32) (g39 : Sg) (k40 : Int32 → Sg → Option (Int32 × Sg)) : Option (Int32 × Sg) :=
  if 24 ≤ x38 then
    k9 (x7 + 1) g39
  else
    if z13.1 = 0 then
      k9 (x7 + 1) g39
    else
      if p3 = 3 then
        (f_X9_folds g39 tr 2 x38).bind fun z44 =>
        if z44.1 = 0 then
          k40 (x38 + 1) z44.2
        else
          (f_X9_touches z44.2 tr 3 p1 p2).bind fun z46 =>
          if z46 = 1 then
            e10 x7 x38 z44.2
          else
            k40 (x38 + 1) z44.2
      else
        k9 (x7 + 1) g39
noncomputable def s_X9_reachesOn_27 (tr : Int64) (p1 : Int32) (p2 : Int32) (p3 : Int32) (e10 : Int32 → Int32 → Sg → Option (Int32 × Sg)) (e11 : Int32 → Sg → Option (Int32 × Sg)) (x7 : Int32) (g8 : Sg) (k9 : Int32 → Sg → Option (Int32 × Sg)) : Option (Int32 × Sg) :=
  if 24 ≤ x7 then
    some ((-9), g8)
  else
    (f_X9_folds g8 tr 1 x7).bind fun z13 =>
    if z13.1 = 0 then
      lc2 (s_X9_reachesOn_76 tr p1 p2 p3 x7 k9 e10 z13) 1000 0 z13.2
    else
      if p3 = 2 then
        (f_X9_touches z13.2 tr 2 p1 p2).bind fun z36 =>
        if z36 = 1 then
          e11 x7 z13.2
        else
          lc2 (s_X9_reachesOn_76qq tr p1 p2 p3 x7 k9 e10 z13) 1000 0 z13.2
      else
        lc2 (s_X9_reachesOn_76q tr p1 p2 p3 x7 k9 e10 z13) 1000 0 z13.2
noncomputable def f_X9_reachesOn (σ : Sg) (tr : Int64) (p1 : Int32) (p2 : Int32) (p3 : Int32) (p4 : Int32) : Option (Int32 × Sg) :=
  if p3 = 1 then
    (f_X9_touches σ tr 1 p1 p2).bind fun z48 =>
    if z48 = 1 then
      some (p4, σ)
    else
      some ((-9), σ)
  else
    lc2 (s_X9_reachesOn_27 tr p1 p2 p3 (j_X9_reachesOn_1 p4) (j_X9_reachesOn_2 p4)) 1000 0 σ
noncomputable def j_X9_reaches_1 (x2 : Int32) (k4 : Int32 → Sg → Option (Int32 × Sg)) (x7 : Int32) (g8 : Sg) : Option (Int32 × Sg) :=
  if x7 = (-9) then
    k4 (x2 + 1) g8
  else
    some (x7, g8)
noncomputable def s_X9_reaches_25 (tr : Int64) (p1 : Int32) (p2 : Int32) (p3 : Int32) (x2 : Int32) (g3 : Sg) (k4 : Int32 → Sg → Option (Int32 × Sg)) : Option (Int32 × Sg) :=
  if 24 ≤ x2 then
    some ((-9), g3)
  else
    (f_X9_folds g3 tr 0 x2).bind fun z6 =>
    if z6.1 = 0 then
      j_X9_reaches_1 x2 k4 (-9) z6.2
    else
      (f_X9_reachesOn z6.2 tr p1 p2 p3 x2).bind fun z11 =>
      j_X9_reaches_1 x2 k4 z11.1 z11.2
noncomputable def f_X9_reaches (σ : Sg) (tr : Int64) (p1 : Int32) (p2 : Int32) (p3 : Int32) : Option (Int32 × Sg) :=
  if p3 = 0 then
    (f_X9_touches σ tr 0 p1 p2).bind fun z12 =>
    if z12 = 1 then
      some (0, σ)
    else
      some ((-9), σ)
  else
    lc2 (s_X9_reaches_25 tr p1 p2 p3) 1000 0 σ
noncomputable def j_X9_reach_1 (p3 : Int32) (x6 : Int32) (x7 : Int32) (g8 : Sg) : Option (Int32 × Sg) :=
  if p3 = (-1) then
    some (x6, g8)
  else
    (f_X9_member x7 x6 p3).bind fun z10 =>
    some (z10, g8)
noncomputable def s_X9_reach_29 (tr : Int64) (p1 : Int32) (p2 : Int32) (e14 : Int32 → Int32 → Sg → Option (Int32 × Sg)) (x11 : Int32) (g12 : Sg) (k13 : Int32 → Sg → Option (Int32 × Sg)) : Option (Int32 × Sg) :=
  if 4 ≤ x11 then
    some ((-9), g12)
  else
    (f_X9_reaches g12 tr p1 p2 x11).bind fun z16 =>
    if z16.1 = (-9) then
      k13 (x11 + 1) z16.2
    else
      e14 x11 z16.1 z16.2
noncomputable def f_X9_reach (σ : Sg) (tr : Int64) (p1 : Int32) (p2 : Int32) (p3 : Int32) : Option (Int32 × Sg) :=
  (f_X9_areTwo σ tr p1 p2).bind fun z1 =>
  if z1 = 0 then
    some ((-1), σ)
  else
    if (-1) ≤ p3 then
      chk 1 40 <|
      (f_X9_now σ tr (σ 4 (1 : Int32).toNatClampNeg)).bind fun z5 =>
      lc2 (s_X9_reach_29 tr p1 p2 (j_X9_reach_1 p3)) 1000 0 z5
    else
      some ((-1), σ)
noncomputable def f_X9_saw (σ : Sg) (tr : Int64) (p1 : Int32) (p2 : Int32) : Option (Int32 × Sg) :=
  (f_X9_areTwo σ tr p1 p2).bind fun z1 =>
  if z1 = 0 then
    some ((-1), σ)
  else
    if (σ 0 10) = 6 then
      some ((-3), σ)
    else
      chk (σ 0 10) 6 <|
      chk ((sg_st σ 7 ((σ 0 10) : Int32).toNatClampNeg p1) 0 10) 6 <|
      some (((sg_st (sg_st (sg_st σ 7 ((σ 0 10) : Int32).toNatClampNeg p1) 8 (((sg_st σ 7 ((σ 0 10) : Int32).toNatClampNeg p1) 0 10) : Int32).toNatClampNeg p2) 0 10 (((sg_st (sg_st σ 7 ((σ 0 10) : Int32).toNatClampNeg p1) 8 (((sg_st σ 7 ((σ 0 10) : Int32).toNatClampNeg p1) 0 10) : Int32).toNatClampNeg p2) 0 10) + 1)) 0 10), (sg_st (sg_st (sg_st σ 7 ((σ 0 10) : Int32).toNatClampNeg p1) 8 (((sg_st σ 7 ((σ 0 10) : Int32).toNatClampNeg p1) 0 10) : Int32).toNatClampNeg p2) 0 10 (((sg_st (sg_st σ 7 ((σ 0 10) : Int32).toNatClampNeg p1) 8 (((sg_st σ 7 ((σ 0 10) : Int32).toNatClampNeg p1) 0 10) : Int32).toNatClampNeg p2) 0 10) + 1)))
noncomputable def j_X9_tries_1 (σ : Sg) (p1 : Int32) (p3 : Int32) (z1 : Int32) : Option (Sg) :=
  some (sg_st (sg_st (sg_st σ 0 19 z1) 0 20 p1) 0 21 p3)
noncomputable def f_X9_tries (σ : Sg) (tr : Int64) (p1 : Int32) (p2 : Int32) (p3 : Int32) : Option (Sg) :=
  (f_X9_gain σ tr p1 p2).bind fun z1 =>
  if (σ 0 19) < z1 then
    j_X9_tries_1 σ p1 p3 z1
  else
    if z1 = (σ 0 19) then
      if (σ 0 20) ≤ p1 then
        some σ
      else
        j_X9_tries_1 σ p1 p3 z1
    else
      some σ
noncomputable def j_X9_serves_1 (p2 : Int32) (g7 : Sg) : Option (Int32 × Sg) :=
  if p2 = (-1) then
    some ((g7 0 19), g7)
  else
    (f_X9_member (g7 0 21) (g7 0 20) p2).bind fun z9 =>
    some (z9, g7)
noncomputable def s_X9_serves_64 (tr : Int64) (p1 : Int32) (x10 : Int32) (k12 : Int32 → Sg → Option (Int32 × Sg)) (x18 : Int32) (g19 : Sg) (k20 : Int32 → Sg → Option (Int32 × Sg)) : Option (Int32 × Sg) :=
  if 24 ≤ x18 then
    k12 (x10 + 1) g19
  else
    (f_X9_folds g19 tr 1 x18).bind fun z22 =>
    if z22.1 = 0 then
      k20 (x18 + 1) z22.2
    else
      (f_X9_tries z22.2 tr 2 p1 ((32 * x10) + x18)).bind fun z24 =>
      k20 (x18 + 1) z24
noncomputable def s_X9_serves_39 (tr : Int64) (p1 : Int32) (e13 : Sg → Option (Int32 × Sg)) (x10 : Int32) (g11 : Sg) (k12 : Int32 → Sg → Option (Int32 × Sg)) : Option (Int32 × Sg) :=
  if 24 ≤ x10 then
    e13 g11
  else
    (f_X9_folds g11 tr 0 x10).bind fun z15 =>
    if z15.1 = 0 then
      k12 (x10 + 1) z15.2
    else
      (f_X9_tries z15.2 tr 1 p1 x10).bind fun z17 =>
      lc2 (s_X9_serves_64 tr p1 x10 k12) 1000 0 z17
noncomputable def f_X9_serves (σ : Sg) (tr : Int64) (p1 : Int32) (p2 : Int32) : Option (Int32 × Sg) :=
  (f_X9_isCell σ tr p1).bind fun z1 =>
  if z1 = 0 then
    some ((-1), σ)
  else
    if (-1) ≤ p2 then
      chk 1 40 <|
      (f_X9_now σ tr (σ 4 (1 : Int32).toNatClampNeg)).bind fun z5 =>
      (f_X9_tries (sg_st z5 0 19 (-1)) tr 0 p1 0).bind fun z6 =>
      lc2 (s_X9_serves_39 tr p1 (j_X9_serves_1 p2)) 1000 0 z6
    else
      some ((-1), σ)
noncomputable def f_X9_touch (σ : Sg) (tr : Int64) (p1 : Int32) (p2 : Int32) : Option (Int32 × Sg) :=
  (f_X9_areTwo σ tr p1 p2).bind fun z1 =>
  if z1 = 0 then
    some ((-1), σ)
  else
    chk 1 40 <|
    (f_X9_now σ tr (σ 4 (1 : Int32).toNatClampNeg)).bind fun z4 =>
    (f_X9_touches z4 tr 0 p1 p2).bind fun z5 =>
    some (z5, z4)
noncomputable def f_X9_trace (σ : Sg) (tr : Int64) : Option (Int64) :=
  some tr
noncomputable def j_X9_type_1 (g4 : Sg) : Option (Int32 × Sg) :=
  some ((g4 0 2), g4)
noncomputable def s_X9_type_32 (p1 : Int64) (e8 : Sg → Option (Int32 × Sg)) (x5 : Int32) (g6 : Sg) (k7 : Int32 → Sg → Option (Int32 × Sg)) : Option (Int32 × Sg) :=
  if x5 < 0 then
    e8 g6
  else
    chk (g6 0 2) 200 <|
    k7 (x5 + (-1)) (sg_st (sg_st g6 1 ((g6 0 2) : Int32).toNatClampNeg (((((p1 : Int64) >>> (((8 * x5) : Int32).toInt64 &&& 63)) &&& 255) : Int64).toInt32)) 0 2 (((sg_st g6 1 ((g6 0 2) : Int32).toNatClampNeg (((((p1 : Int64) >>> (((8 * x5) : Int32).toInt64 &&& 63)) &&& 255) : Int64).toInt32)) 0 2) + 1))
noncomputable def f_X9_type (σ : Sg) (tr : Int64) (p1 : Int64) (p2 : Int32) : Option (Int32 × Sg) :=
  (f_X9_in p2 1 8).bind fun z1 =>
  if z1 = 0 then
    some ((-1), σ)
  else
    if ((σ 0 2) + p2) ≤ 200 then
      lc2 (s_X9_type_32 p1 j_X9_type_1) 1000 (p2 - 1) σ
    else
      some ((-3), σ)
noncomputable def f_X9_undo (σ : Sg) (tr : Int64) : Option (Int32 × Sg) :=
  chk 1 40 <|
  if (σ 4 (1 : Int32).toNatClampNeg) = 0 then
    some ((-2), σ)
  else
    chk 1 40 <|
    chk 1 40 <|
    chk 1 40 <|
    (f_X9_now (sg_st σ 4 (1 : Int32).toNatClampNeg ((σ 4 (1 : Int32).toNatClampNeg) - 1)) tr ((sg_st σ 4 (1 : Int32).toNatClampNeg ((σ 4 (1 : Int32).toNatClampNeg) - 1)) 4 (1 : Int32).toNatClampNeg)).bind fun z6 =>
    chk 1 40 <|
    chk (2 + (z6 4 (1 : Int32).toNatClampNeg)) 40 <|
    (f_X9_bendsAll z6 tr (z6 4 ((2 + (z6 4 (1 : Int32).toNatClampNeg)) : Int32).toNatClampNeg) (-1)).bind fun z9 =>
    chk 1 40 <|
    some ((z9.2 4 (1 : Int32).toNatClampNeg), z9.2)
