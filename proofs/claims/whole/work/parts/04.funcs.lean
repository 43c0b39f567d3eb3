/-! what each method answers and leaves, as a function (laid by wip/gen/gen.py) -/
def zf_X0_becomes (B : BT) (C : BT) : Option BT :=
  some (bs_step (bs_people (bs_helped (bs_heading (bs_place (bs_wet (bs_figure (bs_kind B (va_cpy (bt_kind C) (bt_kind B) (0 : Int32).toNatClampNeg (0 : Int32).toNatClampNeg (30 : Int32).toNatClampNeg)) (va_cpy (bt_figure C) (bt_figure B) (0 : Int32).toNatClampNeg (0 : Int32).toNatClampNeg (30 : Int32).toNatClampNeg)) (va_cpy (bt_wet C) (bt_wet B) (0 : Int32).toNatClampNeg (0 : Int32).toNatClampNeg (30 : Int32).toNatClampNeg)) (va_cpy (bt_place C) (bt_place B) (0 : Int32).toNatClampNeg (0 : Int32).toNatClampNeg (4 : Int32).toNatClampNeg)) (va_cpy (bt_heading C) (bt_heading B) (0 : Int32).toNatClampNeg (0 : Int32).toNatClampNeg (4 : Int32).toNatClampNeg)) (va_cpy (bt_helped C) (bt_helped B) (0 : Int32).toNatClampNeg (0 : Int32).toNatClampNeg (4 : Int32).toNatClampNeg)) (bt_people C)) (bt_step C))
def zf_X0_peopleCount (B : BT) : Option Int32 :=
  some (bt_people B)
def zf_X0_stepCount (B : BT) : Option Int32 :=
  some (bt_step B)
def zf_X0_isFull (B : BT) : Option Int32 :=
  if (bt_people B) < (4 : Int32) then
    (some (0 : Int32))
  else
    (some (1 : Int32))
def zf_X0_has (B : BT) (v1 : Int32) : Option Int32 :=
  if v1 < 0 then
    (some (0 : Int32))
  else
    (if (bt_people B) ≤ v1 then
      (some (0 : Int32))
    else
      (if (4 : Int32) ≤ v1 then
        (some (0 : Int32))
      else
        (some (1 : Int32))))
def zf_X0_add (B : BT) (v1 : Int32) (v2 : Int32) : Option (Int32 × BT) :=
  if (bt_people B) < 0 then
    (some (((-9) : Int32), B))
  else
    (if (bt_people B) < (4 : Int32) then
      (if (bt_people B) < 0 ∨ 4 ≤ (bt_people B).toNatClampNeg then none else
      if (bt_people B) < 0 ∨ 4 ≤ (bt_people B).toNatClampNeg then none else
      if (bt_people B) < 0 ∨ 4 ≤ (bt_people B).toNatClampNeg then none else
      some ((bt_people B), (bs_helped (bs_heading (bs_place (bs_people B ((bt_people B) + (1 : Int32))) (upd (bt_place B) (bt_people B).toNatClampNeg v1)) (upd (bt_heading B) (bt_people B).toNatClampNeg v2)) (upd (bt_helped B) (bt_people B).toNatClampNeg (0 : Int32)))))
    else
      (some (((-9) : Int32), B)))
def zf_X1_isNode (v0 : Int32) : Option Int32 :=
  if v0 < 0 then
    (some (0 : Int32))
  else
    (if (30 : Int32) ≤ v0 then
      (some (0 : Int32))
    else
      (some (1 : Int32)))
def zf_X0_kindOf (B : BT) (v1 : Int32) : Option Int32 :=
  bd1 (zf_X1_isNode v1) fun r1 =>
  if r1 = 0 then
    (some (0 : Int32))
  else
    (if v1 < 0 ∨ 30 ≤ v1.toNatClampNeg then none else
    some ((bt_kind B) v1.toNatClampNeg))
def zf_X0_figureOf (B : BT) (v1 : Int32) : Option Int32 :=
  bd1 (zf_X1_isNode v1) fun r1 =>
  if r1 = 0 then
    (some (0 : Int32))
  else
    (if v1 < 0 ∨ 30 ≤ v1.toNatClampNeg then none else
    some ((bt_figure B) v1.toNatClampNeg))
def zf_X0_wetOf (B : BT) (v1 : Int32) : Option Int32 :=
  bd1 (zf_X1_isNode v1) fun r1 =>
  if r1 = 0 then
    (some (0 : Int32))
  else
    (if v1 < 0 ∨ 30 ≤ v1.toNatClampNeg then none else
    some ((bt_wet B) v1.toNatClampNeg))
def zf_X0_putKind (B : BT) (v1 : Int32) (v2 : Int32) : Option BT :=
  bd1 (zf_X1_isNode v1) fun r1 =>
  if r1 = 0 then
    (some B)
  else
    (if v1 < 0 ∨ 30 ≤ v1.toNatClampNeg then none else
    some (bs_kind B (upd (bt_kind B) v1.toNatClampNeg v2)))
def zf_X0_putFigure (B : BT) (v1 : Int32) (v2 : Int32) : Option BT :=
  bd1 (zf_X1_isNode v1) fun r1 =>
  if r1 = 0 then
    (some B)
  else
    (if v1 < 0 ∨ 30 ≤ v1.toNatClampNeg then none else
    some (bs_figure B (upd (bt_figure B) v1.toNatClampNeg v2)))
def zf_X0_putWet (B : BT) (v1 : Int32) (v2 : Int32) : Option BT :=
  bd1 (zf_X1_isNode v1) fun r1 =>
  if r1 = 0 then
    (some B)
  else
    (if v1 < 0 ∨ 30 ≤ v1.toNatClampNeg then none else
    some (bs_wet B (upd (bt_wet B) v1.toNatClampNeg v2)))
def zf_X0_placeOf (B : BT) (v1 : Int32) : Option Int32 :=
  bd1 (zf_X0_has B v1) fun r1 =>
  if r1 = 0 then
    (some (0 : Int32))
  else
    (if v1 < 0 ∨ 4 ≤ v1.toNatClampNeg then none else
    some ((bt_place B) v1.toNatClampNeg))
def zf_X0_headingOf (B : BT) (v1 : Int32) : Option Int32 :=
  bd1 (zf_X0_has B v1) fun r1 =>
  if r1 = 0 then
    (some (0 : Int32))
  else
    (if v1 < 0 ∨ 4 ≤ v1.toNatClampNeg then none else
    some ((bt_heading B) v1.toNatClampNeg))
def zf_X0_helpedOf (B : BT) (v1 : Int32) : Option Int32 :=
  bd1 (zf_X0_has B v1) fun r1 =>
  if r1 = 0 then
    (some (0 : Int32))
  else
    (if v1 < 0 ∨ 4 ≤ v1.toNatClampNeg then none else
    some ((bt_helped B) v1.toNatClampNeg))
def zf_X0_putPlace (B : BT) (v1 : Int32) (v2 : Int32) : Option BT :=
  bd1 (zf_X0_has B v1) fun r1 =>
  if r1 = 0 then
    (some B)
  else
    (if v1 < 0 ∨ 4 ≤ v1.toNatClampNeg then none else
    some (bs_place B (upd (bt_place B) v1.toNatClampNeg v2)))
def zf_X0_putHeading (B : BT) (v1 : Int32) (v2 : Int32) : Option BT :=
  bd1 (zf_X0_has B v1) fun r1 =>
  if r1 = 0 then
    (some B)
  else
    (if v1 < 0 ∨ 4 ≤ v1.toNatClampNeg then none else
    some (bs_heading B (upd (bt_heading B) v1.toNatClampNeg v2)))
def zf_X0_ofPerson (B : BT) (v1 : Int32) (v2 : Int32) : Option Int32 :=
  if v2 = 0 then
    (bd1 (zf_X0_placeOf B v1) fun r3 =>
    some r3)
  else
    (if v2 = (1 : Int32) then
      (bd1 (zf_X0_headingOf B v1) fun r2 =>
      some r2)
    else
      (bd1 (zf_X0_helpedOf B v1) fun r1 =>
      some r1))
def zf_X0_wayBy (v0 : Int32) (v1 : Int32) (v2 : Int32) (v3 : Int32) : Option Int32 :=
  if v0 = (1 : Int32) then
    (some (jr (v2 + (3 : Int32)) (4 : Int32)))
  else if v0 = (2 : Int32) then
    (some (jr ((jr (v2 + (3 : Int32)) (4 : Int32)) + (2 : Int32)) (4 : Int32)))
  else if v0 = (3 : Int32) then
    (if (jr v3 (4 : Int32)) = 0 then
      (some (jr v1 (4 : Int32)))
    else
      (some v2))
  else if v0 = (4 : Int32) then
    (if (jr v3 (2 : Int32)) = (1 : Int32) then
      (some (jr (v2 + (3 : Int32)) (4 : Int32)))
    else
      (some v2))
  else if v0 = (5 : Int32) then
    (some (jr (v2 + (2 : Int32)) (4 : Int32)))
  else 
    (some v2)
def zf_X0_wayNext (B : BT) (v1 : Int32) : Option Int32 :=
  bd1 (zf_X0_placeOf B v1) fun r1 =>
  bd1 (zf_X0_wetOf B r1) fun r2 =>
  if r2 = 0 then
    (some ((-9) : Int32))
  else
    (bd1 (zf_X0_kindOf B r1) fun r3 =>
    bd1 (zf_X0_figureOf B r1) fun r4 =>
    bd1 (zf_X0_headingOf B v1) fun r5 =>
    bd1 (zf_X0_wayBy r3 r4 r5 ((bt_step B) + (1 : Int32))) fun r6 =>
    some r6)
def zf_X1_nodeThatWay (v0 : Int32) (v1 : Int32) : Option Int32 :=
  if v1 = (0 : Int32) then
    (if (v0 / (6 : Int32)) ≤ 0 then
      (some ((-1) : Int32))
    else
      (some (v0 - (6 : Int32))))
  else if v1 = (1 : Int32) then
    (if (5 : Int32) ≤ (jr v0 (6 : Int32)) then
      (some ((-1) : Int32))
    else
      (some (v0 + (1 : Int32))))
  else if v1 = (2 : Int32) then
    (if (4 : Int32) ≤ (v0 / (6 : Int32)) then
      (some ((-1) : Int32))
    else
      (some (v0 + (6 : Int32))))
  else 
    (if (jr v0 (6 : Int32)) ≤ 0 then
      (some ((-1) : Int32))
    else
      (some (v0 - (1 : Int32))))
def zf_X0_follow (B : BT) (v1 : Int32) : Option BT :=
  bd1 (zf_X0_has B v1) fun r1 =>
  if r1 = 0 then
    (some B)
  else
    (if v1 < 0 ∨ 4 ≤ v1.toNatClampNeg then none else
    bd1 (zf_X1_isNode ((bt_place B) v1.toNatClampNeg)) fun r2 =>
    if r2 = 0 then
      (some B)
    else
      (if ((bt_place B) v1.toNatClampNeg) < 0 ∨ 30 ≤ ((bt_place B) v1.toNatClampNeg).toNatClampNeg then none else
      if ((bt_wet B) ((bt_place B) v1.toNatClampNeg).toNatClampNeg) = 0 then
        (some B)
      else
        (if ((bt_place B) v1.toNatClampNeg) < 0 ∨ 30 ≤ ((bt_place B) v1.toNatClampNeg).toNatClampNeg then none else
        if ((bt_place B) v1.toNatClampNeg) < 0 ∨ 30 ≤ ((bt_place B) v1.toNatClampNeg).toNatClampNeg then none else
        if v1 < 0 ∨ 4 ≤ v1.toNatClampNeg then none else
        bd1 (zf_X0_wayBy ((bt_kind B) ((bt_place B) v1.toNatClampNeg).toNatClampNeg) ((bt_figure B) ((bt_place B) v1.toNatClampNeg).toNatClampNeg) ((bt_heading B) v1.toNatClampNeg) (bt_step B)) fun r3 =>
        bd1 (zf_X1_nodeThatWay ((bt_place B) v1.toNatClampNeg) r3) fun r4 =>
        if 0 ≤ r4 then
          (if v1 < 0 ∨ 4 ≤ v1.toNatClampNeg then none else
          if v1 < 0 ∨ 4 ≤ v1.toNatClampNeg then none else
          if (jr (bt_step B) (2 : Int32)) = 0 then
            (if ((bt_place B) v1.toNatClampNeg) < 0 ∨ 30 ≤ ((bt_place B) v1.toNatClampNeg).toNatClampNeg then none else
            if ((bt_place B) v1.toNatClampNeg) < 0 ∨ 30 ≤ ((bt_place B) v1.toNatClampNeg).toNatClampNeg then none else
            some (bs_wet (bs_place (bs_heading B (upd (bt_heading B) v1.toNatClampNeg r3)) (upd (bt_place B) v1.toNatClampNeg r4)) (upd (bt_wet B) ((bt_place B) v1.toNatClampNeg).toNatClampNeg (((bt_wet B) ((bt_place B) v1.toNatClampNeg).toNatClampNeg) - (1 : Int32)))))
          else
            (some (bs_place (bs_heading B (upd (bt_heading B) v1.toNatClampNeg r3)) (upd (bt_place B) v1.toNatClampNeg r4))))
        else
          (if v1 < 0 ∨ 4 ≤ v1.toNatClampNeg then none else
          if v1 < 0 ∨ 4 ≤ v1.toNatClampNeg then none else
          if v1 < 0 ∨ 4 ≤ v1.toNatClampNeg then none else
          some (bs_helped (bs_heading B (upd (bt_heading B) v1.toNatClampNeg (jr (r3 + (2 : Int32)) (4 : Int32)))) (upd (bt_helped B) v1.toNatClampNeg (if (((bt_helped B) v1.toNatClampNeg) + (1 : Int32)) < (99 : Int32) then (((bt_helped B) v1.toNatClampNeg) + (1 : Int32)) else (99 : Int32))))))))
def zf_X0_goOn_b20 (rec2 : Int32 → BT → Option BT) (v2 : Int32) (v3 : Int32) (rec20 : Int32 → BT → Option BT) (v4 : Int32) (B : BT) : Option BT :=
  if (bt_people B) ≤ v4 then
    (rec2 (v3 + (1 : Int32)) B)
  else
    (if ((v2 >>> (v4 &&& 31)) &&& (1 : Int32)) = 0 then
      (bd1 (zf_X0_follow B v4) fun n1 =>
      rec20 (v4 + (1 : Int32)) n1)
    else
      (rec20 (v4 + (1 : Int32)) B))
def zf_X0_goOn_b2 (v1 : Int32) (v2 : Int32) (rec2 : Int32 → BT → Option BT) (v3 : Int32) (B : BT) : Option BT :=
  if v1 ≤ v3 then
    (some B)
  else
    (zl2 (zf_X0_goOn_b20 rec2 v2 v3) zb_FU (0 : Int32) (bs_step B ((bt_step B) + (1 : Int32))))
def zf_X0_goOn (B : BT) (v1 : Int32) (v2 : Int32) : Option BT :=
  zl2 (zf_X0_goOn_b2 v1 v2) zb_FU (0 : Int32) B
def zf_X0_soonestAt_b2 (v1 : Int32) (v2 : Int32) (rec2 : Int32 → BT → Option (Int32 × BT)) (v3 : Int32) (B : BT) : Option (Int32 × BT) :=
  if (60 : Int32) < v3 then
    (some (((-9) : Int32), B))
  else
    (bd1 (zf_X0_placeOf B v1) fun r1 =>
    if r1 = v2 then
      (some (v3, B))
    else
      (bd1 (zf_X0_goOn B (1 : Int32) (0 : Int32)) fun n2 =>
      rec2 (v3 + (1 : Int32)) n2))
def zf_X0_soonestAt (B : BT) (v1 : Int32) (v2 : Int32) : Option (Int32 × BT) :=
  zl2 (zf_X0_soonestAt_b2 v1 v2) zb_FU (0 : Int32) B
def zf_J6_bitCount_0f7a4 (v0 : Int32) : Option Int32 :=
  some ((((((((v0 - ((v0.toUInt32 >>> ((1 : Int32).toUInt32 &&& Int32.toUInt32 31)).toInt32 &&& (1431655765 : Int32))) &&& (858993459 : Int32)) + (((v0 - ((v0.toUInt32 >>> ((1 : Int32).toUInt32 &&& Int32.toUInt32 31)).toInt32 &&& (1431655765 : Int32))).toUInt32 >>> ((2 : Int32).toUInt32 &&& Int32.toUInt32 31)).toInt32 &&& (858993459 : Int32))) + ((((v0 - ((v0.toUInt32 >>> ((1 : Int32).toUInt32 &&& Int32.toUInt32 31)).toInt32 &&& (1431655765 : Int32))) &&& (858993459 : Int32)) + (((v0 - ((v0.toUInt32 >>> ((1 : Int32).toUInt32 &&& Int32.toUInt32 31)).toInt32 &&& (1431655765 : Int32))).toUInt32 >>> ((2 : Int32).toUInt32 &&& Int32.toUInt32 31)).toInt32 &&& (858993459 : Int32))).toUInt32 >>> ((4 : Int32).toUInt32 &&& Int32.toUInt32 31)).toInt32) &&& (252645135 : Int32)) + ((((((v0 - ((v0.toUInt32 >>> ((1 : Int32).toUInt32 &&& Int32.toUInt32 31)).toInt32 &&& (1431655765 : Int32))) &&& (858993459 : Int32)) + (((v0 - ((v0.toUInt32 >>> ((1 : Int32).toUInt32 &&& Int32.toUInt32 31)).toInt32 &&& (1431655765 : Int32))).toUInt32 >>> ((2 : Int32).toUInt32 &&& Int32.toUInt32 31)).toInt32 &&& (858993459 : Int32))) + ((((v0 - ((v0.toUInt32 >>> ((1 : Int32).toUInt32 &&& Int32.toUInt32 31)).toInt32 &&& (1431655765 : Int32))) &&& (858993459 : Int32)) + (((v0 - ((v0.toUInt32 >>> ((1 : Int32).toUInt32 &&& Int32.toUInt32 31)).toInt32 &&& (1431655765 : Int32))).toUInt32 >>> ((2 : Int32).toUInt32 &&& Int32.toUInt32 31)).toInt32 &&& (858993459 : Int32))).toUInt32 >>> ((4 : Int32).toUInt32 &&& Int32.toUInt32 31)).toInt32) &&& (252645135 : Int32)).toUInt32 >>> ((8 : Int32).toUInt32 &&& Int32.toUInt32 31)).toInt32) + (((((((v0 - ((v0.toUInt32 >>> ((1 : Int32).toUInt32 &&& Int32.toUInt32 31)).toInt32 &&& (1431655765 : Int32))) &&& (858993459 : Int32)) + (((v0 - ((v0.toUInt32 >>> ((1 : Int32).toUInt32 &&& Int32.toUInt32 31)).toInt32 &&& (1431655765 : Int32))).toUInt32 >>> ((2 : Int32).toUInt32 &&& Int32.toUInt32 31)).toInt32 &&& (858993459 : Int32))) + ((((v0 - ((v0.toUInt32 >>> ((1 : Int32).toUInt32 &&& Int32.toUInt32 31)).toInt32 &&& (1431655765 : Int32))) &&& (858993459 : Int32)) + (((v0 - ((v0.toUInt32 >>> ((1 : Int32).toUInt32 &&& Int32.toUInt32 31)).toInt32 &&& (1431655765 : Int32))).toUInt32 >>> ((2 : Int32).toUInt32 &&& Int32.toUInt32 31)).toInt32 &&& (858993459 : Int32))).toUInt32 >>> ((4 : Int32).toUInt32 &&& Int32.toUInt32 31)).toInt32) &&& (252645135 : Int32)) + ((((((v0 - ((v0.toUInt32 >>> ((1 : Int32).toUInt32 &&& Int32.toUInt32 31)).toInt32 &&& (1431655765 : Int32))) &&& (858993459 : Int32)) + (((v0 - ((v0.toUInt32 >>> ((1 : Int32).toUInt32 &&& Int32.toUInt32 31)).toInt32 &&& (1431655765 : Int32))).toUInt32 >>> ((2 : Int32).toUInt32 &&& Int32.toUInt32 31)).toInt32 &&& (858993459 : Int32))) + ((((v0 - ((v0.toUInt32 >>> ((1 : Int32).toUInt32 &&& Int32.toUInt32 31)).toInt32 &&& (1431655765 : Int32))) &&& (858993459 : Int32)) + (((v0 - ((v0.toUInt32 >>> ((1 : Int32).toUInt32 &&& Int32.toUInt32 31)).toInt32 &&& (1431655765 : Int32))).toUInt32 >>> ((2 : Int32).toUInt32 &&& Int32.toUInt32 31)).toInt32 &&& (858993459 : Int32))).toUInt32 >>> ((4 : Int32).toUInt32 &&& Int32.toUInt32 31)).toInt32) &&& (252645135 : Int32)).toUInt32 >>> ((8 : Int32).toUInt32 &&& Int32.toUInt32 31)).toInt32).toUInt32 >>> ((16 : Int32).toUInt32 &&& Int32.toUInt32 31)).toInt32) &&& (63 : Int32))
def zf_X0_visitsIn_b11 (v1 : Int32) (v2 : Int32) (rec11 : Int32 → Int32 → BT → Option (Int32 × BT)) (v3 : Int32) (v4 : Int32) (B : BT) : Option (Int32 × BT) :=
  if v2 ≤ v4 then
    (bd1 (zf_J6_bitCount_0f7a4 v3) fun r2 =>
    some (r2, B))
  else
    (bd1 (zf_X0_goOn B (1 : Int32) (0 : Int32)) fun n3 =>
    bd1 (zf_X0_placeOf n3 v1) fun r4 =>
    rec11 (v3 ||| ((1 : Int32) <<< (r4 &&& 31))) (v4 + (1 : Int32)) n3)
def zf_X0_visitsIn (B : BT) (v1 : Int32) (v2 : Int32) : Option (Int32 × BT) :=
  bd1 (zf_X0_placeOf B v1) fun r1 =>
  zl3 (zf_X0_visitsIn_b11 v1 v2) zb_FU ((1 : Int32) <<< (r1 &&& 31)) (0 : Int32) B
def zf_X0_dryNodes_b4 (B : BT) (rec4 : Int32 → Int32 → Option Int32) (v1 : Int32) (v2 : Int32) : Option Int32 :=
  if (30 : Int32) ≤ v2 then
    (some v1)
  else
    (bd1 (zf_X0_wetOf B v2) fun r1 =>
    if r1 = 0 then
      (rec4 (v1 ||| ((1 : Int32) <<< (v2 &&& 31))) (v2 + (1 : Int32)))
    else
      (rec4 v1 (v2 + (1 : Int32))))
def zf_X0_dryNodes (B : BT) : Option Int32 :=
  zl2 (zf_X0_dryNodes_b4 B) zb_FU (0 : Int32) (0 : Int32)
def zf_X0_wettest_b4 (B : BT) (rec4 : Int32 → Int32 → Option Int32) (v1 : Int32) (v2 : Int32) : Option Int32 :=
  if (30 : Int32) ≤ v2 then
    (some v1)
  else
    (bd1 (zf_X0_wetOf B v2) fun r1 =>
    bd1 (zf_X0_wetOf B v1) fun r2 =>
    if r1 ≤ r2 then
      (rec4 v1 (v2 + (1 : Int32)))
    else
      (rec4 v2 (v2 + (1 : Int32))))
def zf_X0_wettest (B : BT) : Option Int32 :=
  zl2 (zf_X0_wettest_b4 B) zb_FU (0 : Int32) (1 : Int32)
def zf_X0_wetInRow_b4 (v1 : Int32) (B : BT) (rec4 : Int32 → Int32 → Option Int32) (v2 : Int32) (v3 : Int32) : Option Int32 :=
  if (6 : Int32) ≤ v3 then
    (some v2)
  else
    (bd1 (zf_X0_wetOf B ((v1 * (6 : Int32)) + v3)) fun r1 =>
    rec4 (v2 + r1) (v3 + (1 : Int32)))
def zf_X0_wetInRow (B : BT) (v1 : Int32) : Option Int32 :=
  zl2 (zf_X0_wetInRow_b4 v1 B) zb_FU (0 : Int32) (0 : Int32)
def zf_X0_wettestRow_b4 (B : BT) (rec4 : Int32 → Int32 → Option Int32) (v1 : Int32) (v2 : Int32) : Option Int32 :=
  if (5 : Int32) ≤ v2 then
    (some v1)
  else
    (bd1 (zf_X0_wetInRow B v2) fun r1 =>
    bd1 (zf_X0_wetInRow B v1) fun r2 =>
    if r1 ≤ r2 then
      (rec4 v1 (v2 + (1 : Int32)))
    else
      (rec4 v2 (v2 + (1 : Int32))))
def zf_X0_wettestRow (B : BT) : Option Int32 :=
  zl2 (zf_X0_wettestRow_b4 B) zb_FU (0 : Int32) (1 : Int32)
def zf_X0_allWet_b4 (B : BT) (rec4 : Int32 → Int32 → Option Int32) (v1 : Int32) (v2 : Int32) : Option Int32 :=
  if (5 : Int32) ≤ v2 then
    (some v1)
  else
    (bd1 (zf_X0_wetInRow B v2) fun r1 =>
    rec4 (v1 + r1) (v2 + (1 : Int32)))
def zf_X0_allWet (B : BT) : Option Int32 :=
  zl2 (zf_X0_allWet_b4 B) zb_FU (0 : Int32) (0 : Int32)
def zf_X0_allFigures_b4 (B : BT) (rec4 : Int32 → Int32 → Option Int32) (v1 : Int32) (v2 : Int32) : Option Int32 :=
  if (30 : Int32) ≤ v2 then
    (some v1)
  else
    (bd1 (zf_X0_figureOf B v2) fun r1 =>
    rec4 (v1 + r1) (v2 + (1 : Int32)))
def zf_X0_allFigures (B : BT) : Option Int32 :=
  zl2 (zf_X0_allFigures_b4 B) zb_FU (0 : Int32) (0 : Int32)
def zf_X0_allHelped_b4 (B : BT) (rec4 : Int32 → Int32 → Option Int32) (v1 : Int32) (v2 : Int32) : Option Int32 :=
  if (bt_people B) ≤ v2 then
    (some v1)
  else
    (bd1 (zf_X0_helpedOf B v2) fun r1 =>
    rec4 (v1 + r1) (v2 + (1 : Int32)))
def zf_X0_allHelped (B : BT) : Option Int32 :=
  zl2 (zf_X0_allHelped_b4 B) zb_FU (0 : Int32) (0 : Int32)
def zf_X0_mostHelped_b5 (B : BT) (rec5 : Int32 → Int32 → Option Int32) (v1 : Int32) (v2 : Int32) : Option Int32 :=
  if (bt_people B) ≤ v2 then
    (some v1)
  else
    (if v1 < 0 then
      (rec5 v2 (v2 + (1 : Int32)))
    else
      (bd1 (zf_X0_helpedOf B v2) fun r1 =>
      bd1 (zf_X0_helpedOf B v1) fun r2 =>
      if r1 ≤ r2 then
        (rec5 v1 (v2 + (1 : Int32)))
      else
        (rec5 v2 (v2 + (1 : Int32)))))
def zf_X0_mostHelped (B : BT) : Option Int32 :=
  zl2 (zf_X0_mostHelped_b5 B) zb_FU ((-9) : Int32) (0 : Int32)
def zf_X0_together_b6 (B : BT) (rec6 : Int32 → Int32 → Int32 → Option Int32) (v1 : Int32) (v2 : Int32) (v3 : Int32) : Option Int32 :=
  if (bt_people B) ≤ v3 then
    (some v2)
  else
    (bd1 (zf_X0_placeOf B v3) fun r1 =>
    rec6 (v1 ||| ((1 : Int32) <<< (r1 &&& 31))) (v2 ||| (v1 &&& ((1 : Int32) <<< (r1 &&& 31)))) (v3 + (1 : Int32)))
def zf_X0_together (B : BT) : Option Int32 :=
  zl3 (zf_X0_together_b6 B) zb_FU (0 : Int32) (0 : Int32) (0 : Int32)
def zf_X0_isAtEdge_b2 (v0 : Int32) (rec2 : Int32 → Option Int32) (v1 : Int32) : Option Int32 :=
  if (4 : Int32) ≤ v1 then
    (some (0 : Int32))
  else
    (bd1 (zf_X1_nodeThatWay v0 v1) fun r1 =>
    if 0 ≤ r1 then
      (rec2 (v1 + (1 : Int32)))
    else
      (some (1 : Int32)))
def zf_X0_isAtEdge (v0 : Int32) : Option Int32 :=
  zl1 (zf_X0_isAtEdge_b2 v0) zb_FU (0 : Int32)
def zf_X0_atEdges_b4 (B : BT) (rec4 : Int32 → Int32 → Option Int32) (v1 : Int32) (v2 : Int32) : Option Int32 :=
  if (bt_people B) ≤ v2 then
    (some v1)
  else
    (bd1 (zf_X0_placeOf B v2) fun r1 =>
    bd1 (zf_X0_isAtEdge r1) fun r2 =>
    if r2 = 0 then
      (rec4 v1 (v2 + (1 : Int32)))
    else
      (rec4 (v1 + (1 : Int32)) (v2 + (1 : Int32))))
def zf_X0_atEdges (B : BT) : Option Int32 :=
  zl2 (zf_X0_atEdges_b4 B) zb_FU (0 : Int32) (0 : Int32)
def zf_X0_stuckPeople_b4 (B : BT) (rec4 : Int32 → Int32 → Option Int32) (v1 : Int32) (v2 : Int32) : Option Int32 :=
  if (bt_people B) ≤ v2 then
    (some v1)
  else
    (bd1 (zf_X0_placeOf B v2) fun r1 =>
    bd1 (zf_X0_wetOf B r1) fun r2 =>
    if r2 = 0 then
      (rec4 (v1 + (1 : Int32)) (v2 + (1 : Int32)))
    else
      (rec4 v1 (v2 + (1 : Int32))))
def zf_X0_stuckPeople (B : BT) : Option Int32 :=
  zl2 (zf_X0_stuckPeople_b4 B) zb_FU (0 : Int32) (0 : Int32)
def zf_X0_distance (v0 : Int32) (v1 : Int32) : Option Int32 :=
  some ((if 0 ≤ ((v0 / (6 : Int32)) - (v1 / (6 : Int32))) then ((v0 / (6 : Int32)) - (v1 / (6 : Int32))) else 0 - ((v0 / (6 : Int32)) - (v1 / (6 : Int32)))) + (if 0 ≤ ((jr v0 (6 : Int32)) - (jr v1 (6 : Int32))) then ((jr v0 (6 : Int32)) - (jr v1 (6 : Int32))) else 0 - ((jr v0 (6 : Int32)) - (jr v1 (6 : Int32)))))
def zf_X0_nearest_b9 (v1 : Int32) (B : BT) (rec9 : Int32 → Int32 → Int32 → Option Int32) (v2 : Int32) (v3 : Int32) (v4 : Int32) : Option Int32 :=
  if (bt_people B) ≤ v4 then
    (some v2)
  else
    (bd1 (zf_X0_placeOf B v4) fun r1 =>
    bd1 (zf_X0_distance r1 v1) fun r2 =>
    if v3 ≤ r2 then
      (rec9 v2 v3 (v4 + (1 : Int32)))
    else
      (rec9 v4 r2 (v4 + (1 : Int32))))
def zf_X0_nearest (B : BT) (v1 : Int32) : Option Int32 :=
  zl3 (zf_X0_nearest_b9 v1 B) zb_FU ((-9) : Int32) (30 : Int32) (0 : Int32)
def zf_X1_refuse (g_refusals : (Nat → Int32)) (v1 : Int32) : Option (Int32 × (Nat → Int32)) :=
  if ((-v1) - (1 : Int32)) < 0 then
    (some (v1, g_refusals))
  else
    (if (6 : Int32) ≤ ((-v1) - (1 : Int32)) then
      (some (v1, g_refusals))
    else
      (if ((-v1) - (1 : Int32)) < 0 ∨ 6 ≤ ((-v1) - (1 : Int32)).toNatClampNeg then none else
      if ((-v1) - (1 : Int32)) < 0 ∨ 6 ≤ ((-v1) - (1 : Int32)).toNatClampNeg then none else
      some (v1, (upd g_refusals ((-v1) - (1 : Int32)).toNatClampNeg ((g_refusals ((-v1) - (1 : Int32)).toNatClampNeg) + (1 : Int32))))))
def zf_X1_letter (g_letters : (Nat → Int32)) (g_letterCount : Int32) (g_refusals : (Nat → Int32)) (v1 : Int32) : Option (Int32 × (Nat → Int32) × Int32 × (Nat → Int32)) :=
  if 0 ≤ v1 then
    (if (255 : Int32) < v1 then
      (bd2 (zf_X1_refuse g_refusals ((-6) : Int32)) fun r1 n2 =>
      some (r1, g_letters, g_letterCount, n2))
    else
      (if g_letterCount < (96 : Int32) then
        (if g_letterCount < 0 then
          (some ((g_letterCount + (1 : Int32)), g_letters, (g_letterCount + (1 : Int32)), g_refusals))
        else
          (if (96 : Int32) ≤ g_letterCount then
            (some ((g_letterCount + (1 : Int32)), g_letters, (g_letterCount + (1 : Int32)), g_refusals))
          else
            (if g_letterCount < 0 ∨ 96 ≤ g_letterCount.toNatClampNeg then none else
            some ((g_letterCount + (1 : Int32)), (upd g_letters g_letterCount.toNatClampNeg v1), (g_letterCount + (1 : Int32)), g_refusals))))
      else
        (bd2 (zf_X1_refuse g_refusals ((-6) : Int32)) fun r3 n4 =>
        some (r3, g_letters, g_letterCount, n4))))
  else
    (bd2 (zf_X1_refuse g_refusals ((-4) : Int32)) fun r5 n6 =>
    some (r5, g_letters, g_letterCount, n6))
def zf_J0_isLatin1_aae02 (k0 : Nat) : Option Int32 :=
  if 5 ≤ k0 then none else
  some (1 : Int32)
def zf_J3_checkIndex_8e157 (v0 : Int32) (v1 : Int32) (v2 : (Option Nat)) : Option Int32 :=
  if v0 < 0 then
    (none)
  else
    (if v0 < v1 then
      (some v0)
    else
      (none))
def zf_J0_checkIndex_df160 (v0 : Int32) (v1 : Int32) : Option Unit :=
  bd1 (zf_J3_checkIndex_8e157 v0 v1 none) fun r1 =>
  some ()
def zf_J1_charAt_3b067 (v0 : Nat) (v1 : Int32) : Option Int32 :=
  if 5 ≤ v0 then none else
  bd1 (zf_J0_checkIndex_df160 v1 (zs_L v0)) fun _ =>
  if 5 ≤ v0 then none else
  if v1 < 0 ∨ zs_len.getD v0 0 ≤ v1.toNatClampNeg then none else
  if ((((zs_C v0 v1.toNatClampNeg) &&& (255 : Int32)).toUInt32 % 65536).toInt32.toUInt32 % 65536).toInt32 = (((zs_C v0 v1.toNatClampNeg) &&& (255 : Int32)).toUInt32 % 65536).toInt32 then
  some (((zs_C v0 v1.toNatClampNeg) &&& (255 : Int32)).toUInt32 % 65536).toInt32 else none
def zf_J0_charAt_5068e (k0 : Nat) (v1 : Int32) : Option Int32 :=
  if 5 ≤ k0 then none else
  bd1 (zf_J0_isLatin1_aae02 k0) fun r1 =>
  if r1 = 0 then
    (if 5 ≤ k0 then none else
    none)
  else
    (if 5 ≤ k0 then none else
    bd1 (zf_J1_charAt_3b067 k0 v1) fun r2 =>
    if (r2.toUInt32 % 65536).toInt32 = r2 then
    some r2 else none)
def zf_J0_isEmpty_aae02 (k0 : Nat) : Option Int32 :=
  if 5 ≤ k0 then none else
  if 5 ≤ k0 then none else
  if (zs_L k0) = 0 then
    (some (1 : Int32))
  else
    (some (0 : Int32))
def zf_J0_coder_7d493 (k0 : Nat) : Option Int32 :=
  if 5 ≤ k0 then none else
  some (0 : Int32)
def zf_J0_length_8abf5 (k0 : Nat) : Option Int32 :=
  if 5 ≤ k0 then none else
  if 5 ≤ k0 then none else
  if 5 ≤ k0 then none else
  bd1 (zf_J0_coder_7d493 k0) fun r1 =>
  some ((zs_L k0) >>> (r1 &&& 31))
def zf_J1_canEncode_9a6ad (v0 : Int32) : Option Int32 :=
  if v0 < 0 then
    (some (0 : Int32))
  else
    (if (255 : Int32) < v0 then
      (some (0 : Int32))
    else
      (some (1 : Int32)))
def zf_J1_indexOfChar_4cfef_b7 (v0 : Nat) (v3 : Int32) (v4 : Int32) (rec7 : Int32 → Option Int32) (v5 : Int32) : Option Int32 :=
  if v3 ≤ v5 then
    (some ((-1) : Int32))
  else
    (if 5 ≤ v0 then none else
    if v5 < 0 ∨ zs_len.getD v0 0 ≤ v5.toNatClampNeg then none else
    if (zs_C v0 v5.toNatClampNeg) = v4 then
      (some v5)
    else
      (rec7 (v5 + (1 : Int32))))
def zf_J1_indexOfChar_4cfef (v0 : Nat) (v1 : Int32) (v2 : Int32) (v3 : Int32) : Option Int32 :=
  zl1 (zf_J1_indexOfChar_4cfef_b7 v0 v3 v1.toInt8.toInt32) zb_FU v2
def zf_J1_indexOf_4cfef (v0 : Nat) (v1 : Int32) (v2 : Int32) (v3 : Int32) : Option Int32 :=
  bd1 (zf_J1_canEncode_9a6ad v1) fun r1 =>
  if r1 = 0 then
    (some ((-1) : Int32))
  else
    (if 5 ≤ v0 then none else
    if (if v2 < (0 : Int32) then (0 : Int32) else v2) < (if (zs_L v0) < v3 then (zs_L v0) else v3) then
      (bd1 (zf_J1_indexOfChar_4cfef v0 v1 (if v2 < (0 : Int32) then (0 : Int32) else v2) (if (zs_L v0) < v3 then (zs_L v0) else v3)) fun r2 =>
      some r2)
    else
      (some ((-1) : Int32)))
def zf_J0_indexOf_7cf53 (k0 : Nat) (v1 : Int32) (v2 : Int32) : Option Int32 :=
  if 5 ≤ k0 then none else
  bd1 (zf_J0_isLatin1_aae02 k0) fun r1 =>
  if r1 = 0 then
    (if 5 ≤ k0 then none else
    if 5 ≤ k0 then none else
    bd1 (zf_J0_length_8abf5 k0) fun r2 =>
    none)
  else
    (if 5 ≤ k0 then none else
    if 5 ≤ k0 then none else
    bd1 (zf_J0_length_8abf5 k0) fun r3 =>
    bd1 (zf_J1_indexOf_4cfef k0 v1 v2 r3) fun r4 =>
    some r4)
def zf_J0_indexOf_0f7a4 (k0 : Nat) (v1 : Int32) : Option Int32 :=
  if 5 ≤ k0 then none else
  bd1 (zf_J0_indexOf_7cf53 k0 v1 (0 : Int32)) fun r1 =>
  some r1
def zf_X1_kindBy (v0 : Int32) : Option Int32 :=
  if 0 ≤ v0 then
    (bd1 (zf_J0_indexOf_0f7a4 4 (v0.toUInt32 % 65536).toInt32) fun r1 =>
    some r1)
  else
    (some ((-1) : Int32))
def zf_X1_fits (v0 : Int32) (v1 : Int32) : Option Int32 :=
  if v1 = (100 : Int32) then
    (if v0 < (48 : Int32) then
      (some (0 : Int32))
    else
      (if (57 : Int32) < v0 then
        (some (0 : Int32))
      else
        (some (1 : Int32))))
  else
    (if v1 = (107 : Int32) then
      (bd1 (zf_X1_kindBy v0) fun r1 =>
      if r1 < 0 then
        (some (0 : Int32))
      else
        (some (1 : Int32)))
    else
      (if v0 = v1 then
        (some (1 : Int32))
      else
        (some (0 : Int32))))
def zf_X1_formBehind (v0 : Int32) : Option Nat :=
  if v0 = (97 : Int32) then
    (some 1)
  else if v0 = (104 : Int32) then
    (some 2)
  else if v0 = (110 : Int32) then
    (some 0)
  else if v0 = (112 : Int32) then
    (some 1)
  else if v0 = (115 : Int32) then
    (some 2)
  else if v0 = (119 : Int32) then
    (some 1)
  else 
    (some 3)
def zf_X1_letterAt (g_letters : (Nat → Int32)) (g_letterCount : Int32) (v1 : Int32) : Option Int32 :=
  if v1 < 0 then
    (some ((-1) : Int32))
  else
    (if g_letterCount ≤ v1 then
      (some ((-1) : Int32))
    else
      (if (96 : Int32) ≤ v1 then
        (some ((-1) : Int32))
      else
        (if v1 < 0 ∨ 96 ≤ v1.toNatClampNeg then none else
        some (g_letters v1.toNatClampNeg))))
def zf_X1_placeAmiss_b42 (rec11 : Int32 → Option Int32) (v2 : Nat) (g_letters : (Nat → Int32)) (g_letterCount : Int32) (rec42 : Int32 → Int32 → Option Int32) (v1 : Int32) (v3 : Int32) : Option Int32 :=
  if 5 ≤ v2 then none else
  bd1 (zf_J0_length_8abf5 v2) fun r4 =>
  if r4 ≤ v3 then
    (rec11 v1)
  else
    (bd1 (zf_X1_letterAt g_letters g_letterCount v1) fun r5 =>
    if 5 ≤ v2 then none else
    bd1 (zf_J0_charAt_5068e v2 v3) fun r6 =>
    bd1 (zf_X1_fits r5 r6) fun r7 =>
    if r7 = 0 then
      (some v1)
    else
      (rec42 (v1 + (1 : Int32)) (v3 + (1 : Int32))))
def zf_X1_placeAmiss_b11 (g_letters : (Nat → Int32)) (g_letterCount : Int32) (rec11 : Int32 → Option Int32) (v1 : Int32) : Option Int32 :=
  if g_letterCount ≤ v1 then
    (some ((-1) : Int32))
  else
    (bd1 (zf_X1_letterAt g_letters g_letterCount v1) fun r1 =>
    bd1 (zf_X1_formBehind r1) fun r2 =>
    if 5 ≤ r2 then none else
    bd1 (zf_J0_isEmpty_aae02 r2) fun r3 =>
    if r3 = 0 then
      (zl2 (zf_X1_placeAmiss_b42 rec11 r2 g_letters g_letterCount) zb_FU (v1 + (1 : Int32)) (0 : Int32))
    else
      (some v1))
def zf_X1_placeAmiss (g_letters : (Nat → Int32)) (g_letterCount : Int32) : Option Int32 :=
  if g_letterCount = 0 then
    (some (0 : Int32))
  else
    (zl1 (zf_X1_placeAmiss_b11 g_letters g_letterCount) zb_FU (0 : Int32))
def zf_X1_digit (g_letters : (Nat → Int32)) (g_letterCount : Int32) (v1 : Int32) : Option Int32 :=
  bd1 (zf_X1_letterAt g_letters g_letterCount v1) fun r1 =>
  some (r1 - (48 : Int32))
def zf_X1_number (g_letters : (Nat → Int32)) (g_letterCount : Int32) (v1 : Int32) : Option Int32 :=
  bd1 (zf_X1_digit g_letters g_letterCount v1) fun r1 =>
  bd1 (zf_X1_digit g_letters g_letterCount (v1 + (1 : Int32))) fun r2 =>
  some (((10 : Int32) * r1) + r2)
def zf_X1_isWay (v0 : Int32) : Option Int32 :=
  if v0 < 0 then
    (some (0 : Int32))
  else
    (if (4 : Int32) ≤ v0 then
      (some (0 : Int32))
    else
      (some (1 : Int32)))
def zf_X1_tellComing (g_mind : BT) (v1 : Int32) (v2 : Int32) : Option (Int32 × BT) :=
  bd1 (zf_X1_isNode v1) fun r1 =>
  if r1 = 0 then
    (some ((0 : Int32), g_mind))
  else
    (bd1 (zf_X1_isWay v2) fun r2 =>
    if r2 = 0 then
      (some ((0 : Int32), g_mind))
    else
      (bd1 (zf_X0_isFull g_mind) fun r3 =>
      if r3 = 0 then
        (bd2 (zf_X0_add g_mind v1 v2) fun r4 n5 =>
        some ((1 : Int32), n5))
      else
        (some ((0 : Int32), g_mind))))
def zf_X1_tellHeading (g_mind : BT) (v1 : Int32) (v2 : Int32) : Option (Int32 × BT) :=
  bd1 (zf_X0_has g_mind v1) fun r1 =>
  if r1 = 0 then
    (some ((0 : Int32), g_mind))
  else
    (bd1 (zf_X1_isWay v2) fun r2 =>
    if r2 = 0 then
      (some ((0 : Int32), g_mind))
    else
      (bd1 (zf_X0_putHeading g_mind v1 v2) fun n3 =>
      some ((1 : Int32), n3)))
def zf_X1_tellNode (g_mind : BT) (v1 : Int32) (v2 : Int32) (v3 : Int32) : Option (Int32 × BT) :=
  bd1 (zf_X1_isNode v1) fun r1 =>
  if r1 = 0 then
    (some ((0 : Int32), g_mind))
  else
    (bd1 (zf_X0_putKind g_mind v1 v2) fun n2 =>
    bd1 (zf_X0_putFigure n2 v1 v3) fun n3 =>
    some ((1 : Int32), n3))
def zf_X1_tellPlace (g_mind : BT) (v1 : Int32) (v2 : Int32) : Option (Int32 × BT) :=
  bd1 (zf_X0_has g_mind v1) fun r1 =>
  if r1 = 0 then
    (some ((0 : Int32), g_mind))
  else
    (bd1 (zf_X1_isNode v2) fun r2 =>
    if r2 = 0 then
      (some ((0 : Int32), g_mind))
    else
      (bd1 (zf_X0_putPlace g_mind v1 v2) fun n3 =>
      some ((1 : Int32), n3)))
def zf_X1_outside (v0 : Int32) (v1 : Int32) (v2 : Int32) : Option Int32 :=
  if v1 ≤ v0 then
    (if v0 ≤ v2 then
      (some (0 : Int32))
    else
      (some ((-6) : Int32)))
  else
    (some ((-4) : Int32))
def zf_X1_tellSteps (g_mind : BT) (v1 : Int32) : Option (Int32 × BT) :=
  bd1 (zf_X1_outside v1 (1 : Int32) (60 : Int32)) fun r1 =>
  if r1 = 0 then
    (bd1 (zf_X0_stepCount g_mind) fun r2 =>
    if (r2 + v1) ≤ (999 : Int32) then
      (bd1 (zf_X0_goOn g_mind v1 (0 : Int32)) fun n3 =>
      some ((1 : Int32), n3))
    else
      (some ((0 : Int32), g_mind)))
  else
    (some ((0 : Int32), g_mind))
def zf_X1_tellWet (g_mind : BT) (v1 : Int32) (v2 : Int32) : Option (Int32 × BT) :=
  bd1 (zf_X1_isNode v1) fun r1 =>
  if r1 = 0 then
    (some ((0 : Int32), g_mind))
  else
    (bd1 (zf_X0_putWet g_mind v1 v2) fun n2 =>
    some ((1 : Int32), n2))
def zf_X1_tellOne (g_mind : BT) (g_letters : (Nat → Int32)) (g_letterCount : Int32) (v1 : Int32) : Option (Int32 × BT) :=
  bd1 (zf_X1_letterAt g_letters g_letterCount v1) fun r1 =>
  if r1 = (97 : Int32) then
    (bd1 (zf_X1_digit g_letters g_letterCount (v1 + (1 : Int32))) fun r2 =>
    bd1 (zf_X1_number g_letters g_letterCount (v1 + (2 : Int32))) fun r3 =>
    bd2 (zf_X1_tellPlace g_mind r2 r3) fun r4 n5 =>
    if r4 = 0 ∨ r4 = 1 then
    some (r4, n5) else none)
  else if r1 = (104 : Int32) then
    (bd1 (zf_X1_digit g_letters g_letterCount (v1 + (1 : Int32))) fun r6 =>
    bd1 (zf_X1_digit g_letters g_letterCount (v1 + (2 : Int32))) fun r7 =>
    bd2 (zf_X1_tellHeading g_mind r6 r7) fun r8 n9 =>
    if r8 = 0 ∨ r8 = 1 then
    some (r8, n9) else none)
  else if r1 = (110 : Int32) then
    (bd1 (zf_X1_number g_letters g_letterCount (v1 + (1 : Int32))) fun r10 =>
    bd1 (zf_X1_letterAt g_letters g_letterCount (v1 + (3 : Int32))) fun r11 =>
    bd1 (zf_X1_kindBy r11) fun r12 =>
    bd1 (zf_X1_digit g_letters g_letterCount (v1 + (4 : Int32))) fun r13 =>
    bd2 (zf_X1_tellNode g_mind r10 r12 r13) fun r14 n15 =>
    if r14 = 0 ∨ r14 = 1 then
    some (r14, n15) else none)
  else if r1 = (112 : Int32) then
    (bd1 (zf_X1_number g_letters g_letterCount (v1 + (1 : Int32))) fun r16 =>
    bd1 (zf_X1_digit g_letters g_letterCount (v1 + (3 : Int32))) fun r17 =>
    bd2 (zf_X1_tellComing g_mind r16 r17) fun r18 n19 =>
    if r18 = 0 ∨ r18 = 1 then
    some (r18, n19) else none)
  else if r1 = (119 : Int32) then
    (bd1 (zf_X1_number g_letters g_letterCount (v1 + (1 : Int32))) fun r20 =>
    bd1 (zf_X1_digit g_letters g_letterCount (v1 + (3 : Int32))) fun r21 =>
    bd2 (zf_X1_tellWet g_mind r20 r21) fun r22 n23 =>
    if r22 = 0 ∨ r22 = 1 then
    some (r22, n23) else none)
  else 
    (bd1 (zf_X1_number g_letters g_letterCount (v1 + (1 : Int32))) fun r24 =>
    bd2 (zf_X1_tellSteps g_mind r24) fun r25 n26 =>
    if r25 = 0 ∨ r25 = 1 then
    some (r25, n26) else none)
def zf_X1_tellAll_j59 (v1 : Int32) (g_now : BT) (g_mind : BT) : Option (Int32 × BT × BT) :=
  bd1 (zf_X0_becomes g_now g_mind) fun n2 =>
  some (v1, n2, g_mind)
def zf_X1_tellAll_b15 (g_now : BT) (g_letters : (Nat → Int32)) (g_letterCount : Int32) (rec15 : Int32 → Int32 → BT → Option (Int32 × BT × BT)) (v1 : Int32) (v2 : Int32) (g_mind : BT) : Option (Int32 × BT × BT) :=
  if g_letterCount ≤ v2 then
    (zf_X1_tellAll_j59 v1 g_now g_mind)
  else
    (bd2 (zf_X1_tellOne g_mind g_letters g_letterCount v2) fun r3 n4 =>
    if r3 = 0 then
      (some ((((-2000) : Int32) - v2), g_now, n4))
    else
      (bd1 (zf_X1_letterAt g_letters g_letterCount v2) fun r5 =>
      bd1 (zf_X1_formBehind r5) fun r6 =>
      if 5 ≤ r6 then none else
      bd1 (zf_J0_length_8abf5 r6) fun r7 =>
      rec15 (v1 + (1 : Int32)) (v2 + ((1 : Int32) + r7)) n4))
def zf_X1_tellAll (g_now : BT) (g_mind : BT) (g_letters : (Nat → Int32)) (g_letterCount : Int32) : Option (Int32 × BT × BT) :=
  bd1 (zf_X0_becomes g_mind g_now) fun n1 =>
  zl3 (zf_X1_tellAll_b15 g_now g_letters g_letterCount) zb_FU (0 : Int32) (0 : Int32) n1
def zf_X1_wall (g_now : BT) (g_mind : BT) (g_letters : (Nat → Int32)) (g_letterCount : Int32) : Option (Int32 × BT × BT × Int32) :=
  bd1 (zf_X1_placeAmiss g_letters g_letterCount) fun r1 =>
  if r1 < 0 then
    (bd3 (zf_X1_tellAll g_now g_mind g_letters g_letterCount) fun r2 n3 n4 =>
    some (r2, n3, n4, (0 : Int32)))
  else
    (some ((((-1000) : Int32) - r1), g_now, g_mind, (0 : Int32)))
def zf_X1_node (g_now : BT) (g_refusals : (Nat → Int32)) (v1 : Int32) (v2 : Int32) : Option (Int32 × (Nat → Int32)) :=
  bd1 (zf_X1_isNode v1) fun r1 =>
  if r1 = 0 then
    (bd2 (zf_X1_refuse g_refusals ((-1) : Int32)) fun r7 n8 =>
    some (r7, n8))
  else
    (if v2 = 0 then
      (bd1 (zf_X0_kindOf g_now v1) fun r6 =>
      some (r6, g_refusals))
    else
      (if v2 = (1 : Int32) then
        (bd1 (zf_X0_figureOf g_now v1) fun r5 =>
        some (r5, g_refusals))
      else
        (if v2 = (2 : Int32) then
          (bd1 (zf_X0_wetOf g_now v1) fun r4 =>
          some (r4, g_refusals))
        else
          (bd2 (zf_X1_refuse g_refusals ((-2) : Int32)) fun r2 n3 =>
          some (r2, n3)))))
def zf_X1_person (g_now : BT) (g_refusals : (Nat → Int32)) (v1 : Int32) (v2 : Int32) : Option (Int32 × (Nat → Int32)) :=
  bd1 (zf_X0_has g_now v1) fun r1 =>
  if r1 = 0 then
    (bd2 (zf_X1_refuse g_refusals ((-1) : Int32)) fun r8 n9 =>
    some (r8, n9))
  else
    (if v2 < 0 then
      (bd2 (zf_X1_refuse g_refusals ((-2) : Int32)) fun r2 n3 =>
      some (r2, n3))
    else
      (if v2 ≤ (3 : Int32) then
        (if v2 = (3 : Int32) then
          (bd1 (zf_X0_wayNext g_now v1) fun r5 =>
          some (r5, g_refusals))
        else
          (bd1 (zf_X0_ofPerson g_now v1 v2) fun r4 =>
          some (r4, g_refusals)))
      else
        (bd2 (zf_X1_refuse g_refusals ((-2) : Int32)) fun r6 n7 =>
        some (r6, n7))))
def zf_X1_isKind (v0 : Int32) : Option Int32 :=
  if v0 < 0 then
    (some (0 : Int32))
  else
    (if (6 : Int32) ≤ v0 then
      (some (0 : Int32))
    else
      (some (1 : Int32)))
def zf_X1_lays (g_now : BT) (g_refusals : (Nat → Int32)) (v1 : Int32) (v2 : Int32) (v3 : Int32) : Option (Int32 × BT × (Nat → Int32)) :=
  bd1 (zf_X1_isNode v1) fun r1 =>
  if r1 = 0 then
    (bd2 (zf_X1_refuse g_refusals ((-1) : Int32)) fun r12 n13 =>
    some (r12, g_now, n13))
  else
    (bd1 (zf_X1_isKind v2) fun r2 =>
    if r2 = 0 then
      (bd2 (zf_X1_refuse g_refusals ((-2) : Int32)) fun r10 n11 =>
      some (r10, g_now, n11))
    else
      (bd1 (zf_X1_outside v3 (0 : Int32) (9 : Int32)) fun r3 =>
      if r3 = 0 then
        (bd1 (zf_X0_kindOf g_now v1) fun r4 =>
        bd1 (zf_X0_figureOf g_now v1) fun r5 =>
        bd1 (zf_X0_putKind g_now v1 v2) fun n6 =>
        bd1 (zf_X0_putFigure n6 v1 v3) fun n7 =>
        some ((((10 : Int32) * r4) + r5), n7, g_refusals))
      else
        (bd2 (zf_X1_refuse g_refusals r3) fun r8 n9 =>
        some (r8, g_now, n9))))
def zf_X1_wets (g_now : BT) (g_refusals : (Nat → Int32)) (v1 : Int32) (v2 : Int32) : Option (Int32 × BT × (Nat → Int32)) :=
  bd1 (zf_X1_isNode v1) fun r1 =>
  if r1 = 0 then
    (bd2 (zf_X1_refuse g_refusals ((-1) : Int32)) fun r7 n8 =>
    some (r7, g_now, n8))
  else
    (bd1 (zf_X1_outside v2 (0 : Int32) (9 : Int32)) fun r2 =>
    if r2 = 0 then
      (bd1 (zf_X0_wetOf g_now v1) fun r3 =>
      bd1 (zf_X0_putWet g_now v1 v2) fun n4 =>
      some (r3, n4, g_refusals))
    else
      (bd2 (zf_X1_refuse g_refusals r2) fun r5 n6 =>
      some (r5, g_now, n6)))
def zf_X1_comesIn (g_now : BT) (g_refusals : (Nat → Int32)) (v1 : Int32) (v2 : Int32) : Option (Int32 × BT × (Nat → Int32)) :=
  bd1 (zf_X1_isNode v1) fun r1 =>
  if r1 = 0 then
    (bd2 (zf_X1_refuse g_refusals ((-1) : Int32)) fun r2 n3 =>
    some (r2, g_now, n3))
  else
    (bd1 (zf_X1_isWay v2) fun r4 =>
    if r4 = 0 then
      (bd2 (zf_X1_refuse g_refusals ((-1) : Int32)) fun r10 n11 =>
      some (r10, g_now, n11))
    else
      (bd1 (zf_X0_isFull g_now) fun r5 =>
      if r5 = 0 then
        (bd2 (zf_X0_add g_now v1 v2) fun r6 n7 =>
        some (r6, n7, g_refusals))
      else
        (bd2 (zf_X1_refuse g_refusals ((-6) : Int32)) fun r8 n9 =>
        some (r8, g_now, n9))))
def zf_X1_heads (g_now : BT) (g_refusals : (Nat → Int32)) (v1 : Int32) (v2 : Int32) : Option (Int32 × BT × (Nat → Int32)) :=
  bd1 (zf_X0_has g_now v1) fun r1 =>
  if r1 = 0 then
    (bd2 (zf_X1_refuse g_refusals ((-1) : Int32)) fun r2 n3 =>
    some (r2, g_now, n3))
  else
    (bd1 (zf_X1_isWay v2) fun r4 =>
    if r4 = 0 then
      (bd2 (zf_X1_refuse g_refusals ((-1) : Int32)) fun r7 n8 =>
      some (r7, g_now, n8))
    else
      (bd1 (zf_X0_headingOf g_now v1) fun r5 =>
      bd1 (zf_X0_putHeading g_now v1 v2) fun n6 =>
      some (r5, n6, g_refusals)))
def zf_X1_stands (g_now : BT) (g_refusals : (Nat → Int32)) (v1 : Int32) (v2 : Int32) : Option (Int32 × BT × (Nat → Int32)) :=
  bd1 (zf_X0_has g_now v1) fun r1 =>
  if r1 = 0 then
    (bd2 (zf_X1_refuse g_refusals ((-1) : Int32)) fun r2 n3 =>
    some (r2, g_now, n3))
  else
    (bd1 (zf_X1_isNode v2) fun r4 =>
    if r4 = 0 then
      (bd2 (zf_X1_refuse g_refusals ((-1) : Int32)) fun r7 n8 =>
      some (r7, g_now, n8))
    else
      (bd1 (zf_X0_placeOf g_now v1) fun r5 =>
      bd1 (zf_X0_putPlace g_now v1 v2) fun n6 =>
      some (r5, n6, g_refusals)))
def zf_X1_steps (g_now : BT) (g_refusals : (Nat → Int32)) (v1 : Int32) : Option (Int32 × BT × (Nat → Int32)) :=
  bd1 (zf_X1_outside v1 (1 : Int32) (60 : Int32)) fun r1 =>
  if r1 = 0 then
    (bd1 (zf_X0_stepCount g_now) fun r2 =>
    if (r2 + v1) ≤ (999 : Int32) then
      (bd1 (zf_X0_goOn g_now v1 (0 : Int32)) fun n3 =>
      bd1 (zf_X0_allWet n3) fun r4 =>
      some (r4, n3, g_refusals))
    else
      (bd2 (zf_X1_refuse g_refusals ((-6) : Int32)) fun r5 n6 =>
      some (r5, g_now, n6)))
  else
    (bd2 (zf_X1_refuse g_refusals r1) fun r7 n8 =>
    some (r7, g_now, n8))
def zf_X1_personThen (g_now : BT) (g_mind : BT) (g_refusals : (Nat → Int32)) (v1 : Int32) (v2 : Int32) (v3 : Int32) : Option (Int32 × BT × (Nat → Int32)) :=
  bd1 (zf_X0_has g_now v1) fun r1 =>
  if r1 = 0 then
    (bd2 (zf_X1_refuse g_refusals ((-1) : Int32)) fun r12 n13 =>
    some (r12, g_mind, n13))
  else
    (bd1 (zf_X1_outside v2 (0 : Int32) (60 : Int32)) fun r2 =>
    if r2 = 0 then
      (if v3 < 0 then
        (bd2 (zf_X1_refuse g_refusals ((-2) : Int32)) fun r3 n4 =>
        some (r3, g_mind, n4))
      else
        (if v3 ≤ (2 : Int32) then
          (bd1 (zf_X0_becomes g_mind g_now) fun n5 =>
          bd1 (zf_X0_goOn n5 v2 (0 : Int32)) fun n6 =>
          bd1 (zf_X0_ofPerson n6 v1 v3) fun r7 =>
          some (r7, n6, g_refusals))
        else
          (bd2 (zf_X1_refuse g_refusals ((-2) : Int32)) fun r8 n9 =>
          some (r8, g_mind, n9))))
    else
      (bd2 (zf_X1_refuse g_refusals r2) fun r10 n11 =>
      some (r10, g_mind, n11)))
def zf_X1_wetThen (g_now : BT) (g_mind : BT) (g_refusals : (Nat → Int32)) (v1 : Int32) (v2 : Int32) : Option (Int32 × BT × (Nat → Int32)) :=
  bd1 (zf_X1_isNode v1) fun r1 =>
  if r1 = 0 then
    (bd2 (zf_X1_refuse g_refusals ((-1) : Int32)) fun r8 n9 =>
    some (r8, g_mind, n9))
  else
    (bd1 (zf_X1_outside v2 (0 : Int32) (60 : Int32)) fun r2 =>
    if r2 = 0 then
      (bd1 (zf_X0_becomes g_mind g_now) fun n3 =>
      bd1 (zf_X0_goOn n3 v2 (0 : Int32)) fun n4 =>
      bd1 (zf_X0_wetOf n4 v1) fun r5 =>
      some (r5, n4, g_refusals))
    else
      (bd2 (zf_X1_refuse g_refusals r2) fun r6 n7 =>
      some (r6, g_mind, n7)))
def zf_X1_comes (g_now : BT) (g_mind : BT) (g_refusals : (Nat → Int32)) (v1 : Int32) (v2 : Int32) : Option (Int32 × BT × (Nat → Int32)) :=
  bd1 (zf_X0_has g_now v1) fun r1 =>
  if r1 = 0 then
    (bd2 (zf_X1_refuse g_refusals ((-1) : Int32)) fun r2 n3 =>
    some (r2, g_mind, n3))
  else
    (bd1 (zf_X1_isNode v2) fun r4 =>
    if r4 = 0 then
      (bd2 (zf_X1_refuse g_refusals ((-1) : Int32)) fun r8 n9 =>
      some (r8, g_mind, n9))
    else
      (bd1 (zf_X0_becomes g_mind g_now) fun n5 =>
      bd2 (zf_X0_soonestAt n5 v1 v2) fun r6 n7 =>
      some (r6, n7, g_refusals)))
def zf_X1_visits (g_now : BT) (g_mind : BT) (g_refusals : (Nat → Int32)) (v1 : Int32) (v2 : Int32) : Option (Int32 × BT × (Nat → Int32)) :=
  bd1 (zf_X0_has g_now v1) fun r1 =>
  if r1 = 0 then
    (bd2 (zf_X1_refuse g_refusals ((-1) : Int32)) fun r8 n9 =>
    some (r8, g_mind, n9))
  else
    (bd1 (zf_X1_outside v2 (0 : Int32) (60 : Int32)) fun r2 =>
    if r2 = 0 then
      (bd1 (zf_X0_becomes g_mind g_now) fun n3 =>
      bd2 (zf_X0_visitsIn n3 v1 v2) fun r4 n5 =>
      some (r4, n5, g_refusals))
    else
      (bd2 (zf_X1_refuse g_refusals r2) fun r6 n7 =>
      some (r6, g_mind, n7)))
def zf_X1_stops_b30 (v1 : Int32) (g_refusals : (Nat → Int32)) (rec30 : Int32 → BT → Option (Int32 × BT × (Nat → Int32))) (v2 : Int32) (g_mind : BT) : Option (Int32 × BT × (Nat → Int32)) :=
  if (60 : Int32) < v2 then
    (some (((-9) : Int32), g_mind, g_refusals))
  else
    (bd1 (zf_X0_placeOf g_mind v1) fun r3 =>
    bd1 (zf_X0_wetOf g_mind r3) fun r4 =>
    if r4 = 0 then
      (some (v2, g_mind, g_refusals))
    else
      (bd1 (zf_X0_goOn g_mind (1 : Int32) (0 : Int32)) fun n5 =>
      rec30 (v2 + (1 : Int32)) n5))
def zf_X1_stops (g_now : BT) (g_mind : BT) (g_refusals : (Nat → Int32)) (v1 : Int32) : Option (Int32 × BT × (Nat → Int32)) :=
  bd1 (zf_X0_has g_now v1) fun r1 =>
  if r1 = 0 then
    (bd2 (zf_X1_refuse g_refusals ((-1) : Int32)) fun r6 n7 =>
    some (r6, g_mind, n7))
  else
    (bd1 (zf_X0_becomes g_mind g_now) fun n2 =>
    zl2 (zf_X1_stops_b30 v1 g_refusals) zb_FU (0 : Int32) n2)
def zf_X1_areTwo (g_now : BT) (v1 : Int32) (v2 : Int32) : Option Int32 :=
  bd1 (zf_X0_has g_now v1) fun r1 =>
  if r1 = 0 then
    (some (0 : Int32))
  else
    (bd1 (zf_X0_has g_now v2) fun r2 =>
    if r2 = 0 then
      (some (0 : Int32))
    else
      (if v1 = v2 then
        (some (0 : Int32))
      else
        (some (1 : Int32))))
def zf_X1_meets_b28 (v1 : Int32) (v2 : Int32) (g_refusals : (Nat → Int32)) (rec28 : Int32 → BT → Option (Int32 × BT × (Nat → Int32))) (v3 : Int32) (g_mind : BT) : Option (Int32 × BT × (Nat → Int32)) :=
  if (60 : Int32) < v3 then
    (some (((-9) : Int32), g_mind, g_refusals))
  else
    (bd1 (zf_X0_placeOf g_mind v1) fun r3 =>
    bd1 (zf_X0_placeOf g_mind v2) fun r4 =>
    if r3 = r4 then
      (some (v3, g_mind, g_refusals))
    else
      (bd1 (zf_X0_goOn g_mind (1 : Int32) (0 : Int32)) fun n5 =>
      rec28 (v3 + (1 : Int32)) n5))
def zf_X1_meets (g_now : BT) (g_mind : BT) (g_refusals : (Nat → Int32)) (v1 : Int32) (v2 : Int32) : Option (Int32 × BT × (Nat → Int32)) :=
  bd1 (zf_X1_areTwo g_now v1 v2) fun r1 =>
  if r1 = 0 then
    (bd2 (zf_X1_refuse g_refusals ((-1) : Int32)) fun r6 n7 =>
    some (r6, g_mind, n7))
  else
    (bd1 (zf_X0_becomes g_mind g_now) fun n2 =>
    zl2 (zf_X1_meets_b28 v1 v2 g_refusals) zb_FU (0 : Int32) n2)
def zf_X1_round_b30 (v1 : Int32) (g_now : BT) (g_refusals : (Nat → Int32)) (rec30 : Int32 → BT → Option (Int32 × BT × (Nat → Int32))) (v2 : Int32) (g_mind : BT) : Option (Int32 × BT × (Nat → Int32)) :=
  if (60 : Int32) < v2 then
    (some (((-9) : Int32), g_mind, g_refusals))
  else
    (bd1 (zf_X0_goOn g_mind (1 : Int32) (0 : Int32)) fun n3 =>
    bd1 (zf_X0_placeOf n3 v1) fun r4 =>
    bd1 (zf_X0_placeOf g_now v1) fun r5 =>
    if r4 = r5 then
      (bd1 (zf_X0_headingOf n3 v1) fun r6 =>
      bd1 (zf_X0_headingOf g_now v1) fun r7 =>
      if r6 = r7 then
        (some (v2, n3, g_refusals))
      else
        (rec30 (v2 + (1 : Int32)) n3))
    else
      (rec30 (v2 + (1 : Int32)) n3))
def zf_X1_round (g_now : BT) (g_mind : BT) (g_refusals : (Nat → Int32)) (v1 : Int32) : Option (Int32 × BT × (Nat → Int32)) :=
  bd1 (zf_X0_has g_now v1) fun r1 =>
  if r1 = 0 then
    (bd2 (zf_X1_refuse g_refusals ((-1) : Int32)) fun r8 n9 =>
    some (r8, g_mind, n9))
  else
    (bd1 (zf_X0_becomes g_mind g_now) fun n2 =>
    zl2 (zf_X1_round_b30 v1 g_now g_refusals) zb_FU (1 : Int32) n2)
def zf_J7_fill_53178_b5 (v1 : Int32) (v3 : Int32) (rec5 : Int32 → (Nat → Int32) → Option (Nat → Int32)) (v2 : Int32) (r : (Nat → Int32)) : Option (Nat → Int32) :=
  if v3 ≤ v2 then
    (some r)
  else
    (if v2 < 0 ∨ 30 ≤ v2.toNatClampNeg then none else
    rec5 (v2 + (1 : Int32)) (upd r v2.toNatClampNeg v1))
def zf_J7_fill_53178 (r : (Nat → Int32)) (v1 : Int32) : Option (Nat → Int32) :=
  zl2 (zf_J7_fill_53178_b5 v1 (30 : Int32)) zb_FU (0 : Int32) r
def zf_X1_costOf (g_costs : (Nat → Int32)) (v1 : Int32) : Option Int32 :=
  if v1 < 0 then
    (some (1000 : Int32))
  else
    (if (30 : Int32) ≤ v1 then
      (some (1000 : Int32))
    else
      (if v1 < 0 ∨ 30 ≤ v1.toNatClampNeg then none else
      some (g_costs v1.toNatClampNeg)))
def zf_X1_putCost (g_costs : (Nat → Int32)) (v1 : Int32) (v2 : Int32) : Option (Nat → Int32) :=
  if v1 < 0 then
    (some g_costs)
  else
    (if (30 : Int32) ≤ v1 then
      (some g_costs)
    else
      (if v1 < 0 ∨ 30 ≤ v1.toNatClampNeg then none else
      some (upd g_costs v1.toNatClampNeg v2)))
def zf_X1_spread_b5 (v1 : Int32) (v2 : Int32) (rec5 : Int32 → Int32 → (Nat → Int32) → Option (Int32 × (Nat → Int32))) (v3 : Int32) (v4 : Int32) (g_costs : (Nat → Int32)) : Option (Int32 × (Nat → Int32)) :=
  if (4 : Int32) ≤ v4 then
    (if v3 = 0 ∨ v3 = 1 then
    some (v3, g_costs) else none)
  else
    (bd1 (zf_X1_nodeThatWay v1 v4) fun r1 =>
    if r1 < 0 then
      (rec5 v3 (v4 + (1 : Int32)) g_costs)
    else
      (bd1 (zf_X1_costOf g_costs r1) fun r2 =>
      if r2 ≤ v2 then
        (rec5 v3 (v4 + (1 : Int32)) g_costs)
      else
        (bd1 (zf_X1_putCost g_costs r1 v2) fun n3 =>
        rec5 (1 : Int32) (v4 + (1 : Int32)) n3)))
def zf_X1_spread (g_costs : (Nat → Int32)) (v1 : Int32) (v2 : Int32) : Option (Int32 × (Nat → Int32)) :=
  zl3 (zf_X1_spread_b5 v1 v2) zb_FU (0 : Int32) (0 : Int32) g_costs
def zf_X1_leastCost_j65 (rec40 : Int32 → Int32 → (Nat → Int32) → Option (Int32 × (Nat → Int32))) (v5 : Int32) (v7 : Int32) (k0 : Int32) (g_costs : (Nat → Int32)) : Option (Int32 × (Nat → Int32)) :=
  bd1 (zf_X1_costOf g_costs v7) fun r6 =>
  if (1000 : Int32) ≤ r6 then
    (rec40 v5 (v7 + (1 : Int32)) g_costs)
  else
    (bd1 (zf_X1_costOf g_costs v7) fun r7 =>
    bd2 (zf_X1_spread g_costs v7 (r7 + k0)) fun r8 n9 =>
    if r8 = 0 then
      (rec40 v5 (v7 + (1 : Int32)) n9)
    else
      (rec40 (1 : Int32) (v7 + (1 : Int32)) n9))
def zf_X1_leastCost_b40 (rec22 : Int32 → Int32 → (Nat → Int32) → Option (Int32 × (Nat → Int32))) (v3 : Int32) (v4 : Int32) (v6 : Int32) (g_now : BT) (rec40 : Int32 → Int32 → (Nat → Int32) → Option (Int32 × (Nat → Int32))) (v5 : Int32) (v7 : Int32) (g_costs : (Nat → Int32)) : Option (Int32 × (Nat → Int32)) :=
  if (30 : Int32) ≤ v7 then
    (rec22 v5 (v6 + (1 : Int32)) g_costs)
  else
    (bd1 (zf_X0_wetOf g_now v7) fun r5 =>
    if r5 ≤ 0 then
      (zf_X1_leastCost_j65 rec40 v5 v7 v4 g_costs)
    else
      (zf_X1_leastCost_j65 rec40 v5 v7 v3 g_costs))
def zf_X1_leastCost_b22 (v2 : Int32) (v3 : Int32) (v4 : Int32) (g_now : BT) (rec22 : Int32 → Int32 → (Nat → Int32) → Option (Int32 × (Nat → Int32))) (v5 : Int32) (v6 : Int32) (g_costs : (Nat → Int32)) : Option (Int32 × (Nat → Int32)) :=
  if (30 : Int32) ≤ v6 then
    (bd1 (zf_X1_costOf g_costs v2) fun r3 =>
    some (r3, g_costs))
  else
    (if v5 = 0 then
      (bd1 (zf_X1_costOf g_costs v2) fun r4 =>
      some (r4, g_costs))
    else
      (zl3 (zf_X1_leastCost_b40 rec22 v3 v4 v6 g_now) zb_FU (0 : Int32) (0 : Int32) g_costs))
def zf_X1_leastCost (g_now : BT) (g_costs : (Nat → Int32)) (v1 : Int32) (v2 : Int32) (v3 : Int32) (v4 : Int32) : Option (Int32 × (Nat → Int32)) :=
  bd1 (zf_J7_fill_53178 g_costs (1000 : Int32)) fun n1 =>
  bd1 (zf_X1_putCost n1 v1 (0 : Int32)) fun n2 =>
  zl3 (zf_X1_leastCost_b22 v2 v3 v4 g_now) zb_FU (1 : Int32) (0 : Int32) n2
def zf_X1_way (g_now : BT) (g_refusals : (Nat → Int32)) (g_costs : (Nat → Int32)) (v1 : Int32) (v2 : Int32) (v3 : Int32) : Option (Int32 × (Nat → Int32) × (Nat → Int32)) :=
  bd1 (zf_X1_isNode v1) fun r1 =>
  if r1 = 0 then
    (bd2 (zf_X1_refuse g_refusals ((-1) : Int32)) fun r2 n3 =>
    some (r2, n3, g_costs))
  else
    (bd1 (zf_X1_isNode v2) fun r4 =>
    if r4 = 0 then
      (bd2 (zf_X1_refuse g_refusals ((-1) : Int32)) fun r13 n14 =>
      some (r13, n14, g_costs))
    else
      (if v3 < 0 then
        (bd2 (zf_X1_refuse g_refusals ((-2) : Int32)) fun r5 n6 =>
        some (r5, n6, g_costs))
      else
        (if v3 ≤ (1 : Int32) then
          (if v3 = 0 then
            (bd2 (zf_X1_leastCost g_now g_costs v1 v2 (1 : Int32) (1000 : Int32)) fun r9 n10 =>
            if (1000 : Int32) ≤ r9 then
              (some (((-9) : Int32), g_refusals, n10))
            else
              (some (r9, g_refusals, n10)))
          else
            (bd2 (zf_X1_leastCost g_now g_costs v1 v2 (0 : Int32) (1 : Int32)) fun r7 n8 =>
            if (1000 : Int32) ≤ r7 then
              (some (((-9) : Int32), g_refusals, n8))
            else
              (some (r7, g_refusals, n8))))
        else
          (bd2 (zf_X1_refuse g_refusals ((-2) : Int32)) fun r11 n12 =>
          some (r11, n12, g_costs)))))
def zf_X1_begin_j123 (v3 : Int32) (v5 : Int32) (v6 : Int32) (g_mind : BT) (g_refusals : (Nat → Int32)) : Option (Int32 × BT × (Nat → Int32)) :=
  if v3 = 0 then
    (some (v5, g_mind, g_refusals))
  else
    (some (v6, g_mind, g_refusals))
def zf_X1_begin_b63 (v1 : Int32) (v2 : Int32) (v3 : Int32) (g_now : BT) (g_refusals : (Nat → Int32)) (rec63 : Int32 → Int32 → Int32 → BT → Option (Int32 × BT × (Nat → Int32))) (v5 : Int32) (v6 : Int32) (v7 : Int32) (g_mind : BT) : Option (Int32 × BT × (Nat → Int32)) :=
  if (30 : Int32) ≤ v7 then
    (zf_X1_begin_j123 v3 v5 v6 g_mind g_refusals)
  else
    (bd1 (zf_X0_becomes g_mind g_now) fun n5 =>
    bd1 (zf_X0_putPlace n5 v1 v7) fun n6 =>
    bd2 (zf_X0_visitsIn n6 v1 v2) fun r7 n8 =>
    if r7 ≤ v6 then
      (rec63 v5 v6 (v7 + (1 : Int32)) n8)
    else
      (rec63 v7 r7 (v7 + (1 : Int32)) n8))
def zf_X1_begin (g_now : BT) (g_mind : BT) (g_refusals : (Nat → Int32)) (v1 : Int32) (v2 : Int32) (v3 : Int32) : Option (Int32 × BT × (Nat → Int32)) :=
  bd1 (zf_X0_has g_now v1) fun r1 =>
  if r1 = 0 then
    (bd2 (zf_X1_refuse g_refusals ((-1) : Int32)) fun r13 n14 =>
    some (r13, g_mind, n14))
  else
    (bd1 (zf_X1_outside v2 (0 : Int32) (30 : Int32)) fun r2 =>
    if r2 = 0 then
      (if v3 < 0 then
        (bd2 (zf_X1_refuse g_refusals ((-2) : Int32)) fun r3 n4 =>
        some (r3, g_mind, n4))
      else
        (if v3 ≤ (1 : Int32) then
          (zl4 (zf_X1_begin_b63 v1 v2 v3 g_now g_refusals) zb_FU (0 : Int32) (0 : Int32) (0 : Int32) g_mind)
        else
          (bd2 (zf_X1_refuse g_refusals ((-2) : Int32)) fun r9 n10 =>
          some (r9, g_mind, n10))))
    else
      (bd2 (zf_X1_refuse g_refusals r2) fun r11 n12 =>
      some (r11, g_mind, n12)))
def zf_X1_head_b34 (v1 : Int32) (v2 : Int32) (g_now : BT) (g_refusals : (Nat → Int32)) (rec34 : Int32 → Int32 → Int32 → BT → Option (Int32 × BT × (Nat → Int32))) (v3 : Int32) (v4 : Int32) (v5 : Int32) (g_mind : BT) : Option (Int32 × BT × (Nat → Int32)) :=
  if (4 : Int32) ≤ v5 then
    (some (v3, g_mind, g_refusals))
  else
    (bd1 (zf_X0_becomes g_mind g_now) fun n5 =>
    bd1 (zf_X0_putHeading n5 v1 v5) fun n6 =>
    bd2 (zf_X0_soonestAt n6 v1 v2) fun r7 n8 =>
    if r7 < 0 then
      (rec34 v3 v4 (v5 + (1 : Int32)) n8)
    else
      (if v4 ≤ r7 then
        (rec34 v3 v4 (v5 + (1 : Int32)) n8)
      else
        (rec34 v5 r7 (v5 + (1 : Int32)) n8)))
def zf_X1_head (g_now : BT) (g_mind : BT) (g_refusals : (Nat → Int32)) (v1 : Int32) (v2 : Int32) : Option (Int32 × BT × (Nat → Int32)) :=
  bd1 (zf_X0_has g_now v1) fun r1 =>
  if r1 = 0 then
    (bd2 (zf_X1_refuse g_refusals ((-1) : Int32)) fun r2 n3 =>
    some (r2, g_mind, n3))
  else
    (bd1 (zf_X1_isNode v2) fun r4 =>
    if r4 = 0 then
      (bd2 (zf_X1_refuse g_refusals ((-1) : Int32)) fun r9 n10 =>
      some (r9, g_mind, n10))
    else
      (zl4 (zf_X1_head_b34 v1 v2 g_now g_refusals) zb_FU ((-9) : Int32) (61 : Int32) (0 : Int32) g_mind))
def zf_X1_damp_b64 (v1 : Int32) (v2 : Int32) (g_now : BT) (g_refusals : (Nat → Int32)) (rec64 : Int32 → Int32 → Int32 → BT → Option (Int32 × BT × (Nat → Int32))) (v4 : Int32) (v5 : Int32) (v6 : Int32) (g_mind : BT) : Option (Int32 × BT × (Nat → Int32)) :=
  if (30 : Int32) ≤ v6 then
    (some (v5, g_mind, g_refusals))
  else
    (bd1 (zf_X0_becomes g_mind g_now) fun n6 =>
    bd1 (zf_X0_putWet n6 v6 (9 : Int32)) fun n7 =>
    bd2 (zf_X0_visitsIn n7 v1 v2) fun r8 n9 =>
    if r8 ≤ v4 then
      (rec64 v4 v5 (v6 + (1 : Int32)) n9)
    else
      (rec64 r8 v6 (v6 + (1 : Int32)) n9))
def zf_X1_damp (g_now : BT) (g_mind : BT) (g_refusals : (Nat → Int32)) (v1 : Int32) (v2 : Int32) : Option (Int32 × BT × (Nat → Int32)) :=
  bd1 (zf_X0_has g_now v1) fun r1 =>
  if r1 = 0 then
    (bd2 (zf_X1_refuse g_refusals ((-1) : Int32)) fun r12 n13 =>
    some (r12, g_mind, n13))
  else
    (bd1 (zf_X1_outside v2 (0 : Int32) (30 : Int32)) fun r2 =>
    if r2 = 0 then
      (bd1 (zf_X0_becomes g_mind g_now) fun n3 =>
      bd2 (zf_X0_visitsIn n3 v1 v2) fun r4 n5 =>
      zl4 (zf_X1_damp_b64 v1 v2 g_now g_refusals) zb_FU r4 ((-9) : Int32) (0 : Int32) n5)
    else
      (bd2 (zf_X1_refuse g_refusals r2) fun r10 n11 =>
      some (r10, g_mind, n11)))
def zf_X1_bestKind_b54 (v1 : Int32) (v2 : Int32) (v3 : Int32) (g_now : BT) (g_refusals : (Nat → Int32)) (rec54 : Int32 → Int32 → Int32 → BT → Option (Int32 × BT × (Nat → Int32))) (v5 : Int32) (v6 : Int32) (v7 : Int32) (g_mind : BT) : Option (Int32 × BT × (Nat → Int32)) :=
  if (6 : Int32) ≤ v7 then
    (some (v5, g_mind, g_refusals))
  else
    (bd1 (zf_X0_becomes g_mind g_now) fun n6 =>
    bd1 (zf_X0_putKind n6 v1 v7) fun n7 =>
    bd2 (zf_X0_visitsIn n7 v2 v3) fun r8 n9 =>
    if r8 ≤ v6 then
      (rec54 v5 v6 (v7 + (1 : Int32)) n9)
    else
      (rec54 v7 r8 (v7 + (1 : Int32)) n9))
def zf_X1_bestKind (g_now : BT) (g_mind : BT) (g_refusals : (Nat → Int32)) (v1 : Int32) (v2 : Int32) (v3 : Int32) : Option (Int32 × BT × (Nat → Int32)) :=
  bd1 (zf_X1_isNode v1) fun r1 =>
  if r1 = 0 then
    (bd2 (zf_X1_refuse g_refusals ((-1) : Int32)) fun r2 n3 =>
    some (r2, g_mind, n3))
  else
    (bd1 (zf_X0_has g_now v2) fun r4 =>
    if r4 = 0 then
      (bd2 (zf_X1_refuse g_refusals ((-1) : Int32)) fun r12 n13 =>
      some (r12, g_mind, n13))
    else
      (bd1 (zf_X1_outside v3 (0 : Int32) (30 : Int32)) fun r5 =>
      if r5 = 0 then
        (zl4 (zf_X1_bestKind_b54 v1 v2 v3 g_now g_refusals) zb_FU (0 : Int32) (0 : Int32) (0 : Int32) g_mind)
      else
        (bd2 (zf_X1_refuse g_refusals r5) fun r10 n11 =>
        some (r10, g_mind, n11))))
def zf_X1_dry (g_now : BT) (g_refusals : (Nat → Int32)) (v1 : Int32) : Option (Int32 × (Nat → Int32)) :=
  if v1 = (0 : Int32) then
    (bd1 (zf_X0_dryNodes g_now) fun r1 =>
    bd1 (zf_J6_bitCount_0f7a4 r1) fun r2 =>
    some (r2, g_refusals))
  else if v1 = (1 : Int32) then
    (bd1 (zf_X0_wettest g_now) fun r3 =>
    some (r3, g_refusals))
  else if v1 = (2 : Int32) then
    (bd1 (zf_X0_allWet g_now) fun r4 =>
    some (r4, g_refusals))
  else if v1 = (3 : Int32) then
    (bd1 (zf_X0_mostHelped g_now) fun r5 =>
    some (r5, g_refusals))
  else if v1 = (4 : Int32) then
    (bd1 (zf_X0_together g_now) fun r6 =>
    some (r6, g_refusals))
  else if v1 = (5 : Int32) then
    (bd1 (zf_X0_atEdges g_now) fun r7 =>
    some (r7, g_refusals))
  else if v1 = (6 : Int32) then
    (bd1 (zf_X0_wettestRow g_now) fun r8 =>
    some (r8, g_refusals))
  else 
    (bd2 (zf_X1_refuse g_refusals ((-2) : Int32)) fun r9 n10 =>
    some (r9, n10))
def zf_X1_kinds_b18 (v1 : Int32) (g_now : BT) (g_refusals : (Nat → Int32)) (rec18 : Int32 → Int32 → Option (Int32 × (Nat → Int32))) (v2 : Int32) (v3 : Int32) : Option (Int32 × (Nat → Int32)) :=
  if (30 : Int32) ≤ v3 then
    (some (v2, g_refusals))
  else
    (bd1 (zf_X0_kindOf g_now v3) fun r2 =>
    if r2 = v1 then
      (rec18 (v2 + (1 : Int32)) (v3 + (1 : Int32)))
    else
      (rec18 v2 (v3 + (1 : Int32))))
def zf_X1_kinds (g_now : BT) (g_refusals : (Nat → Int32)) (v1 : Int32) : Option (Int32 × (Nat → Int32)) :=
  bd1 (zf_X1_isKind v1) fun r1 =>
  if r1 = 0 then
    (bd2 (zf_X1_refuse g_refusals ((-2) : Int32)) fun r3 n4 =>
    some (r3, n4))
  else
    (zl2 (zf_X1_kinds_b18 v1 g_now g_refusals) zb_FU (0 : Int32) (0 : Int32))
def zf_X1_near (g_now : BT) (g_refusals : (Nat → Int32)) (v1 : Int32) : Option (Int32 × (Nat → Int32)) :=
  bd1 (zf_X1_isNode v1) fun r1 =>
  if r1 = 0 then
    (bd2 (zf_X1_refuse g_refusals ((-1) : Int32)) fun r3 n4 =>
    some (r3, n4))
  else
    (bd1 (zf_X0_nearest g_now v1) fun r2 =>
    some (r2, g_refusals))
def zf_X1_gainOf (g_gains : (Nat → Int32)) (v1 : Int32) (v2 : Int32) : Option Int32 :=
  if (((2 : Int32) * v1) + v2) < 0 then
    (some (0 : Int32))
  else
    (if (8 : Int32) ≤ (((2 : Int32) * v1) + v2) then
      (some (0 : Int32))
    else
      (if (((2 : Int32) * v1) + v2) < 0 ∨ 8 ≤ (((2 : Int32) * v1) + v2).toNatClampNeg then none else
      some (g_gains (((2 : Int32) * v1) + v2).toNatClampNeg)))
def zf_X1_putGain (g_gains : (Nat → Int32)) (v1 : Int32) (v2 : Int32) (v3 : Int32) : Option (Nat → Int32) :=
  if (((2 : Int32) * v1) + v2) < 0 then
    (some g_gains)
  else
    (if (8 : Int32) ≤ (((2 : Int32) * v1) + v2) then
      (some g_gains)
    else
      (if (((2 : Int32) * v1) + v2) < 0 ∨ 8 ≤ (((2 : Int32) * v1) + v2).toNatClampNeg then none else
      some (upd g_gains (((2 : Int32) * v1) + v2).toNatClampNeg v3)))
def zf_X1_reckonGains_j132 (v1 : Int32) (v6 : Int32) (v7 : Int32) (v8 : Int32) (g_mind : BT) (g_gains : (Nat → Int32)) : Option (BT × (Nat → Int32)) :=
  bd1 (zf_J6_bitCount_0f7a4 v6) fun r2 =>
  bd1 (zf_X1_putGain g_gains v1 (0 : Int32) (r2 + v8)) fun n3 =>
  bd1 (zf_J6_bitCount_0f7a4 v7) fun r4 =>
  bd1 (zf_X1_putGain n3 v1 (1 : Int32) (r4 + v8)) fun n5 =>
  some (g_mind, n5)
def zf_X1_reckonGains_j74 (rec52 : Int32 → Int32 → Int32 → Int32 → BT → Option (BT × (Nat → Int32))) (v2 : Int32) (v3 : Int32) (v6 : Int32) (v7 : Int32) (v8 : Int32) (v9 : Int32) (g_mind : BT) : Option (BT × (Nat → Int32)) :=
  bd1 (zf_X0_placeOf g_mind v2) fun r6 =>
  bd1 (zf_X0_placeOf g_mind v3) fun r7 =>
  bd1 (zf_X0_placeOf g_mind v2) fun r8 =>
  bd1 (zf_X0_placeOf g_mind v3) fun r9 =>
  if r8 = r9 then
    (rec52 (v6 ||| ((1 : Int32) <<< (r6 &&& 31))) (v7 ||| ((1 : Int32) <<< (r7 &&& 31))) (2 : Int32) (v9 + (1 : Int32)) g_mind)
  else
    (rec52 (v6 ||| ((1 : Int32) <<< (r6 &&& 31))) (v7 ||| ((1 : Int32) <<< (r7 &&& 31))) v8 (v9 + (1 : Int32)) g_mind)
def zf_X1_reckonGains_b52 (v1 : Int32) (v2 : Int32) (v3 : Int32) (v4 : Int32) (v5 : Int32) (g_gains : (Nat → Int32)) (rec52 : Int32 → Int32 → Int32 → Int32 → BT → Option (BT × (Nat → Int32))) (v6 : Int32) (v7 : Int32) (v8 : Int32) (v9 : Int32) (g_mind : BT) : Option (BT × (Nat → Int32)) :=
  if v4 < v9 then
    (zf_X1_reckonGains_j132 v1 v6 v7 v8 g_mind g_gains)
  else
    (if v9 ≤ 0 then
      (zf_X1_reckonGains_j74 rec52 v2 v3 v6 v7 v8 v9 g_mind)
    else
      (bd1 (zf_X0_goOn g_mind (1 : Int32) v5) fun n10 =>
      zf_X1_reckonGains_j74 rec52 v2 v3 v6 v7 v8 v9 n10))
def zf_X1_reckonGains_j24 (v1 : Int32) (v2 : Int32) (v3 : Int32) (v4 : Int32) (k0 : Int32) (g_mind : BT) (g_gains : (Nat → Int32)) : Option (BT × (Nat → Int32)) :=
  if (v1 &&& (1 : Int32)) = 0 then
    (zl5 (zf_X1_reckonGains_b52 v1 v2 v3 v4 (k0 ||| ((1 : Int32) <<< (v3 &&& 31))) g_gains) zb_FU (0 : Int32) (0 : Int32) (0 : Int32) (0 : Int32) g_mind)
  else
    (zl5 (zf_X1_reckonGains_b52 v1 v2 v3 v4 (k0 ||| (0 : Int32)) g_gains) zb_FU (0 : Int32) (0 : Int32) (0 : Int32) (0 : Int32) g_mind)
def zf_X1_reckonGains (g_now : BT) (g_mind : BT) (g_gains : (Nat → Int32)) (v1 : Int32) (v2 : Int32) (v3 : Int32) (v4 : Int32) : Option (BT × (Nat → Int32)) :=
  bd1 (zf_X0_becomes g_mind g_now) fun n1 =>
  if (v1 &&& (2 : Int32)) = 0 then
    (zf_X1_reckonGains_j24 v1 v2 v3 v4 ((1 : Int32) <<< (v2 &&& 31)) n1 g_gains)
  else
    (zf_X1_reckonGains_j24 v1 v2 v3 v4 (0 : Int32) n1 g_gains)
def zf_X1_two_j131 (v5 : Int32) (g_mind : BT) (g_refusals : (Nat → Int32)) (g_gains : (Nat → Int32)) : Option (Int32 × BT × (Nat → Int32) × (Nat → Int32)) :=
  some ((((10 : Int32) * (v5 >>> ((1 : Int32) &&& 31))) + (v5 &&& (1 : Int32))), g_mind, g_refusals, g_gains)
def zf_X1_two_j93 (rec63 : Int32 → Option (Int32 × BT × (Nat → Int32) × (Nat → Int32))) (v5 : Int32) (k0 : Int32) (g_mind : BT) (g_refusals : (Nat → Int32)) (g_gains : (Nat → Int32)) : Option (Int32 × BT × (Nat → Int32) × (Nat → Int32)) :=
  bd1 (zf_X1_gainOf g_gains v5 (1 : Int32)) fun r5 =>
  bd1 (zf_X1_gainOf g_gains (v5 ^^^ (1 : Int32)) (1 : Int32)) fun r6 =>
  if r5 < r6 then
    (if k0 = 0 then
      (rec63 (v5 + (1 : Int32)))
    else
      (rec63 (v5 + (1 : Int32))))
  else
    (if k0 = 0 then
      (rec63 (v5 + (1 : Int32)))
    else
      (zf_X1_two_j131 v5 g_mind g_refusals g_gains))
def zf_X1_two_b63 (g_mind : BT) (g_refusals : (Nat → Int32)) (g_gains : (Nat → Int32)) (rec63 : Int32 → Option (Int32 × BT × (Nat → Int32) × (Nat → Int32))) (v5 : Int32) : Option (Int32 × BT × (Nat → Int32) × (Nat → Int32)) :=
  if (4 : Int32) ≤ v5 then
    (some (((-9) : Int32), g_mind, g_refusals, g_gains))
  else
    (bd1 (zf_X1_gainOf g_gains v5 (0 : Int32)) fun r3 =>
    bd1 (zf_X1_gainOf g_gains (v5 ^^^ (2 : Int32)) (0 : Int32)) fun r4 =>
    if r3 < r4 then
      (zf_X1_two_j93 rec63 v5 (0 : Int32) g_mind g_refusals g_gains)
    else
      (zf_X1_two_j93 rec63 v5 (1 : Int32) g_mind g_refusals g_gains))
def zf_X1_two_b39 (v1 : Int32) (v2 : Int32) (v3 : Int32) (g_now : BT) (g_refusals : (Nat → Int32)) (rec39 : Int32 → BT → (Nat → Int32) → Option (Int32 × BT × (Nat → Int32) × (Nat → Int32))) (v5 : Int32) (g_mind : BT) (g_gains : (Nat → Int32)) : Option (Int32 × BT × (Nat → Int32) × (Nat → Int32)) :=
  if (4 : Int32) ≤ v5 then
    (zl1 (zf_X1_two_b63 g_mind g_refusals g_gains) zb_FU (0 : Int32))
  else
    (bd2 (zf_X1_reckonGains g_now g_mind g_gains v5 v1 v2 v3) fun n7 n8 =>
    rec39 (v5 + (1 : Int32)) n7 n8)
def zf_X1_two (g_now : BT) (g_mind : BT) (g_refusals : (Nat → Int32)) (g_gains : (Nat → Int32)) (v1 : Int32) (v2 : Int32) (v3 : Int32) : Option (Int32 × BT × (Nat → Int32) × (Nat → Int32)) :=
  bd1 (zf_X1_areTwo g_now v1 v2) fun r1 =>
  if r1 = 0 then
    (bd2 (zf_X1_refuse g_refusals ((-1) : Int32)) fun r11 n12 =>
    some (r11, g_mind, n12, g_gains))
  else
    (bd1 (zf_X1_outside v3 (0 : Int32) (30 : Int32)) fun r2 =>
    if r2 = 0 then
      (zl3 (zf_X1_two_b39 v1 v2 v3 g_now g_refusals) zb_FU (0 : Int32) g_mind g_gains)
    else
      (bd2 (zf_X1_refuse g_refusals r2) fun r9 n10 =>
      some (r9, g_mind, n10, g_gains)))
def zf_X1_commonDivisor_b9  (rec9 : Int64 → Int64 → Int32 → Option Int64) (v4 : Int64) (v6 : Int64) (v8 : Int32) : Option Int64 :=
  if (200 : Int32) ≤ v8 then
    (some v4)
  else
    (if (lg_cmp v6 (0 : Int64)) = 0 then
      (some v4)
    else
      (if v6 = 0 then none else
      rec9 v6 (jrL v4 v6) (v8 + (1 : Int32))))
def zf_X1_commonDivisor (v0 : Int64) (v2 : Int64) : Option Int64 :=
  zl3 zf_X1_commonDivisor_b9 zb_FU v0 v2 (0 : Int32)
def zf_X1_partOf (v0 : Int64) (v2 : Int64) (v4 : Int32) : Option Int64 :=
  bd1 (zf_X1_commonDivisor v0 v2) fun r1 =>
  if (lg_cmp r1 (0 : Int64)) = 0 then
    (some (0 : Int64))
  else
    (if v4 = 0 then
      (if r1 = 0 then none else
      some (v0 / r1))
    else
      (if r1 = 0 then none else
      some (v2 / r1)))
def zf_X1_refuseLong (g_refusals : (Nat → Int32)) (v1 : Int32) : Option (Int64 × (Nat → Int32)) :=
  bd2 (zf_X1_refuse g_refusals v1) fun r1 n2 =>
  some (((4000000000000000000 : Int64) - r1.toInt64), n2)
def zf_X1_weightInSteam_j38 (rec17 : Int64 → Int32 → BT → Option (Int64 × BT)) (v2 : Int32) (v4 : Int64) (v6 : Int32) (k0 : Int32) (g_mind : BT) : Option (Int64 × BT) :=
  if k0 = 0 then
    (bd1 (zf_X0_goOn g_mind (1 : Int32) (0 : Int32)) fun n2 =>
    if k0 = 0 then
      (rec17 (v4 * (v2 - (1 : Int32)).toInt64) (v6 + (1 : Int32)) n2)
    else
      (rec17 v4 (v6 + (1 : Int32)) n2))
  else
    (bd1 (zf_X0_goOn g_mind (1 : Int32) (15 : Int32)) fun n3 =>
    if k0 = 0 then
      (rec17 (v4 * (v2 - (1 : Int32)).toInt64) (v6 + (1 : Int32)) n3)
    else
      (rec17 v4 (v6 + (1 : Int32)) n3))
def zf_X1_weightInSteam_b17 (v1 : Int32) (v2 : Int32) (v3 : Int32) (rec17 : Int64 → Int32 → BT → Option (Int64 × BT)) (v4 : Int64) (v6 : Int32) (g_mind : BT) : Option (Int64 × BT) :=
  if v1 ≤ v6 then
    (some (v4, g_mind))
  else
    (if ((v3 >>> (v6 &&& 31)) &&& (1 : Int32)) = (1 : Int32) then
      (zf_X1_weightInSteam_j38 rec17 v2 v4 v6 (1 : Int32) g_mind)
    else
      (zf_X1_weightInSteam_j38 rec17 v2 v4 v6 (0 : Int32) g_mind))
def zf_X1_weightInSteam (g_now : BT) (g_mind : BT) (v1 : Int32) (v2 : Int32) (v3 : Int32) : Option (Int64 × BT) :=
  bd1 (zf_X0_becomes g_mind g_now) fun n1 =>
  zl3 (zf_X1_weightInSteam_b17 v1 v2 v3) zb_FU (1 : Int64) (0 : Int32) n1
def zf_X1_steam_b135 (v3 : Int32) (v4 : Int32) (v5 : Int32) (v6 : Int64) (g_mind : BT) (g_refusals : (Nat → Int32)) (rec135 : Int64 → Int32 → Option (Int64 × BT × (Nat → Int32))) (v8 : Int64) (v10 : Int32) : Option (Int64 × BT × (Nat → Int32)) :=
  if v3 ≤ v10 then
    (bd1 (zf_X1_partOf v6 v8 v5) fun r11 =>
    some (r11, g_mind, g_refusals))
  else
    (rec135 (v8 * v4.toInt64) (v10 + (1 : Int32)))
def zf_X1_steam_b85 (v1 : Int32) (v2 : Int32) (v3 : Int32) (v4 : Int32) (v5 : Int32) (g_now : BT) (g_refusals : (Nat → Int32)) (rec85 : Int64 → Int32 → BT → Option (Int64 × BT × (Nat → Int32))) (v6 : Int64) (v8 : Int32) (g_mind : BT) : Option (Int64 × BT × (Nat → Int32)) :=
  if ((1 : Int32) <<< (v3 &&& 31)) ≤ v8 then
    (zl2 (zf_X1_steam_b135 v3 v4 v5 v6 g_mind g_refusals) zb_FU (1 : Int64) (0 : Int32))
  else
    (bd2 (zf_X1_weightInSteam g_now g_mind v3 v4 v8) fun r12 n13 =>
    bd1 (zf_X0_placeOf n13 v1) fun r14 =>
    if r14 = v2 then
      (rec85 (v6 + r12) (v8 + (1 : Int32)) n13)
    else
      (rec85 v6 (v8 + (1 : Int32)) n13))
def zf_X1_steam (g_now : BT) (g_mind : BT) (g_refusals : (Nat → Int32)) (v1 : Int32) (v2 : Int32) (v3 : Int32) (v4 : Int32) (v5 : Int32) : Option (Int64 × BT × (Nat → Int32)) :=
  bd1 (zf_X0_has g_now v1) fun r1 =>
  if r1 = 0 then
    (bd2 (zf_X1_refuseLong g_refusals ((-1) : Int32)) fun r2 n3 =>
    some (r2, g_mind, n3))
  else
    (bd1 (zf_X1_isNode v2) fun r4 =>
    if r4 = 0 then
      (bd2 (zf_X1_refuseLong g_refusals ((-1) : Int32)) fun r21 n22 =>
      some (r21, g_mind, n22))
    else
      (if v3 < 0 then
        (bd2 (zf_X1_refuseLong g_refusals ((-4) : Int32)) fun r5 n6 =>
        some (r5, g_mind, n6))
      else
        (if (2 : Int32) ≤ v4 then
          (if (7 : Int32) < v3 then
            (bd2 (zf_X1_refuseLong g_refusals ((-6) : Int32)) fun r7 n8 =>
            some (r7, g_mind, n8))
          else
            (if v4 ≤ (20 : Int32) then
              (if v5 < 0 then
                (bd2 (zf_X1_refuseLong g_refusals ((-2) : Int32)) fun r9 n10 =>
                some (r9, g_mind, n10))
              else
                (if v5 ≤ (1 : Int32) then
                  (zl3 (zf_X1_steam_b85 v1 v2 v3 v4 v5 g_now g_refusals) zb_FU (0 : Int64) (0 : Int32) g_mind)
                else
                  (bd2 (zf_X1_refuseLong g_refusals ((-2) : Int32)) fun r15 n16 =>
                  some (r15, g_mind, n16))))
            else
              (bd2 (zf_X1_refuseLong g_refusals ((-6) : Int32)) fun r17 n18 =>
              some (r17, g_mind, n18))))
        else
          (bd2 (zf_X1_refuseLong g_refusals ((-4) : Int32)) fun r19 n20 =>
          some (r19, g_mind, n20)))))
def zf_X1_mean (g_now : BT) (g_refusals : (Nat → Int32)) (v1 : Int32) : Option (Int64 × (Nat → Int32)) :=
  if v1 < 0 then
    (bd2 (zf_X1_refuseLong g_refusals ((-2) : Int32)) fun r1 n2 =>
    some (r1, n2))
  else
    (if v1 ≤ (1 : Int32) then
      (bd1 (zf_X0_allWet g_now) fun r3 =>
      bd1 (zf_X1_partOf r3.toInt64 (30 : Int64) v1) fun r4 =>
      some (r4, g_refusals))
    else
      (bd2 (zf_X1_refuseLong g_refusals ((-2) : Int32)) fun r5 n6 =>
      some (r5, n6)))
def zf_X1_toldAt (g_told : (Nat → Int32)) (g_toldCount : Int32) (v1 : Int32) : Option Int32 :=
  if v1 < 0 then
    (some ((-9) : Int32))
  else
    (if g_toldCount ≤ v1 then
      (some ((-9) : Int32))
    else
      (if (16 : Int32) ≤ v1 then
        (some ((-9) : Int32))
      else
        (if v1 < 0 ∨ 16 ≤ v1.toNatClampNeg then none else
        some (g_told v1.toNatClampNeg))))
def zf_X1_isAsTold_b2 (v1 : Int32) (g_told : (Nat → Int32)) (g_toldCount : Int32) (rec2 : Int32 → BT → Option (Int32 × BT)) (v2 : Int32) (g_mind : BT) : Option (Int32 × BT) :=
  if g_toldCount ≤ v2 then
    (some ((1 : Int32), g_mind))
  else
    (if v2 ≤ 0 then
      (bd1 (zf_X0_placeOf g_mind v1) fun r1 =>
      bd1 (zf_X1_toldAt g_told g_toldCount v2) fun r2 =>
      if r1 = r2 then
        (rec2 (v2 + (1 : Int32)) g_mind)
      else
        (some ((0 : Int32), g_mind)))
    else
      (bd1 (zf_X0_goOn g_mind (1 : Int32) (0 : Int32)) fun n3 =>
      bd1 (zf_X0_placeOf n3 v1) fun r4 =>
      bd1 (zf_X1_toldAt g_told g_toldCount v2) fun r5 =>
      if r4 = r5 then
        (rec2 (v2 + (1 : Int32)) n3)
      else
        (some ((0 : Int32), n3))))
def zf_X1_isAsTold (g_mind : BT) (g_told : (Nat → Int32)) (g_toldCount : Int32) (v1 : Int32) : Option (Int32 × BT) :=
  zl2 (zf_X1_isAsTold_b2 v1 g_told g_toldCount) zb_FU (0 : Int32) g_mind
def zf_X1_whatIs_b58 (v1 : Int32) (v2 : Int32) (v3 : Int32) (v5 : Int32) (g_now : BT) (g_told : (Nat → Int32)) (g_toldCount : Int32) (g_refusals : (Nat → Int32)) (rec58 : Int32 → Int32 → BT → Option (Int32 × BT × (Nat → Int32))) (v4 : Int32) (v6 : Int32) (g_mind : BT) : Option (Int32 × BT × (Nat → Int32)) :=
  if v5 < v6 then
    (some (v4, g_mind, g_refusals))
  else
    (bd1 (zf_X0_becomes g_mind g_now) fun n7 =>
    if v3 = 0 then
      (bd1 (zf_X0_putKind n7 v1 v6) fun n11 =>
      bd2 (zf_X1_isAsTold n11 g_told g_toldCount v2) fun r12 n13 =>
      if r12 = 0 then
        (rec58 v4 (v6 + (1 : Int32)) n13)
      else
        (rec58 (v4 ||| ((1 : Int32) <<< (v6 &&& 31))) (v6 + (1 : Int32)) n13))
    else
      (bd1 (zf_X0_putFigure n7 v1 v6) fun n8 =>
      bd2 (zf_X1_isAsTold n8 g_told g_toldCount v2) fun r9 n10 =>
      if r9 = 0 then
        (rec58 v4 (v6 + (1 : Int32)) n10)
      else
        (rec58 (v4 ||| ((1 : Int32) <<< (v6 &&& 31))) (v6 + (1 : Int32)) n10)))
def zf_X1_whatIs (g_now : BT) (g_mind : BT) (g_told : (Nat → Int32)) (g_toldCount : Int32) (g_refusals : (Nat → Int32)) (v1 : Int32) (v2 : Int32) (v3 : Int32) : Option (Int32 × BT × (Nat → Int32)) :=
  bd1 (zf_X1_isNode v1) fun r1 =>
  if r1 = 0 then
    (bd2 (zf_X1_refuse g_refusals ((-1) : Int32)) fun r2 n3 =>
    some (r2, g_mind, n3))
  else
    (bd1 (zf_X0_has g_now v2) fun r4 =>
    if r4 = 0 then
      (bd2 (zf_X1_refuse g_refusals ((-1) : Int32)) fun r16 n17 =>
      some (r16, g_mind, n17))
    else
      (if v3 < 0 then
        (bd2 (zf_X1_refuse g_refusals ((-2) : Int32)) fun r5 n6 =>
        some (r5, g_mind, n6))
      else
        (if v3 ≤ (1 : Int32) then
          (if v3 = 0 then
            (zl3 (zf_X1_whatIs_b58 v1 v2 v3 (5 : Int32) g_now g_told g_toldCount g_refusals) zb_FU (0 : Int32) (0 : Int32) g_mind)
          else
            (zl3 (zf_X1_whatIs_b58 v1 v2 v3 (9 : Int32) g_now g_told g_toldCount g_refusals) zb_FU (0 : Int32) (0 : Int32) g_mind))
        else
          (bd2 (zf_X1_refuse g_refusals ((-2) : Int32)) fun r14 n15 =>
          some (r14, g_mind, n15)))))
def zf_X1_row (g_told : (Nat → Int32)) (g_toldCount : Int32) (g_refusals : (Nat → Int32)) (v1 : Int32) : Option (Int32 × (Nat → Int32) × Int32 × (Nat → Int32)) :=
  if 0 ≤ v1 then
    (if (99 : Int32) < v1 then
      (bd2 (zf_X1_refuse g_refusals ((-6) : Int32)) fun r1 n2 =>
      some (r1, g_told, g_toldCount, n2))
    else
      (if g_toldCount < (16 : Int32) then
        (if g_toldCount < 0 then
          (some ((g_toldCount + (1 : Int32)), g_told, (g_toldCount + (1 : Int32)), g_refusals))
        else
          (if (16 : Int32) ≤ g_toldCount then
            (some ((g_toldCount + (1 : Int32)), g_told, (g_toldCount + (1 : Int32)), g_refusals))
          else
            (if g_toldCount < 0 ∨ 16 ≤ g_toldCount.toNatClampNeg then none else
            some ((g_toldCount + (1 : Int32)), (upd g_told g_toldCount.toNatClampNeg v1), (g_toldCount + (1 : Int32)), g_refusals))))
      else
        (bd2 (zf_X1_refuse g_refusals ((-6) : Int32)) fun r3 n4 =>
        some (r3, g_told, g_toldCount, n4))))
  else
    (bd2 (zf_X1_refuse g_refusals ((-4) : Int32)) fun r5 n6 =>
    some (r5, g_told, g_toldCount, n6))
def zf_X1_judge_b5 (g_now : BT) (g_told : (Nat → Int32)) (g_toldCount : Int32) (rec5 : Int32 → Int32 → Option (Int32 × Int32)) (v1 : Int32) (v2 : Int32) : Option (Int32 × Int32) :=
  if g_toldCount ≤ v2 then
    (some (v1, (0 : Int32)))
  else
    (if v1 = ((-9) : Int32) then
      (bd1 (zf_X1_toldAt g_told g_toldCount v2) fun r1 =>
      bd1 (zf_X0_wetOf g_now v2) fun r2 =>
      if r1 = r2 then
        (rec5 v1 (v2 + (1 : Int32)))
      else
        (rec5 v2 (v2 + (1 : Int32))))
    else
      (some (v1, (0 : Int32))))
def zf_X1_judge (g_now : BT) (g_told : (Nat → Int32)) (g_toldCount : Int32) : Option (Int32 × Int32) :=
  zl2 (zf_X1_judge_b5 g_now g_told g_toldCount) zb_FU ((-9) : Int32) (0 : Int32)
def zf_X1_clear (g_toldCount : Int32) : Option (Int32 × Int32) :=
  some (g_toldCount, (0 : Int32))
def zf_X1_draw (g_seed : Int32) (v1 : Int32) : Option (Int32 × Int32) :=
  if v1 ≤ 0 then
    (some ((0 : Int32), ((g_seed * (1664525 : Int32)) + (1013904223 : Int32))))
  else
    (if v1 = 0 then none else
    some ((jr ((((g_seed * (1664525 : Int32)) + (1013904223 : Int32)) &&& (2147483647 : Int32)) / (256 : Int32)) v1), ((g_seed * (1664525 : Int32)) + (1013904223 : Int32))))
def zf_X1_drawPeople_b2  (rec2 : Int32 → BT → Int32 → Option (BT × Int32)) (v1 : Int32) (g_mind : BT) (g_seed : Int32) : Option (BT × Int32) :=
  bd1 (zf_X0_peopleCount g_mind) fun r1 =>
  if r1 ≤ v1 then
    (some (g_mind, g_seed))
  else
    (bd2 (zf_X1_draw g_seed (30 : Int32)) fun r2 n3 =>
    bd1 (zf_X0_putPlace g_mind v1 r2) fun n4 =>
    bd2 (zf_X1_draw n3 (4 : Int32)) fun r5 n6 =>
    bd1 (zf_X0_putHeading n4 v1 r5) fun n7 =>
    rec2 (v1 + (1 : Int32)) n7 n6)
def zf_X1_drawPeople (g_mind : BT) (g_seed : Int32) : Option (BT × Int32) :=
  zl3 zf_X1_drawPeople_b2 zb_FU (0 : Int32) g_mind g_seed
def zf_X1_lots_b48 (v1 : Int32) (v3 : Int32) (g_now : BT) (g_refusals : (Nat → Int32)) (rec48 : Int32 → Int32 → BT → Int32 → Option (Int32 × BT × (Nat → Int32) × Int32)) (v5 : Int32) (v6 : Int32) (g_mind : BT) (g_seed : Int32) : Option (Int32 × BT × (Nat → Int32) × Int32) :=
  if v1 ≤ v6 then
    (some (v5, g_mind, g_refusals, g_seed))
  else
    (bd1 (zf_X0_becomes g_mind g_now) fun n4 =>
    bd2 (zf_X1_drawPeople n4 g_seed) fun n5 n6 =>
    bd1 (zf_X0_goOn n5 (12 : Int32) (0 : Int32)) fun n7 =>
    if v3 = 0 then
      (bd1 (zf_X0_allHelped n7) fun r9 =>
      bd1 (zf_X0_allHelped g_now) fun r10 =>
      rec48 (v5 + (r9 - r10)) (v6 + (1 : Int32)) n7 n6)
    else
      (bd1 (zf_X0_stuckPeople n7) fun r8 =>
      rec48 (v5 + r8) (v6 + (1 : Int32)) n7 n6))
def zf_X1_lots (g_now : BT) (g_mind : BT) (g_refusals : (Nat → Int32)) (g_seed : Int32) (v1 : Int32) (v2 : Int32) (v3 : Int32) : Option (Int32 × BT × (Nat → Int32) × Int32) :=
  bd1 (zf_X1_outside v1 (1 : Int32) (20 : Int32)) fun r1 =>
  if r1 = 0 then
    (if v3 < 0 then
      (bd2 (zf_X1_refuse g_refusals ((-2) : Int32)) fun r2 n3 =>
      some (r2, g_mind, n3, g_seed))
    else
      (if v3 ≤ (1 : Int32) then
        (zl4 (zf_X1_lots_b48 v1 v3 g_now g_refusals) zb_FU (0 : Int32) (0 : Int32) g_mind v2)
      else
        (bd2 (zf_X1_refuse g_refusals ((-2) : Int32)) fun r11 n12 =>
        some (r11, g_mind, n12, g_seed))))
  else
    (bd2 (zf_X1_refuse g_refusals r1) fun r13 n14 =>
    some (r13, g_mind, n14, g_seed))
def zf_X1_image (g_now : BT) (g_taken : BT) (g_isTaken : Int32) : Option (Int32 × BT × Int32) :=
  bd1 (zf_X0_becomes g_taken g_now) fun n1 =>
  bd1 (zf_X0_stepCount g_now) fun r2 =>
  some (r2, n1, (1 : Int32))
def zf_X1_on (g_now : BT) (g_taken : BT) (g_isTaken : Int32) (g_refusals : (Nat → Int32)) : Option (Int32 × BT × (Nat → Int32)) :=
  if g_isTaken = 0 then
    (bd2 (zf_X1_refuse g_refusals ((-3) : Int32)) fun r3 n4 =>
    some (r3, g_now, n4))
  else
    (bd1 (zf_X0_becomes g_now g_taken) fun n1 =>
    bd1 (zf_X0_stepCount n1) fun r2 =>
    some (r2, n1, g_refusals))
def zf_X1_refusalsOf (g_refusals : (Nat → Int32)) (v1 : Int32) : Option Int32 :=
  if v1 < 0 then
    (some ((-9) : Int32))
  else
    (if (6 : Int32) ≤ v1 then
      (some ((-9) : Int32))
    else
      (if v1 < 0 ∨ 6 ≤ v1.toNatClampNeg then none else
      some (g_refusals v1.toNatClampNeg)))
def zf_X1_count (g_now : BT) (g_letterCount : Int32) (g_toldCount : Int32) (g_refusals : (Nat → Int32)) (v1 : Int32) : Option Int32 :=
  if v1 = (0 : Int32) then
    (bd1 (zf_X0_peopleCount g_now) fun r1 =>
    some r1)
  else if v1 = (1 : Int32) then
    (bd1 (zf_X0_stepCount g_now) fun r2 =>
    some r2)
  else if v1 = (2 : Int32) then
    (bd1 (zf_X0_allWet g_now) fun r3 =>
    some r3)
  else if v1 = (3 : Int32) then
    (bd1 (zf_X0_allHelped g_now) fun r4 =>
    some r4)
  else if v1 = (4 : Int32) then
    (bd1 (zf_X0_dryNodes g_now) fun r5 =>
    some r5)
  else if v1 = (5 : Int32) then
    (bd1 (zf_X0_allFigures g_now) fun r6 =>
    some r6)
  else if v1 = (6 : Int32) then
    (some g_toldCount)
  else if v1 = (7 : Int32) then
    (some g_letterCount)
  else 
    (bd1 (zf_X1_refusalsOf g_refusals (v1 - (11 : Int32))) fun r7 =>
    some r7)
def zf_X2_isIn (v0 : Int32) (v1 : Int32) (v2 : Int32) : Option Int32 :=
  if v0 < v1 then
    (some (0 : Int32))
  else
    (if v2 < v0 then
      (some (0 : Int32))
    else
      (some (1 : Int32)))
def zf_X2_least (v0 : Int32) (v1 : Int32) : Option Int32 :=
  if v1 ≤ v0 then
    (some v1)
  else
    (some v0)
def zf_X2_apart (v0 : Int32) (v1 : Int32) : Option Int32 :=
  if v1 ≤ v0 then
    (some (v0 - v1))
  else
    (some (v1 - v0))
def zf_X2_copies_b2 (r : (Nat → Int32)) (rec2 : Int32 → (Nat → Int32) → Option (Nat → Int32)) (v2 : Int32) (q : (Nat → Int32)) : Option (Nat → Int32) :=
  if (105 : Int32) ≤ v2 then
    (some q)
  else
    (if v2 < 0 ∨ 105 ≤ v2.toNatClampNeg then none else
    if v2 < 0 ∨ 105 ≤ v2.toNatClampNeg then none else
    rec2 (v2 + (1 : Int32)) (upd q v2.toNatClampNeg (r v2.toNatClampNeg)))
def zf_X2_copies (r : (Nat → Int32)) (q : (Nat → Int32)) : Option (Nat → Int32) :=
  zl2 (zf_X2_copies_b2 r) zb_FU (0 : Int32) q
def zf_X2_no (m_refused : (Nat → Int32)) (v1 : Int32) : Option (Int32 × (Nat → Int32)) :=
  if (-v1) < 0 ∨ 7 ≤ (-v1).toNatClampNeg then none else
  if (-v1) < 0 ∨ 7 ≤ (-v1).toNatClampNeg then none else
  some (v1, (upd m_refused (-v1).toNatClampNeg ((m_refused (-v1).toNatClampNeg) + (1 : Int32))))
def zf_X2_noWide (m_refused : (Nat → Int32)) (v1 : Int32) : Option (Int64 × (Nat → Int32)) :=
  bd2 (zf_X2_no m_refused v1) fun r1 n2 =>
  some (((4000000000000000000 : Int64) - r1.toInt64), n2)
def zf_X2_of (v0 : Int32) (v1 : Int32) : Option Int32 :=
  some (((93 : Int32) + ((3 : Int32) * v0)) + v1)
def zf_X2_isPerson (m_s : (Nat → Int32)) (v1 : Int32) : Option Int32 :=
  bd1 (zf_X2_isIn v1 (0 : Int32) ((m_s (0 : Int32).toNatClampNeg) - (1 : Int32))) fun r1 =>
  if r1 = 0 ∨ r1 = 1 then
  some r1 else none
def zf_X2_isNode (v0 : Int32) : Option Int32 :=
  bd1 (zf_X2_isIn v0 (0 : Int32) (29 : Int32)) fun r1 =>
  if r1 = 0 ∨ r1 = 1 then
  some r1 else none
def zf_X2_isWay (v0 : Int32) : Option Int32 :=
  bd1 (zf_X2_isIn v0 (0 : Int32) (3 : Int32)) fun r1 =>
  if r1 = 0 ∨ r1 = 1 then
  some r1 else none
def zf_X2_has (v0 : Int32) (v1 : Int32) : Option Int32 :=
  if ((v0 >>> (v1 &&& 31)) &&& (1 : Int32)) = (1 : Int32) then
    (some (1 : Int32))
  else
    (some (0 : Int32))
def zf_X2_bits_b4 (v0 : Int32) (rec4 : Int32 → Int32 → Option Int32) (v1 : Int32) (v2 : Int32) : Option Int32 :=
  if (30 : Int32) ≤ v2 then
    (some v1)
  else
    (rec4 (v1 + ((v0 >>> (v2 &&& 31)) &&& (1 : Int32))) (v2 + (1 : Int32)))
def zf_X2_bits (v0 : Int32) : Option Int32 :=
  zl2 (zf_X2_bits_b4 v0) zb_FU (0 : Int32) (0 : Int32)
def zf_X2_nodeThere (v0 : Int32) (v1 : Int32) : Option Int32 :=
  if v1 = (0 : Int32) then
    (if (6 : Int32) ≤ v0 then
      (some (v0 - (6 : Int32)))
    else
      (some ((-9) : Int32)))
  else if v1 = (1 : Int32) then
    (if (jr v0 (6 : Int32)) = (5 : Int32) then
      (some ((-9) : Int32))
    else
      (some (v0 + (1 : Int32))))
  else if v1 = (2 : Int32) then
    (if v0 < (24 : Int32) then
      (some (v0 + (6 : Int32)))
    else
      (some ((-9) : Int32)))
  else 
    (if (jr v0 (6 : Int32)) = 0 then
      (some ((-9) : Int32))
    else
      (some (v0 - (1 : Int32))))
def zf_X2_wayBy (v0 : Int32) (v1 : Int32) (v2 : Int32) (v3 : Int32) : Option Int32 :=
  if v0 = (1 : Int32) then
    (some (jr (v2 + (3 : Int32)) (4 : Int32)))
  else if v0 = (2 : Int32) then
    (some (jr (v2 + (1 : Int32)) (4 : Int32)))
  else if v0 = (3 : Int32) then
    (if (jr v3 (4 : Int32)) = 0 then
      (some (jr v1 (4 : Int32)))
    else
      (some v2))
  else if v0 = (4 : Int32) then
    (if (jr v3 (2 : Int32)) = (1 : Int32) then
      (some (jr (v2 + (3 : Int32)) (4 : Int32)))
    else
      (some v2))
  else if v0 = (5 : Int32) then
    (some (jr (v2 + (2 : Int32)) (4 : Int32)))
  else 
    (some v2)
def zf_X2_wayOf (r : (Nat → Int32)) (v1 : Int32) (v2 : Int32) : Option Int32 :=
  bd1 (zf_X2_of v1 (0 : Int32)) fun r1 =>
  if r1 < 0 ∨ 105 ≤ r1.toNatClampNeg then none else
  if ((3 : Int32) + (r r1.toNatClampNeg)) < 0 ∨ 105 ≤ ((3 : Int32) + (r r1.toNatClampNeg)).toNatClampNeg then none else
  if ((33 : Int32) + (r r1.toNatClampNeg)) < 0 ∨ 105 ≤ ((33 : Int32) + (r r1.toNatClampNeg)).toNatClampNeg then none else
  bd1 (zf_X2_of v1 (1 : Int32)) fun r2 =>
  if r2 < 0 ∨ 105 ≤ r2.toNatClampNeg then none else
  bd1 (zf_X2_wayBy (r ((3 : Int32) + (r r1.toNatClampNeg)).toNatClampNeg) (r ((33 : Int32) + (r r1.toNatClampNeg)).toNatClampNeg) (r r2.toNatClampNeg) v2) fun r3 =>
  some r3
def zf_X2_isDry (r : (Nat → Int32)) (v1 : Int32) : Option Int32 :=
  if ((63 : Int32) + v1) < 0 ∨ 105 ≤ ((63 : Int32) + v1).toNatClampNeg then none else
  if (r ((63 : Int32) + v1).toNatClampNeg) = 0 then
    (some (1 : Int32))
  else
    (some (0 : Int32))
def zf_X2_goes (r : (Nat → Int32)) (v1 : Int32) : Option (Nat → Int32) :=
  bd1 (zf_X2_of v1 (0 : Int32)) fun r1 =>
  if r1 < 0 ∨ 105 ≤ r1.toNatClampNeg then none else
  bd1 (zf_X2_isDry r (r r1.toNatClampNeg)) fun r2 =>
  if r2 = 0 then
    (bd1 (zf_X2_wayOf r v1 (r (1 : Int32).toNatClampNeg)) fun r3 =>
    bd1 (zf_X2_nodeThere (r r1.toNatClampNeg) r3) fun r4 =>
    if 0 ≤ r4 then
      (bd1 (zf_X2_of v1 (0 : Int32)) fun r5 =>
      if r5 < 0 ∨ 105 ≤ r5.toNatClampNeg then none else
      bd1 (zf_X2_of v1 (1 : Int32)) fun r6 =>
      if r6 < 0 ∨ 105 ≤ r6.toNatClampNeg then none else
      if (jr ((upd (upd r r5.toNatClampNeg r4) r6.toNatClampNeg r3) (1 : Int32).toNatClampNeg) (2 : Int32)) = 0 then
        (if ((63 : Int32) + (r r1.toNatClampNeg)) < 0 ∨ 105 ≤ ((63 : Int32) + (r r1.toNatClampNeg)).toNatClampNeg then none else
        if ((63 : Int32) + (r r1.toNatClampNeg)) < 0 ∨ 105 ≤ ((63 : Int32) + (r r1.toNatClampNeg)).toNatClampNeg then none else
        some (upd (upd (upd r r5.toNatClampNeg r4) r6.toNatClampNeg r3) ((63 : Int32) + (r r1.toNatClampNeg)).toNatClampNeg (((upd (upd r r5.toNatClampNeg r4) r6.toNatClampNeg r3) ((63 : Int32) + (r r1.toNatClampNeg)).toNatClampNeg) - (1 : Int32))))
      else
        (some (upd (upd r r5.toNatClampNeg r4) r6.toNatClampNeg r3)))
    else
      (bd1 (zf_X2_of v1 (1 : Int32)) fun r7 =>
      if r7 < 0 ∨ 105 ≤ r7.toNatClampNeg then none else
      bd1 (zf_X2_of v1 (2 : Int32)) fun r8 =>
      bd1 (zf_X2_of v1 (2 : Int32)) fun r9 =>
      if r9 < 0 ∨ 105 ≤ r9.toNatClampNeg then none else
      bd1 (zf_X2_least (99 : Int32) (((upd r r7.toNatClampNeg (jr (r3 + (2 : Int32)) (4 : Int32))) r9.toNatClampNeg) + (1 : Int32))) fun r10 =>
      if r8 < 0 ∨ 105 ≤ r8.toNatClampNeg then none else
      some (upd (upd r r7.toNatClampNeg (jr (r3 + (2 : Int32)) (4 : Int32))) r8.toNatClampNeg r10)))
  else
    (some r)
def zf_X2_step_b9  (rec9 : Int32 → (Nat → Int32) → Option (Nat → Int32)) (v1 : Int32) (r : (Nat → Int32)) : Option (Nat → Int32) :=
  if (r (0 : Int32).toNatClampNeg) ≤ v1 then
    (some r)
  else
    (bd1 (zf_X2_has (r (2 : Int32).toNatClampNeg) v1) fun r1 =>
    if r1 = 0 then
      (bd1 (zf_X2_goes r v1) fun n2 =>
      rec9 (v1 + (1 : Int32)) n2)
    else
      (rec9 (v1 + (1 : Int32)) r))
def zf_X2_step (r : (Nat → Int32)) : Option (Nat → Int32) :=
  zl2 zf_X2_step_b9 zb_FU (0 : Int32) (upd r (1 : Int32).toNatClampNeg ((r (1 : Int32).toNatClampNeg) + (1 : Int32)))
def zf_X2_stepsOn_b2 (v1 : Int32) (rec2 : Int32 → (Nat → Int32) → Option (Nat → Int32)) (v2 : Int32) (r : (Nat → Int32)) : Option (Nat → Int32) :=
  if v1 ≤ v2 then
    (some r)
  else
    (bd1 (zf_X2_step r) fun n1 =>
    rec2 (v2 + (1 : Int32)) n1)
def zf_X2_stepsOn (r : (Nat → Int32)) (v1 : Int32) : Option (Nat → Int32) :=
  zl2 (zf_X2_stepsOn_b2 v1) zb_FU (0 : Int32) r
def zf_X2_sumOf_b6 (v1 : Int32) (v2 : Int32) (v3 : Int32) (r : (Nat → Int32)) (rec6 : Int32 → Int32 → Option Int32) (v4 : Int32) (v5 : Int32) : Option Int32 :=
  if v2 ≤ v5 then
    (some v4)
  else
    (if (v1 + (v3 * v5)) < 0 ∨ 105 ≤ (v1 + (v3 * v5)).toNatClampNeg then none else
    rec6 (v4 + (r (v1 + (v3 * v5)).toNatClampNeg)) (v5 + (1 : Int32)))
def zf_X2_sumOf (r : (Nat → Int32)) (v1 : Int32) (v2 : Int32) (v3 : Int32) : Option Int32 :=
  zl2 (zf_X2_sumOf_b6 v1 v2 v3 r) zb_FU (0 : Int32) (0 : Int32)
def zf_X2_allWet (r : (Nat → Int32)) : Option Int32 :=
  bd1 (zf_X2_sumOf r (63 : Int32) (30 : Int32) (1 : Int32)) fun r1 =>
  some r1
def zf_X2_allHelped (r : (Nat → Int32)) : Option Int32 :=
  bd1 (zf_X2_of (0 : Int32) (2 : Int32)) fun r1 =>
  bd1 (zf_X2_sumOf r r1 (r (0 : Int32).toNatClampNeg) (3 : Int32)) fun r2 =>
  some r2
def zf_X2_letter (m_letters : (Nat → Int32)) (m_refused : (Nat → Int32)) (m_letterMany : Int32) (v1 : Int32) : Option (Int32 × (Nat → Int32) × (Nat → Int32) × Int32) :=
  if 0 ≤ v1 then
    (if (255 : Int32) < v1 then
      (bd2 (zf_X2_no m_refused ((-6) : Int32)) fun r1 n2 =>
      some (r1, m_letters, n2, m_letterMany))
    else
      (if m_letterMany = (96 : Int32) then
        (bd2 (zf_X2_no m_refused ((-6) : Int32)) fun r3 n4 =>
        some (r3, m_letters, n4, m_letterMany))
      else
        (if m_letterMany < 0 ∨ 96 ≤ m_letterMany.toNatClampNeg then none else
        some ((m_letterMany + (1 : Int32)), (upd m_letters m_letterMany.toNatClampNeg v1), m_refused, (m_letterMany + (1 : Int32))))))
  else
    (bd2 (zf_X2_no m_refused ((-4) : Int32)) fun r5 n6 =>
    some (r5, m_letters, n6, m_letterMany))
def zf_X2_here (m_letters : (Nat → Int32)) (m_letterMany : Int32) (m_place : Int32) : Option Int32 :=
  if m_letterMany ≤ m_place then
    (some ((-1) : Int32))
  else
    (if m_place < 0 ∨ 96 ≤ m_place.toNatClampNeg then none else
    some (m_letters m_place.toNatClampNeg))
def zf_X2_readsNumber_b9 (v1 : Int32) (v2 : Int32) (m_letters : (Nat → Int32)) (m_letterMany : Int32) (rec9 : Int32 → Int32 → (Nat → Int32) → Option (Int32 × Int32 × (Nat → Int32))) (v3 : Int32) (m_place : Int32) (m_numbers : (Nat → Int32)) : Option (Int32 × Int32 × (Nat → Int32)) :=
  if v2 ≤ v3 then
    (some ((1 : Int32), m_place, m_numbers))
  else
    (bd1 (zf_X2_here m_letters m_letterMany m_place) fun r1 =>
    bd1 (zf_X2_isIn r1 (48 : Int32) (57 : Int32)) fun r2 =>
    if r2 = 0 then
      (some ((0 : Int32), m_place, m_numbers))
    else
      (if v1 < 0 ∨ 3 ≤ v1.toNatClampNeg then none else
      bd1 (zf_X2_here m_letters m_letterMany m_place) fun r3 =>
      if v1 < 0 ∨ 3 ≤ v1.toNatClampNeg then none else
      rec9 (v3 + (1 : Int32)) (m_place + (1 : Int32)) (upd m_numbers v1.toNatClampNeg ((((10 : Int32) * (m_numbers v1.toNatClampNeg)) + r3) - (48 : Int32)))))
def zf_X2_readsNumber (m_letters : (Nat → Int32)) (m_letterMany : Int32) (m_place : Int32) (m_numbers : (Nat → Int32)) (v1 : Int32) (v2 : Int32) : Option (Int32 × Int32 × (Nat → Int32)) :=
  if v1 < 0 ∨ 3 ≤ v1.toNatClampNeg then none else
  zl3 (zf_X2_readsNumber_b9 v1 v2 m_letters m_letterMany) zb_FU (0 : Int32) m_place (upd m_numbers v1.toNatClampNeg (0 : Int32))
def zf_X2_kindBy (v0 : Int32) : Option Int32 :=
  if v0 = (98 : Int32) then
    (some (4 : Int32))
  else if v0 = (99 : Int32) then
    (some (3 : Int32))
  else if v0 = (108 : Int32) then
    (some (1 : Int32))
  else if v0 = (114 : Int32) then
    (some (2 : Int32))
  else if v0 = (115 : Int32) then
    (some (0 : Int32))
  else if v0 = (121 : Int32) then
    (some (5 : Int32))
  else 
    (some ((-9) : Int32))
def zf_X2_readsKind (m_letters : (Nat → Int32)) (m_letterMany : Int32) (m_place : Int32) (m_numbers : (Nat → Int32)) : Option (Int32 × Int32 × (Nat → Int32)) :=
  bd1 (zf_X2_here m_letters m_letterMany m_place) fun r1 =>
  bd1 (zf_X2_kindBy r1) fun r2 =>
  if 0 ≤ ((upd m_numbers (1 : Int32).toNatClampNeg r2) (1 : Int32).toNatClampNeg) then
    (if ((upd m_numbers (1 : Int32).toNatClampNeg r2) (1 : Int32).toNatClampNeg) < 0 then
      (some ((0 : Int32), (m_place + (1 : Int32)), (upd m_numbers (1 : Int32).toNatClampNeg r2)))
    else
      (some ((1 : Int32), (m_place + (1 : Int32)), (upd m_numbers (1 : Int32).toNatClampNeg r2))))
  else
    (if ((upd m_numbers (1 : Int32).toNatClampNeg r2) (1 : Int32).toNatClampNeg) < 0 then
      (some ((0 : Int32), (m_place + (0 : Int32)), (upd m_numbers (1 : Int32).toNatClampNeg r2)))
    else
      (some ((1 : Int32), (m_place + (0 : Int32)), (upd m_numbers (1 : Int32).toNatClampNeg r2))))
def zf_X2_readsStatement_j213 (v2 : Int32) (m_letters : (Nat → Int32)) (m_letterMany : Int32) (m_place : Int32) (m_numbers : (Nat → Int32)) : Option (Int32 × Int32 × (Nat → Int32)) :=
  if v2 = 0 then
    (some ((0 : Int32), m_place, m_numbers))
  else
    (bd1 (zf_X2_here m_letters m_letterMany m_place) fun r5 =>
    if r5 = (59 : Int32) then
      (some ((1 : Int32), (m_place + (1 : Int32)), m_numbers))
    else
      (some ((0 : Int32), m_place, m_numbers)))
def zf_X2_readsStatement (m_letters : (Nat → Int32)) (m_letterMany : Int32) (m_place : Int32) (m_numbers : (Nat → Int32)) : Option (Int32 × Int32 × (Nat → Int32)) :=
  bd1 (zf_X2_here m_letters m_letterMany m_place) fun r1 =>
  if r1 = (97 : Int32) then
    (bd3 (zf_X2_readsNumber m_letters m_letterMany (m_place + (1 : Int32)) m_numbers (0 : Int32) (1 : Int32)) fun r2 n3 n4 =>
    if r2 = 0 then
      (zf_X2_readsStatement_j213 (0 : Int32) m_letters m_letterMany n3 n4)
    else
      (bd3 (zf_X2_readsNumber m_letters m_letterMany n3 n4 (1 : Int32) (2 : Int32)) fun r6 n7 n8 =>
      if r6 = 0 then
        (zf_X2_readsStatement_j213 (0 : Int32) m_letters m_letterMany n7 n8)
      else
        (zf_X2_readsStatement_j213 (1 : Int32) m_letters m_letterMany n7 n8)))
  else if r1 = (104 : Int32) then
    (bd3 (zf_X2_readsNumber m_letters m_letterMany (m_place + (1 : Int32)) m_numbers (0 : Int32) (1 : Int32)) fun r9 n10 n11 =>
    if r9 = 0 then
      (zf_X2_readsStatement_j213 (0 : Int32) m_letters m_letterMany n10 n11)
    else
      (bd3 (zf_X2_readsNumber m_letters m_letterMany n10 n11 (1 : Int32) (1 : Int32)) fun r12 n13 n14 =>
      if r12 = 0 then
        (zf_X2_readsStatement_j213 (0 : Int32) m_letters m_letterMany n13 n14)
      else
        (zf_X2_readsStatement_j213 (1 : Int32) m_letters m_letterMany n13 n14)))
  else if r1 = (110 : Int32) then
    (bd3 (zf_X2_readsNumber m_letters m_letterMany (m_place + (1 : Int32)) m_numbers (0 : Int32) (2 : Int32)) fun r15 n16 n17 =>
    if r15 = 0 then
      (zf_X2_readsStatement_j213 (0 : Int32) m_letters m_letterMany n16 n17)
    else
      (bd3 (zf_X2_readsKind m_letters m_letterMany n16 n17) fun r18 n19 n20 =>
      if r18 = 0 then
        (zf_X2_readsStatement_j213 (0 : Int32) m_letters m_letterMany n19 n20)
      else
        (bd3 (zf_X2_readsNumber m_letters m_letterMany n19 n20 (2 : Int32) (1 : Int32)) fun r21 n22 n23 =>
        if r21 = 0 then
          (zf_X2_readsStatement_j213 (0 : Int32) m_letters m_letterMany n22 n23)
        else
          (zf_X2_readsStatement_j213 (1 : Int32) m_letters m_letterMany n22 n23))))
  else if r1 = (112 : Int32) then
    (bd3 (zf_X2_readsNumber m_letters m_letterMany (m_place + (1 : Int32)) m_numbers (0 : Int32) (2 : Int32)) fun r24 n25 n26 =>
    if r24 = 0 then
      (zf_X2_readsStatement_j213 (0 : Int32) m_letters m_letterMany n25 n26)
    else
      (bd3 (zf_X2_readsNumber m_letters m_letterMany n25 n26 (1 : Int32) (1 : Int32)) fun r27 n28 n29 =>
      if r27 = 0 then
        (zf_X2_readsStatement_j213 (0 : Int32) m_letters m_letterMany n28 n29)
      else
        (zf_X2_readsStatement_j213 (1 : Int32) m_letters m_letterMany n28 n29)))
  else if r1 = (115 : Int32) then
    (bd3 (zf_X2_readsNumber m_letters m_letterMany (m_place + (1 : Int32)) m_numbers (0 : Int32) (2 : Int32)) fun r30 n31 n32 =>
    zf_X2_readsStatement_j213 r30 m_letters m_letterMany n31 n32)
  else if r1 = (119 : Int32) then
    (bd3 (zf_X2_readsNumber m_letters m_letterMany (m_place + (1 : Int32)) m_numbers (0 : Int32) (2 : Int32)) fun r33 n34 n35 =>
    if r33 = 0 then
      (zf_X2_readsStatement_j213 (0 : Int32) m_letters m_letterMany n34 n35)
    else
      (bd3 (zf_X2_readsNumber m_letters m_letterMany n34 n35 (1 : Int32) (1 : Int32)) fun r36 n37 n38 =>
      if r36 = 0 then
        (zf_X2_readsStatement_j213 (0 : Int32) m_letters m_letterMany n37 n38)
      else
        (zf_X2_readsStatement_j213 (1 : Int32) m_letters m_letterMany n37 n38)))
  else 
    (some ((0 : Int32), ((m_place + (1 : Int32)) - (1 : Int32)), m_numbers))
def zf_X2_adds (m_s : (Nat → Int32)) (v1 : Int32) (v2 : Int32) : Option (Nat → Int32) :=
  bd1 (zf_X2_of (m_s (0 : Int32).toNatClampNeg) (0 : Int32)) fun r1 =>
  if r1 < 0 ∨ 105 ≤ r1.toNatClampNeg then none else
  bd1 (zf_X2_of ((upd m_s r1.toNatClampNeg v1) (0 : Int32).toNatClampNeg) (1 : Int32)) fun r2 =>
  if r2 < 0 ∨ 105 ≤ r2.toNatClampNeg then none else
  bd1 (zf_X2_of ((upd (upd m_s r1.toNatClampNeg v1) r2.toNatClampNeg v2) (0 : Int32).toNatClampNeg) (2 : Int32)) fun r3 =>
  if r3 < 0 ∨ 105 ≤ r3.toNatClampNeg then none else
  some (upd (upd (upd (upd m_s r1.toNatClampNeg v1) r2.toNatClampNeg v2) r3.toNatClampNeg (0 : Int32)) (0 : Int32).toNatClampNeg (((upd (upd (upd m_s r1.toNatClampNeg v1) r2.toNatClampNeg v2) r3.toNatClampNeg (0 : Int32)) (0 : Int32).toNatClampNeg) + (1 : Int32)))
def zf_X2_isDone (m_s : (Nat → Int32)) (m_numbers : (Nat → Int32)) (v1 : Int32) : Option (Int32 × (Nat → Int32)) :=
  if v1 = (97 : Int32) then
    (bd1 (zf_X2_isPerson m_s (m_numbers (0 : Int32).toNatClampNeg)) fun r1 =>
    if r1 = 0 then
      (some ((0 : Int32), m_s))
    else
      (bd1 (zf_X2_isNode (m_numbers (1 : Int32).toNatClampNeg)) fun r2 =>
      if r2 = 0 then
        (some ((0 : Int32), m_s))
      else
        (bd1 (zf_X2_of (m_numbers (0 : Int32).toNatClampNeg) (0 : Int32)) fun r3 =>
        if r3 < 0 ∨ 105 ≤ r3.toNatClampNeg then none else
        some ((1 : Int32), (upd m_s r3.toNatClampNeg (m_numbers (1 : Int32).toNatClampNeg))))))
  else if v1 = (104 : Int32) then
    (bd1 (zf_X2_isPerson m_s (m_numbers (0 : Int32).toNatClampNeg)) fun r4 =>
    if r4 = 0 then
      (some ((0 : Int32), m_s))
    else
      (bd1 (zf_X2_isWay (m_numbers (1 : Int32).toNatClampNeg)) fun r5 =>
      if r5 = 0 then
        (some ((0 : Int32), m_s))
      else
        (bd1 (zf_X2_of (m_numbers (0 : Int32).toNatClampNeg) (1 : Int32)) fun r6 =>
        if r6 < 0 ∨ 105 ≤ r6.toNatClampNeg then none else
        some ((1 : Int32), (upd m_s r6.toNatClampNeg (m_numbers (1 : Int32).toNatClampNeg))))))
  else if v1 = (110 : Int32) then
    (bd1 (zf_X2_isNode (m_numbers (0 : Int32).toNatClampNeg)) fun r7 =>
    if r7 = 0 then
      (some ((0 : Int32), m_s))
    else
      (if ((3 : Int32) + (m_numbers (0 : Int32).toNatClampNeg)) < 0 ∨ 105 ≤ ((3 : Int32) + (m_numbers (0 : Int32).toNatClampNeg)).toNatClampNeg then none else
      if ((33 : Int32) + (m_numbers (0 : Int32).toNatClampNeg)) < 0 ∨ 105 ≤ ((33 : Int32) + (m_numbers (0 : Int32).toNatClampNeg)).toNatClampNeg then none else
      some ((1 : Int32), (upd (upd m_s ((3 : Int32) + (m_numbers (0 : Int32).toNatClampNeg)).toNatClampNeg (m_numbers (1 : Int32).toNatClampNeg)) ((33 : Int32) + (m_numbers (0 : Int32).toNatClampNeg)).toNatClampNeg (m_numbers (2 : Int32).toNatClampNeg)))))
  else if v1 = (112 : Int32) then
    (bd1 (zf_X2_isNode (m_numbers (0 : Int32).toNatClampNeg)) fun r8 =>
    if r8 = 0 then
      (some ((0 : Int32), m_s))
    else
      (bd1 (zf_X2_isWay (m_numbers (1 : Int32).toNatClampNeg)) fun r9 =>
      if r9 = 0 then
        (some ((0 : Int32), m_s))
      else
        (if (m_s (0 : Int32).toNatClampNeg) = (4 : Int32) then
          (some ((0 : Int32), m_s))
        else
          (bd1 (zf_X2_adds m_s (m_numbers (0 : Int32).toNatClampNeg) (m_numbers (1 : Int32).toNatClampNeg)) fun n10 =>
          some ((1 : Int32), n10)))))
  else if v1 = (119 : Int32) then
    (bd1 (zf_X2_isNode (m_numbers (0 : Int32).toNatClampNeg)) fun r11 =>
    if r11 = 0 then
      (some ((0 : Int32), m_s))
    else
      (if ((63 : Int32) + (m_numbers (0 : Int32).toNatClampNeg)) < 0 ∨ 105 ≤ ((63 : Int32) + (m_numbers (0 : Int32).toNatClampNeg)).toNatClampNeg then none else
      some ((1 : Int32), (upd m_s ((63 : Int32) + (m_numbers (0 : Int32).toNatClampNeg)).toNatClampNeg (m_numbers (1 : Int32).toNatClampNeg)))))
  else 
    (bd1 (zf_X2_isIn (m_numbers (0 : Int32).toNatClampNeg) (1 : Int32) (60 : Int32)) fun r12 =>
    if r12 = 0 then
      (some ((0 : Int32), m_s))
    else
      (if ((m_s (1 : Int32).toNatClampNeg) + (m_numbers (0 : Int32).toNatClampNeg)) ≤ (999 : Int32) then
        (bd1 (zf_X2_stepsOn m_s (m_numbers (0 : Int32).toNatClampNeg)) fun n13 =>
        some ((1 : Int32), n13))
      else
        (some ((0 : Int32), m_s))))
def zf_X2_wall_j128 (v1 : Int32) (v2 : Int32) (m_s : (Nat → Int32)) (m_was : (Nat → Int32)) (m_place : Int32) (m_numbers : (Nat → Int32)) : Option (Int32 × (Nat → Int32) × (Nat → Int32) × Int32 × Int32 × (Nat → Int32)) :=
  if v2 = ((-9) : Int32) then
    (some (v1, m_s, m_was, (0 : Int32), m_place, m_numbers))
  else
    (some (v2, m_s, m_was, (0 : Int32), m_place, m_numbers))
def zf_X2_wall_b62 (v1 : Int32) (m_was : (Nat → Int32)) (m_letters : (Nat → Int32)) (m_letterMany : Int32) (rec62 : Int32 → (Nat → Int32) → Int32 → (Nat → Int32) → Option (Int32 × (Nat → Int32) × (Nat → Int32) × Int32 × Int32 × (Nat → Int32))) (v2 : Int32) (m_s : (Nat → Int32)) (m_place : Int32) (m_numbers : (Nat → Int32)) : Option (Int32 × (Nat → Int32) × (Nat → Int32) × Int32 × Int32 × (Nat → Int32)) :=
  if v2 = ((-9) : Int32) then
    (if m_letterMany ≤ m_place then
      (zf_X2_wall_j128 v1 v2 m_s m_was m_place m_numbers)
    else
      (bd1 (zf_X2_here m_letters m_letterMany m_place) fun r5 =>
      bd3 (zf_X2_readsStatement m_letters m_letterMany m_place m_numbers) fun r6 n7 n8 =>
      bd2 (zf_X2_isDone m_s n8 r5) fun r9 n10 =>
      if r9 = 0 then
        (bd1 (zf_X2_copies m_was n10) fun n11 =>
        rec62 (((-2000) : Int32) - m_place) n11 n7 n8)
      else
        (rec62 v2 n10 n7 n8)))
  else
    (zf_X2_wall_j128 v1 v2 m_s m_was m_place m_numbers)
def zf_X2_wall_j46 (v1 : Int32) (v2 : Int32) (m_s : (Nat → Int32)) (m_was : (Nat → Int32)) (m_letters : (Nat → Int32)) (m_letterMany : Int32) (m_numbers : (Nat → Int32)) : Option (Int32 × (Nat → Int32) × (Nat → Int32) × Int32 × Int32 × (Nat → Int32)) :=
  bd1 (zf_X2_copies m_s m_was) fun n4 =>
  zl4 (zf_X2_wall_b62 v1 n4 m_letters m_letterMany) zb_FU v2 m_s (0 : Int32) m_numbers
def zf_X2_wall_b10 (m_s : (Nat → Int32)) (m_was : (Nat → Int32)) (m_letters : (Nat → Int32)) (m_letterMany : Int32) (rec10 : Int32 → Int32 → Int32 → (Nat → Int32) → Option (Int32 × (Nat → Int32) × (Nat → Int32) × Int32 × Int32 × (Nat → Int32))) (v1 : Int32) (v2 : Int32) (m_place : Int32) (m_numbers : (Nat → Int32)) : Option (Int32 × (Nat → Int32) × (Nat → Int32) × Int32 × Int32 × (Nat → Int32)) :=
  bd3 (zf_X2_readsStatement m_letters m_letterMany m_place m_numbers) fun r1 n2 n3 =>
  if r1 = 0 then
    (if (((-1000) : Int32) - n2) = ((-9) : Int32) then
      (if n2 < m_letterMany then
        (rec10 (v1 + (1 : Int32)) (((-1000) : Int32) - n2) n2 n3)
      else
        (zf_X2_wall_j46 (v1 + (1 : Int32)) (((-1000) : Int32) - n2) m_s m_was m_letters m_letterMany n3))
    else
      (zf_X2_wall_j46 (v1 + (1 : Int32)) (((-1000) : Int32) - n2) m_s m_was m_letters m_letterMany n3))
  else
    (if v2 = ((-9) : Int32) then
      (if n2 < m_letterMany then
        (rec10 (v1 + (1 : Int32)) v2 n2 n3)
      else
        (zf_X2_wall_j46 (v1 + (1 : Int32)) v2 m_s m_was m_letters m_letterMany n3))
    else
      (zf_X2_wall_j46 (v1 + (1 : Int32)) v2 m_s m_was m_letters m_letterMany n3))
def zf_X2_wall (m_s : (Nat → Int32)) (m_was : (Nat → Int32)) (m_letters : (Nat → Int32)) (m_letterMany : Int32) (m_place : Int32) (m_numbers : (Nat → Int32)) : Option (Int32 × (Nat → Int32) × (Nat → Int32) × Int32 × Int32 × (Nat → Int32)) :=
  zl4 (zf_X2_wall_b10 m_s m_was m_letters m_letterMany) zb_FU (0 : Int32) ((-9) : Int32) (0 : Int32) m_numbers
def zf_X2_node (m_s : (Nat → Int32)) (m_refused : (Nat → Int32)) (v1 : Int32) (v2 : Int32) : Option (Int32 × (Nat → Int32)) :=
  bd1 (zf_X2_isNode v1) fun r1 =>
  if r1 = 0 then
    (bd2 (zf_X2_no m_refused ((-1) : Int32)) fun r4 n5 =>
    some (r4, n5))
  else
    (if v2 = 0 then
      (if ((3 : Int32) + v1) < 0 ∨ 105 ≤ ((3 : Int32) + v1).toNatClampNeg then none else
      some ((m_s ((3 : Int32) + v1).toNatClampNeg), m_refused))
    else
      (if v2 = (1 : Int32) then
        (if ((33 : Int32) + v1) < 0 ∨ 105 ≤ ((33 : Int32) + v1).toNatClampNeg then none else
        some ((m_s ((33 : Int32) + v1).toNatClampNeg), m_refused))
      else
        (if v2 = (2 : Int32) then
          (if ((63 : Int32) + v1) < 0 ∨ 105 ≤ ((63 : Int32) + v1).toNatClampNeg then none else
          some ((m_s ((63 : Int32) + v1).toNatClampNeg), m_refused))
        else
          (bd2 (zf_X2_no m_refused ((-2) : Int32)) fun r2 n3 =>
          some (r2, n3)))))
def zf_X2_person (m_s : (Nat → Int32)) (m_refused : (Nat → Int32)) (v1 : Int32) (v2 : Int32) : Option (Int32 × (Nat → Int32)) :=
  bd1 (zf_X2_isPerson m_s v1) fun r1 =>
  if r1 = 0 then
    (bd2 (zf_X2_no m_refused ((-1) : Int32)) fun r9 n10 =>
    some (r9, n10))
  else
    (bd1 (zf_X2_isIn v2 (0 : Int32) (2 : Int32)) fun r2 =>
    if r2 = 0 then
      (if v2 = (3 : Int32) then
        (bd1 (zf_X2_of v1 (0 : Int32)) fun r3 =>
        if r3 < 0 ∨ 105 ≤ r3.toNatClampNeg then none else
        bd1 (zf_X2_isDry m_s (m_s r3.toNatClampNeg)) fun r4 =>
        if r4 = 0 then
          (bd1 (zf_X2_wayOf m_s v1 ((m_s (1 : Int32).toNatClampNeg) + (1 : Int32))) fun r5 =>
          some (r5, m_refused))
        else
          (some (((-9) : Int32), m_refused)))
      else
        (bd2 (zf_X2_no m_refused ((-2) : Int32)) fun r6 n7 =>
        some (r6, n7)))
    else
      (bd1 (zf_X2_of v1 v2) fun r8 =>
      if r8 < 0 ∨ 105 ≤ r8.toNatClampNeg then none else
      some ((m_s r8.toNatClampNeg), m_refused)))
def zf_X2_wrongBy (v0 : Int32) (v1 : Int32) (v2 : Int32) : Option Int32 :=
  if v1 ≤ v0 then
    (if v0 ≤ v2 then
      (some (0 : Int32))
    else
      (some ((-6) : Int32)))
  else
    (some ((-4) : Int32))
def zf_X2_sets (m_s : (Nat → Int32)) (v1 : Int32) (v2 : Int32) : Option (Int32 × (Nat → Int32)) :=
  if v1 < 0 ∨ 105 ≤ v1.toNatClampNeg then none else
  if v1 < 0 ∨ 105 ≤ v1.toNatClampNeg then none else
  some ((m_s v1.toNatClampNeg), (upd m_s v1.toNatClampNeg v2))
def zf_X2_lays_j32 (v1 : Int32) (v2 : Int32) (v3 : Int32) (k0 : Int32) (m_s : (Nat → Int32)) (m_refused : (Nat → Int32)) : Option (Int32 × (Nat → Int32) × (Nat → Int32)) :=
  if k0 = 0 then
    (if ((3 : Int32) + v1) < 0 ∨ 105 ≤ ((3 : Int32) + v1).toNatClampNeg then none else
    if ((33 : Int32) + v1) < 0 ∨ 105 ≤ ((33 : Int32) + v1).toNatClampNeg then none else
    if ((3 : Int32) + v1) < 0 ∨ 105 ≤ ((3 : Int32) + v1).toNatClampNeg then none else
    if ((33 : Int32) + v1) < 0 ∨ 105 ≤ ((33 : Int32) + v1).toNatClampNeg then none else
    some ((((10 : Int32) * (m_s ((3 : Int32) + v1).toNatClampNeg)) + (m_s ((33 : Int32) + v1).toNatClampNeg)), (upd (upd m_s ((3 : Int32) + v1).toNatClampNeg v2) ((33 : Int32) + v1).toNatClampNeg v3), m_refused))
  else
    (bd2 (zf_X2_no m_refused k0) fun r4 n5 =>
    some (r4, m_s, n5))
def zf_X2_lays (m_s : (Nat → Int32)) (m_refused : (Nat → Int32)) (v1 : Int32) (v2 : Int32) (v3 : Int32) : Option (Int32 × (Nat → Int32) × (Nat → Int32)) :=
  bd1 (zf_X2_isNode v1) fun r1 =>
  if r1 = 0 then
    (zf_X2_lays_j32 v1 v2 v3 ((-1) : Int32) m_s m_refused)
  else
    (bd1 (zf_X2_isIn v2 (0 : Int32) (5 : Int32)) fun r2 =>
    if r2 = 0 then
      (zf_X2_lays_j32 v1 v2 v3 ((-2) : Int32) m_s m_refused)
    else
      (bd1 (zf_X2_wrongBy v3 (0 : Int32) (9 : Int32)) fun r3 =>
      zf_X2_lays_j32 v1 v2 v3 r3 m_s m_refused))
def zf_X2_wets (m_s : (Nat → Int32)) (m_refused : (Nat → Int32)) (v1 : Int32) (v2 : Int32) : Option (Int32 × (Nat → Int32) × (Nat → Int32)) :=
  bd1 (zf_X2_isNode v1) fun r1 =>
  if r1 = 0 then
    (bd2 (zf_X2_no m_refused ((-1) : Int32)) fun r2 n3 =>
    some (r2, m_s, n3))
  else
    (bd1 (zf_X2_wrongBy v2 (0 : Int32) (9 : Int32)) fun r4 =>
    if r4 = 0 then
      (bd2 (zf_X2_sets m_s ((63 : Int32) + v1) v2) fun r5 n6 =>
      some (r5, n6, m_refused))
    else
      (bd2 (zf_X2_no m_refused r4) fun r7 n8 =>
      some (r7, m_s, n8)))
def zf_X2_comesIn (m_s : (Nat → Int32)) (m_refused : (Nat → Int32)) (v1 : Int32) (v2 : Int32) : Option (Int32 × (Nat → Int32) × (Nat → Int32)) :=
  bd1 (zf_X2_isNode v1) fun r1 =>
  if r1 = 0 then
    (bd2 (zf_X2_no m_refused ((-1) : Int32)) fun r2 n3 =>
    some (r2, m_s, n3))
  else
    (bd1 (zf_X2_isWay v2) fun r4 =>
    if r4 = 0 then
      (bd2 (zf_X2_no m_refused ((-1) : Int32)) fun r8 n9 =>
      some (r8, m_s, n9))
    else
      (if (m_s (0 : Int32).toNatClampNeg) = (4 : Int32) then
        (bd2 (zf_X2_no m_refused ((-6) : Int32)) fun r6 n7 =>
        some (r6, m_s, n7))
      else
        (bd1 (zf_X2_adds m_s v1 v2) fun n5 =>
        some (((n5 (0 : Int32).toNatClampNeg) - (1 : Int32)), n5, m_refused))))
def zf_X2_heads (m_s : (Nat → Int32)) (m_refused : (Nat → Int32)) (v1 : Int32) (v2 : Int32) : Option (Int32 × (Nat → Int32) × (Nat → Int32)) :=
  bd1 (zf_X2_isPerson m_s v1) fun r1 =>
  if r1 = 0 then
    (bd2 (zf_X2_no m_refused ((-1) : Int32)) fun r2 n3 =>
    some (r2, m_s, n3))
  else
    (bd1 (zf_X2_isWay v2) fun r4 =>
    if r4 = 0 then
      (bd2 (zf_X2_no m_refused ((-1) : Int32)) fun r5 n6 =>
      some (r5, m_s, n6))
    else
      (bd1 (zf_X2_of v1 (1 : Int32)) fun r7 =>
      bd2 (zf_X2_sets m_s r7 v2) fun r8 n9 =>
      some (r8, n9, m_refused)))
def zf_X2_areThere (m_s : (Nat → Int32)) (v1 : Int32) (v2 : Int32) : Option Int32 :=
  bd1 (zf_X2_isPerson m_s v1) fun r1 =>
  if r1 = 0 then
    (some (0 : Int32))
  else
    (bd1 (zf_X2_isNode v2) fun r2 =>
    if r2 = 0 then
      (some (0 : Int32))
    else
      (some (1 : Int32)))
def zf_X2_stands (m_s : (Nat → Int32)) (m_refused : (Nat → Int32)) (v1 : Int32) (v2 : Int32) : Option (Int32 × (Nat → Int32) × (Nat → Int32)) :=
  bd1 (zf_X2_areThere m_s v1 v2) fun r1 =>
  if r1 = 0 then
    (bd2 (zf_X2_no m_refused ((-1) : Int32)) fun r2 n3 =>
    some (r2, m_s, n3))
  else
    (bd1 (zf_X2_of v1 (0 : Int32)) fun r4 =>
    bd2 (zf_X2_sets m_s r4 v2) fun r5 n6 =>
    some (r5, n6, m_refused))
def zf_X2_steps (m_s : (Nat → Int32)) (m_refused : (Nat → Int32)) (v1 : Int32) : Option (Int32 × (Nat → Int32) × (Nat → Int32)) :=
  if (1 : Int32) ≤ v1 then
    (if (60 : Int32) < v1 then
      (bd2 (zf_X2_no m_refused ((-6) : Int32)) fun r1 n2 =>
      some (r1, m_s, n2))
    else
      (if ((m_s (1 : Int32).toNatClampNeg) + v1) ≤ (999 : Int32) then
        (bd1 (zf_X2_stepsOn m_s v1) fun n3 =>
        bd1 (zf_X2_allWet n3) fun r4 =>
        some (r4, n3, m_refused))
      else
        (bd2 (zf_X2_no m_refused ((-6) : Int32)) fun r5 n6 =>
        some (r5, m_s, n6))))
  else
    (bd2 (zf_X2_no m_refused ((-4) : Int32)) fun r7 n8 =>
    some (r7, m_s, n8))
def zf_X2_takes (m_s : (Nat → Int32)) (m_m : (Nat → Int32)) (v1 : Int32) : Option (Nat → Int32) :=
  bd1 (zf_X2_copies m_s m_m) fun n1 =>
  bd1 (zf_X2_stepsOn n1 v1) fun n2 =>
  some n2
def zf_X2_personThen_j39 (v1 : Int32) (v2 : Int32) (v3 : Int32) (v4 : Int32) (m_s : (Nat → Int32)) (m_m : (Nat → Int32)) (m_refused : (Nat → Int32)) : Option (Int32 × (Nat → Int32) × (Nat → Int32)) :=
  if v4 = 0 then
    (bd1 (zf_X2_takes m_s m_m v2) fun n2 =>
    bd1 (zf_X2_of v1 v3) fun r3 =>
    if r3 < 0 ∨ 105 ≤ r3.toNatClampNeg then none else
    some ((n2 r3.toNatClampNeg), n2, m_refused))
  else
    (bd2 (zf_X2_no m_refused v4) fun r4 n5 =>
    some (r4, m_m, n5))
def zf_X2_personThen (m_s : (Nat → Int32)) (m_m : (Nat → Int32)) (m_refused : (Nat → Int32)) (v1 : Int32) (v2 : Int32) (v3 : Int32) : Option (Int32 × (Nat → Int32) × (Nat → Int32)) :=
  bd1 (zf_X2_isPerson m_s v1) fun r1 =>
  if r1 = 0 then
    (zf_X2_personThen_j39 v1 v2 v3 ((-1) : Int32) m_s m_m m_refused)
  else
    (bd1 (zf_X2_wrongBy v2 (0 : Int32) (60 : Int32)) fun r6 =>
    if r6 = 0 then
      (bd1 (zf_X2_isIn v3 (0 : Int32) (2 : Int32)) fun r7 =>
      if r7 = 0 then
        (zf_X2_personThen_j39 v1 v2 v3 ((-2) : Int32) m_s m_m m_refused)
      else
        (zf_X2_personThen_j39 v1 v2 v3 r6 m_s m_m m_refused))
    else
      (zf_X2_personThen_j39 v1 v2 v3 r6 m_s m_m m_refused))
def zf_X2_wetThen (m_s : (Nat → Int32)) (m_m : (Nat → Int32)) (m_refused : (Nat → Int32)) (v1 : Int32) (v2 : Int32) : Option (Int32 × (Nat → Int32) × (Nat → Int32)) :=
  bd1 (zf_X2_isNode v1) fun r1 =>
  if r1 = 0 then
    (bd2 (zf_X2_no m_refused ((-1) : Int32)) fun r2 n3 =>
    some (r2, m_m, n3))
  else
    (bd1 (zf_X2_wrongBy v2 (0 : Int32) (60 : Int32)) fun r4 =>
    if r4 = 0 then
      (bd1 (zf_X2_takes m_s m_m v2) fun n5 =>
      if ((63 : Int32) + v1) < 0 ∨ 105 ≤ ((63 : Int32) + v1).toNatClampNeg then none else
      some ((n5 ((63 : Int32) + v1).toNatClampNeg), n5, m_refused))
    else
      (bd2 (zf_X2_no m_refused r4) fun r6 n7 =>
      some (r6, m_m, n7)))
def zf_X2_comesTo_b2 (v1 : Int32) (v2 : Int32) (rec2 : Int32 → (Nat → Int32) → Option (Int32 × (Nat → Int32))) (v3 : Int32) (m_m : (Nat → Int32)) : Option (Int32 × (Nat → Int32)) :=
  if (60 : Int32) < v3 then
    (some (((-9) : Int32), m_m))
  else
    (bd1 (zf_X2_of v1 (0 : Int32)) fun r1 =>
    if r1 < 0 ∨ 105 ≤ r1.toNatClampNeg then none else
    if (m_m r1.toNatClampNeg) = v2 then
      (some (v3, m_m))
    else
      (bd1 (zf_X2_step m_m) fun n2 =>
      rec2 (v3 + (1 : Int32)) n2))
def zf_X2_comesTo (m_m : (Nat → Int32)) (v1 : Int32) (v2 : Int32) : Option (Int32 × (Nat → Int32)) :=
  zl2 (zf_X2_comesTo_b2 v1 v2) zb_FU (0 : Int32) m_m
def zf_X2_comes (m_s : (Nat → Int32)) (m_m : (Nat → Int32)) (m_refused : (Nat → Int32)) (v1 : Int32) (v2 : Int32) : Option (Int32 × (Nat → Int32) × (Nat → Int32)) :=
  bd1 (zf_X2_areThere m_s v1 v2) fun r1 =>
  if r1 = 0 then
    (bd2 (zf_X2_no m_refused ((-1) : Int32)) fun r5 n6 =>
    some (r5, m_m, n6))
  else
    (bd1 (zf_X2_copies m_s m_m) fun n2 =>
    bd2 (zf_X2_comesTo n2 v1 v2) fun r3 n4 =>
    some (r3, n4, m_refused))
def zf_X2_visitsIn_b16 (v1 : Int32) (v2 : Int32) (rec16 : Int32 → Int32 → (Nat → Int32) → Option (Int32 × (Nat → Int32))) (v3 : Int32) (v4 : Int32) (m_m : (Nat → Int32)) : Option (Int32 × (Nat → Int32)) :=
  if v2 ≤ v4 then
    (bd1 (zf_X2_bits v3) fun r2 =>
    some (r2, m_m))
  else
    (bd1 (zf_X2_step m_m) fun n3 =>
    bd1 (zf_X2_of v1 (0 : Int32)) fun r4 =>
    if r4 < 0 ∨ 105 ≤ r4.toNatClampNeg then none else
    rec16 (v3 ||| ((1 : Int32) <<< ((n3 r4.toNatClampNeg) &&& 31))) (v4 + (1 : Int32)) n3)
def zf_X2_visitsIn (m_m : (Nat → Int32)) (v1 : Int32) (v2 : Int32) : Option (Int32 × (Nat → Int32)) :=
  bd1 (zf_X2_of v1 (0 : Int32)) fun r1 =>
  if r1 < 0 ∨ 105 ≤ r1.toNatClampNeg then none else
  zl3 (zf_X2_visitsIn_b16 v1 v2) zb_FU ((1 : Int32) <<< ((m_m r1.toNatClampNeg) &&& 31)) (0 : Int32) m_m
def zf_X2_visitsNow (m_s : (Nat → Int32)) (m_m : (Nat → Int32)) (v1 : Int32) (v2 : Int32) : Option (Int32 × (Nat → Int32)) :=
  bd1 (zf_X2_copies m_s m_m) fun n1 =>
  bd2 (zf_X2_visitsIn n1 v1 v2) fun r2 n3 =>
  some (r2, n3)
def zf_X2_visits (m_s : (Nat → Int32)) (m_m : (Nat → Int32)) (m_refused : (Nat → Int32)) (v1 : Int32) (v2 : Int32) : Option (Int32 × (Nat → Int32) × (Nat → Int32)) :=
  bd1 (zf_X2_isPerson m_s v1) fun r1 =>
  if r1 = 0 then
    (bd2 (zf_X2_no m_refused ((-1) : Int32)) fun r2 n3 =>
    some (r2, m_m, n3))
  else
    (bd1 (zf_X2_wrongBy v2 (0 : Int32) (60 : Int32)) fun r4 =>
    if r4 = 0 then
      (bd2 (zf_X2_visitsNow m_s m_m v1 v2) fun r5 n6 =>
      some (r5, n6, m_refused))
    else
      (bd2 (zf_X2_no m_refused r4) fun r7 n8 =>
      some (r7, m_m, n8)))
def zf_X2_stops_b27 (v1 : Int32) (m_refused : (Nat → Int32)) (rec27 : Int32 → (Nat → Int32) → Option (Int32 × (Nat → Int32) × (Nat → Int32))) (v2 : Int32) (m_m : (Nat → Int32)) : Option (Int32 × (Nat → Int32) × (Nat → Int32)) :=
  if (60 : Int32) < v2 then
    (some (((-9) : Int32), m_m, m_refused))
  else
    (bd1 (zf_X2_of v1 (0 : Int32)) fun r3 =>
    if r3 < 0 ∨ 105 ≤ r3.toNatClampNeg then none else
    bd1 (zf_X2_isDry m_m (m_m r3.toNatClampNeg)) fun r4 =>
    if r4 = 0 then
      (bd1 (zf_X2_step m_m) fun n5 =>
      rec27 (v2 + (1 : Int32)) n5)
    else
      (some (v2, m_m, m_refused)))
def zf_X2_stops (m_s : (Nat → Int32)) (m_m : (Nat → Int32)) (m_refused : (Nat → Int32)) (v1 : Int32) : Option (Int32 × (Nat → Int32) × (Nat → Int32)) :=
  bd1 (zf_X2_isPerson m_s v1) fun r1 =>
  if r1 = 0 then
    (bd2 (zf_X2_no m_refused ((-1) : Int32)) fun r6 n7 =>
    some (r6, m_m, n7))
  else
    (bd1 (zf_X2_copies m_s m_m) fun n2 =>
    zl2 (zf_X2_stops_b27 v1 m_refused) zb_FU (0 : Int32) n2)
def zf_X2_areTwo (m_s : (Nat → Int32)) (v1 : Int32) (v2 : Int32) : Option Int32 :=
  bd1 (zf_X2_isPerson m_s v1) fun r1 =>
  if r1 = 0 then
    (some (0 : Int32))
  else
    (bd1 (zf_X2_isPerson m_s v2) fun r2 =>
    if r2 = 0 then
      (some (0 : Int32))
    else
      (if v1 = v2 then
        (some (0 : Int32))
      else
        (some (1 : Int32))))
def zf_X2_meets_b28 (v1 : Int32) (v2 : Int32) (m_refused : (Nat → Int32)) (rec28 : Int32 → (Nat → Int32) → Option (Int32 × (Nat → Int32) × (Nat → Int32))) (v3 : Int32) (m_m : (Nat → Int32)) : Option (Int32 × (Nat → Int32) × (Nat → Int32)) :=
  if (60 : Int32) < v3 then
    (some (((-9) : Int32), m_m, m_refused))
  else
    (bd1 (zf_X2_of v1 (0 : Int32)) fun r3 =>
    if r3 < 0 ∨ 105 ≤ r3.toNatClampNeg then none else
    bd1 (zf_X2_of v2 (0 : Int32)) fun r4 =>
    if r4 < 0 ∨ 105 ≤ r4.toNatClampNeg then none else
    if (m_m r3.toNatClampNeg) = (m_m r4.toNatClampNeg) then
      (some (v3, m_m, m_refused))
    else
      (bd1 (zf_X2_step m_m) fun n5 =>
      rec28 (v3 + (1 : Int32)) n5))
def zf_X2_meets (m_s : (Nat → Int32)) (m_m : (Nat → Int32)) (m_refused : (Nat → Int32)) (v1 : Int32) (v2 : Int32) : Option (Int32 × (Nat → Int32) × (Nat → Int32)) :=
  bd1 (zf_X2_areTwo m_s v1 v2) fun r1 =>
  if r1 = 0 then
    (bd2 (zf_X2_no m_refused ((-1) : Int32)) fun r6 n7 =>
    some (r6, m_m, n7))
  else
    (bd1 (zf_X2_copies m_s m_m) fun n2 =>
    zl2 (zf_X2_meets_b28 v1 v2 m_refused) zb_FU (0 : Int32) n2)
def zf_X2_round_b27 (v1 : Int32) (m_s : (Nat → Int32)) (m_refused : (Nat → Int32)) (rec27 : Int32 → (Nat → Int32) → Option (Int32 × (Nat → Int32) × (Nat → Int32))) (v2 : Int32) (m_m : (Nat → Int32)) : Option (Int32 × (Nat → Int32) × (Nat → Int32)) :=
  if (60 : Int32) < v2 then
    (some (((-9) : Int32), m_m, m_refused))
  else
    (bd1 (zf_X2_step m_m) fun n3 =>
    bd1 (zf_X2_of v1 (0 : Int32)) fun r4 =>
    if r4 < 0 ∨ 105 ≤ r4.toNatClampNeg then none else
    bd1 (zf_X2_of v1 (0 : Int32)) fun r5 =>
    if r5 < 0 ∨ 105 ≤ r5.toNatClampNeg then none else
    if (n3 r4.toNatClampNeg) = (m_s r5.toNatClampNeg) then
      (bd1 (zf_X2_of v1 (1 : Int32)) fun r6 =>
      if r6 < 0 ∨ 105 ≤ r6.toNatClampNeg then none else
      bd1 (zf_X2_of v1 (1 : Int32)) fun r7 =>
      if r7 < 0 ∨ 105 ≤ r7.toNatClampNeg then none else
      if (n3 r6.toNatClampNeg) = (m_s r7.toNatClampNeg) then
        (some (v2, n3, m_refused))
      else
        (rec27 (v2 + (1 : Int32)) n3))
    else
      (rec27 (v2 + (1 : Int32)) n3))
def zf_X2_round (m_s : (Nat → Int32)) (m_m : (Nat → Int32)) (m_refused : (Nat → Int32)) (v1 : Int32) : Option (Int32 × (Nat → Int32) × (Nat → Int32)) :=
  bd1 (zf_X2_isPerson m_s v1) fun r1 =>
  if r1 = 0 then
    (bd2 (zf_X2_no m_refused ((-1) : Int32)) fun r8 n9 =>
    some (r8, m_m, n9))
  else
    (bd1 (zf_X2_copies m_s m_m) fun n2 =>
    zl2 (zf_X2_round_b27 v1 m_s m_refused) zb_FU (1 : Int32) n2)
def zf_X2_measures_b110 (rec42 : Int32 → (Nat → Int32) → Option (Nat → Int32)) (v4 : Int32) (v5 : Int32) (rec110 : Int32 → (Nat → Int32) → Option (Nat → Int32)) (v6 : Int32) (m_cost : (Nat → Int32)) : Option (Nat → Int32) :=
  if (4 : Int32) ≤ v6 then
    (rec42 (v4 + (1 : Int32)) m_cost)
  else
    (bd1 (zf_X2_nodeThere v4 v6) fun r1 =>
    if r1 < 0 then
      (rec110 (v6 + (1 : Int32)) m_cost)
    else
      (if r1 < 0 ∨ 30 ≤ r1.toNatClampNeg then none else
      if v4 < 0 ∨ 30 ≤ v4.toNatClampNeg then none else
      bd1 (zf_X2_least (m_cost r1.toNatClampNeg) ((m_cost v4.toNatClampNeg) + v5)) fun r2 =>
      if r1 < 0 ∨ 30 ≤ r1.toNatClampNeg then none else
      rec110 (v6 + (1 : Int32)) (upd m_cost r1.toNatClampNeg r2)))
def zf_X2_measures_b42 (rec33 : Int32 → (Nat → Int32) → Option (Nat → Int32)) (v2 : Int32) (v3 : Int32) (m_s : (Nat → Int32)) (rec42 : Int32 → (Nat → Int32) → Option (Nat → Int32)) (v4 : Int32) (m_cost : (Nat → Int32)) : Option (Nat → Int32) :=
  if (30 : Int32) ≤ v4 then
    (rec33 (v3 + (1 : Int32)) m_cost)
  else
    (if v4 < 0 ∨ 30 ≤ v4.toNatClampNeg then none else
    if (1000000000 : Int32) ≤ (m_cost v4.toNatClampNeg) then
      (rec42 (v4 + (1 : Int32)) m_cost)
    else
      (if v2 = 0 then
        (bd1 (zf_X2_isDry m_s v4) fun r4 =>
        if r4 = 0 then
          (if v2 = 0 then
            (zl2 (zf_X2_measures_b110 rec42 v4 (1 : Int32)) zb_FU (0 : Int32) m_cost)
          else
            (bd1 (zf_X2_isDry m_s v4) fun r5 =>
            if r5 = 0 then
              (zl2 (zf_X2_measures_b110 rec42 v4 (0 : Int32)) zb_FU (0 : Int32) m_cost)
            else
              (zl2 (zf_X2_measures_b110 rec42 v4 (1 : Int32)) zb_FU (0 : Int32) m_cost)))
        else
          (rec42 (v4 + (1 : Int32)) m_cost))
      else
        (if v2 = 0 then
          (zl2 (zf_X2_measures_b110 rec42 v4 (1 : Int32)) zb_FU (0 : Int32) m_cost)
        else
          (bd1 (zf_X2_isDry m_s v4) fun r3 =>
          if r3 = 0 then
            (zl2 (zf_X2_measures_b110 rec42 v4 (0 : Int32)) zb_FU (0 : Int32) m_cost)
          else
            (zl2 (zf_X2_measures_b110 rec42 v4 (1 : Int32)) zb_FU (0 : Int32) m_cost)))))
def zf_X2_measures_b33 (v2 : Int32) (m_s : (Nat → Int32)) (rec33 : Int32 → (Nat → Int32) → Option (Nat → Int32)) (v3 : Int32) (m_cost : (Nat → Int32)) : Option (Nat → Int32) :=
  if (30 : Int32) ≤ v3 then
    (some m_cost)
  else
    (zl2 (zf_X2_measures_b42 rec33 v2 v3 m_s) zb_FU (0 : Int32) m_cost)
def zf_X2_measures_b2 (v1 : Int32) (v2 : Int32) (m_s : (Nat → Int32)) (rec2 : Int32 → (Nat → Int32) → Option (Nat → Int32)) (v3 : Int32) (m_cost : (Nat → Int32)) : Option (Nat → Int32) :=
  if (30 : Int32) ≤ v3 then
    (zl2 (zf_X2_measures_b33 v2 m_s) zb_FU (0 : Int32) m_cost)
  else
    (if v3 = v1 then
      (if v3 < 0 ∨ 30 ≤ v3.toNatClampNeg then none else
      rec2 (v3 + (1 : Int32)) (upd m_cost v3.toNatClampNeg (0 : Int32)))
    else
      (if v3 < 0 ∨ 30 ≤ v3.toNatClampNeg then none else
      rec2 (v3 + (1 : Int32)) (upd m_cost v3.toNatClampNeg (1000000000 : Int32))))
def zf_X2_measures (m_s : (Nat → Int32)) (m_cost : (Nat → Int32)) (v1 : Int32) (v2 : Int32) : Option (Nat → Int32) :=
  zl2 (zf_X2_measures_b2 v1 v2 m_s) zb_FU (0 : Int32) m_cost
def zf_X2_way (m_s : (Nat → Int32)) (m_refused : (Nat → Int32)) (m_cost : (Nat → Int32)) (v1 : Int32) (v2 : Int32) (v3 : Int32) : Option (Int32 × (Nat → Int32) × (Nat → Int32)) :=
  bd1 (zf_X2_isNode v1) fun r1 =>
  if r1 = 0 then
    (bd2 (zf_X2_no m_refused ((-1) : Int32)) fun r2 n3 =>
    some (r2, n3, m_cost))
  else
    (bd1 (zf_X2_isNode v2) fun r4 =>
    if r4 = 0 then
      (bd2 (zf_X2_no m_refused ((-1) : Int32)) fun r10 n11 =>
      some (r10, n11, m_cost))
    else
      (bd1 (zf_X2_isIn v3 (0 : Int32) (1 : Int32)) fun r5 =>
      if r5 = 0 then
        (bd2 (zf_X2_no m_refused ((-2) : Int32)) fun r8 n9 =>
        some (r8, n9, m_cost))
      else
        (if v3 = (1 : Int32) then
          (bd1 (zf_X2_measures m_s m_cost v1 (1 : Int32)) fun n7 =>
          if v2 < 0 ∨ 30 ≤ v2.toNatClampNeg then none else
          if (n7 v2.toNatClampNeg) < (1000000000 : Int32) then
            (if v2 < 0 ∨ 30 ≤ v2.toNatClampNeg then none else
            some ((n7 v2.toNatClampNeg), m_refused, n7))
          else
            (some (((-9) : Int32), m_refused, n7)))
        else
          (bd1 (zf_X2_measures m_s m_cost v1 (0 : Int32)) fun n6 =>
          if v2 < 0 ∨ 30 ≤ v2.toNatClampNeg then none else
          if (n6 v2.toNatClampNeg) < (1000000000 : Int32) then
            (if v2 < 0 ∨ 30 ≤ v2.toNatClampNeg then none else
            some ((n6 v2.toNatClampNeg), m_refused, n6))
          else
            (some (((-9) : Int32), m_refused, n6))))))
def zf_X2_begin_j122 (v3 : Int32) (v5 : Int32) (v6 : Int32) (m_m : (Nat → Int32)) (m_refused : (Nat → Int32)) : Option (Int32 × (Nat → Int32) × (Nat → Int32)) :=
  if v3 = 0 then
    (some (v5, m_m, m_refused))
  else
    (some (v6, m_m, m_refused))
def zf_X2_begin_b60 (v1 : Int32) (v2 : Int32) (v3 : Int32) (m_s : (Nat → Int32)) (m_refused : (Nat → Int32)) (rec60 : Int32 → Int32 → Int32 → (Nat → Int32) → Option (Int32 × (Nat → Int32) × (Nat → Int32))) (v5 : Int32) (v6 : Int32) (v7 : Int32) (m_m : (Nat → Int32)) : Option (Int32 × (Nat → Int32) × (Nat → Int32)) :=
  if (30 : Int32) ≤ v7 then
    (zf_X2_begin_j122 v3 v5 v6 m_m m_refused)
  else
    (bd1 (zf_X2_copies m_s m_m) fun n2 =>
    bd1 (zf_X2_of v1 (0 : Int32)) fun r3 =>
    if r3 < 0 ∨ 105 ≤ r3.toNatClampNeg then none else
    bd2 (zf_X2_visitsIn (upd n2 r3.toNatClampNeg v7) v1 v2) fun r4 n5 =>
    if v6 < r4 then
      (rec60 v7 r4 (v7 + (1 : Int32)) n5)
    else
      (rec60 v5 v6 (v7 + (1 : Int32)) n5))
def zf_X2_begin_j39 (v1 : Int32) (v2 : Int32) (v3 : Int32) (v4 : Int32) (m_s : (Nat → Int32)) (m_m : (Nat → Int32)) (m_refused : (Nat → Int32)) : Option (Int32 × (Nat → Int32) × (Nat → Int32)) :=
  if v4 = 0 then
    (zl4 (zf_X2_begin_b60 v1 v2 v3 m_s m_refused) zb_FU (0 : Int32) ((-1) : Int32) (0 : Int32) m_m)
  else
    (bd2 (zf_X2_no m_refused v4) fun r6 n7 =>
    some (r6, m_m, n7))
def zf_X2_begin (m_s : (Nat → Int32)) (m_m : (Nat → Int32)) (m_refused : (Nat → Int32)) (v1 : Int32) (v2 : Int32) (v3 : Int32) : Option (Int32 × (Nat → Int32) × (Nat → Int32)) :=
  bd1 (zf_X2_isPerson m_s v1) fun r1 =>
  if r1 = 0 then
    (zf_X2_begin_j39 v1 v2 v3 ((-1) : Int32) m_s m_m m_refused)
  else
    (bd1 (zf_X2_wrongBy v2 (0 : Int32) (30 : Int32)) fun r8 =>
    if r8 = 0 then
      (bd1 (zf_X2_isIn v3 (0 : Int32) (1 : Int32)) fun r9 =>
      if r9 = 0 then
        (zf_X2_begin_j39 v1 v2 v3 ((-2) : Int32) m_s m_m m_refused)
      else
        (zf_X2_begin_j39 v1 v2 v3 r8 m_s m_m m_refused))
    else
      (zf_X2_begin_j39 v1 v2 v3 r8 m_s m_m m_refused))
def zf_X2_head_b25 (v1 : Int32) (v2 : Int32) (m_s : (Nat → Int32)) (m_refused : (Nat → Int32)) (rec25 : Int32 → Int32 → Int32 → (Nat → Int32) → Option (Int32 × (Nat → Int32) × (Nat → Int32))) (v3 : Int32) (v4 : Int32) (v5 : Int32) (m_m : (Nat → Int32)) : Option (Int32 × (Nat → Int32) × (Nat → Int32)) :=
  if (4 : Int32) ≤ v5 then
    (some (v3, m_m, m_refused))
  else
    (bd1 (zf_X2_copies m_s m_m) fun n2 =>
    bd1 (zf_X2_of v1 (1 : Int32)) fun r3 =>
    if r3 < 0 ∨ 105 ≤ r3.toNatClampNeg then none else
    bd2 (zf_X2_comesTo (upd n2 r3.toNatClampNeg v5) v1 v2) fun r4 n5 =>
    if r4 < 0 then
      (rec25 v3 v4 (v5 + (1 : Int32)) n5)
    else
      (if r4 < v4 then
        (rec25 v5 r4 (v5 + (1 : Int32)) n5)
      else
        (rec25 v3 v4 (v5 + (1 : Int32)) n5)))
def zf_X2_head (m_s : (Nat → Int32)) (m_m : (Nat → Int32)) (m_refused : (Nat → Int32)) (v1 : Int32) (v2 : Int32) : Option (Int32 × (Nat → Int32) × (Nat → Int32)) :=
  bd1 (zf_X2_areThere m_s v1 v2) fun r1 =>
  if r1 = 0 then
    (bd2 (zf_X2_no m_refused ((-1) : Int32)) fun r6 n7 =>
    some (r6, m_m, n7))
  else
    (zl4 (zf_X2_head_b25 v1 v2 m_s m_refused) zb_FU ((-9) : Int32) (1000000000 : Int32) (0 : Int32) m_m)
def zf_X2_damp_b45 (v1 : Int32) (v2 : Int32) (m_s : (Nat → Int32)) (m_refused : (Nat → Int32)) (rec45 : Int32 → Int32 → Int32 → (Nat → Int32) → Option (Int32 × (Nat → Int32) × (Nat → Int32))) (v4 : Int32) (v5 : Int32) (v6 : Int32) (m_m : (Nat → Int32)) : Option (Int32 × (Nat → Int32) × (Nat → Int32)) :=
  if (30 : Int32) ≤ v6 then
    (some (v5, m_m, m_refused))
  else
    (bd1 (zf_X2_copies m_s m_m) fun n7 =>
    if ((63 : Int32) + v6) < 0 ∨ 105 ≤ ((63 : Int32) + v6).toNatClampNeg then none else
    bd2 (zf_X2_visitsIn (upd n7 ((63 : Int32) + v6).toNatClampNeg (9 : Int32)) v1 v2) fun r8 n9 =>
    if v4 < r8 then
      (rec45 r8 v6 (v6 + (1 : Int32)) n9)
    else
      (rec45 v4 v5 (v6 + (1 : Int32)) n9))
def zf_X2_damp (m_s : (Nat → Int32)) (m_m : (Nat → Int32)) (m_refused : (Nat → Int32)) (v1 : Int32) (v2 : Int32) : Option (Int32 × (Nat → Int32) × (Nat → Int32)) :=
  bd1 (zf_X2_isPerson m_s v1) fun r1 =>
  if r1 = 0 then
    (bd2 (zf_X2_no m_refused ((-1) : Int32)) fun r2 n3 =>
    some (r2, m_m, n3))
  else
    (bd1 (zf_X2_wrongBy v2 (0 : Int32) (30 : Int32)) fun r4 =>
    if r4 = 0 then
      (bd2 (zf_X2_visitsNow m_s m_m v1 v2) fun r5 n6 =>
      zl4 (zf_X2_damp_b45 v1 v2 m_s m_refused) zb_FU r5 ((-9) : Int32) (0 : Int32) n6)
    else
      (bd2 (zf_X2_no m_refused r4) fun r10 n11 =>
      some (r10, m_m, n11)))
def zf_X2_bestKind_b43 (v1 : Int32) (v2 : Int32) (v3 : Int32) (m_s : (Nat → Int32)) (m_refused : (Nat → Int32)) (rec43 : Int32 → Int32 → Int32 → (Nat → Int32) → Option (Int32 × (Nat → Int32) × (Nat → Int32))) (v5 : Int32) (v6 : Int32) (v7 : Int32) (m_m : (Nat → Int32)) : Option (Int32 × (Nat → Int32) × (Nat → Int32)) :=
  if (6 : Int32) ≤ v7 then
    (some (v5, m_m, m_refused))
  else
    (bd1 (zf_X2_copies m_s m_m) fun n5 =>
    if ((3 : Int32) + v1) < 0 ∨ 105 ≤ ((3 : Int32) + v1).toNatClampNeg then none else
    bd2 (zf_X2_visitsIn (upd n5 ((3 : Int32) + v1).toNatClampNeg v7) v2 v3) fun r6 n7 =>
    if v6 < r6 then
      (rec43 v7 r6 (v7 + (1 : Int32)) n7)
    else
      (rec43 v5 v6 (v7 + (1 : Int32)) n7))
def zf_X2_bestKind (m_s : (Nat → Int32)) (m_m : (Nat → Int32)) (m_refused : (Nat → Int32)) (v1 : Int32) (v2 : Int32) (v3 : Int32) : Option (Int32 × (Nat → Int32) × (Nat → Int32)) :=
  bd1 (zf_X2_areThere m_s v2 v1) fun r1 =>
  if r1 = 0 then
    (bd2 (zf_X2_no m_refused ((-1) : Int32)) fun r2 n3 =>
    some (r2, m_m, n3))
  else
    (bd1 (zf_X2_wrongBy v3 (0 : Int32) (30 : Int32)) fun r4 =>
    if r4 = 0 then
      (zl4 (zf_X2_bestKind_b43 v1 v2 v3 m_s m_refused) zb_FU (0 : Int32) ((-1) : Int32) (0 : Int32) m_m)
    else
      (bd2 (zf_X2_no m_refused r4) fun r8 n9 =>
      some (r8, m_m, n9)))
def zf_X2_dryOnes_b4 (m_s : (Nat → Int32)) (rec4 : Int32 → Int32 → Option Int32) (v1 : Int32) (v2 : Int32) : Option Int32 :=
  if (30 : Int32) ≤ v2 then
    (some v1)
  else
    (bd1 (zf_X2_isDry m_s v2) fun r1 =>
    if r1 = 0 then
      (rec4 (v1 ||| (0 : Int32)) (v2 + (1 : Int32)))
    else
      (rec4 (v1 ||| ((1 : Int32) <<< (v2 &&& 31))) (v2 + (1 : Int32))))
def zf_X2_dryOnes (m_s : (Nat → Int32)) : Option Int32 :=
  zl2 (zf_X2_dryOnes_b4 m_s) zb_FU (0 : Int32) (0 : Int32)
def zf_X2_together_b6 (m_s : (Nat → Int32)) (rec6 : Int32 → Int32 → Int32 → Option Int32) (v1 : Int32) (v2 : Int32) (v3 : Int32) : Option Int32 :=
  if (m_s (0 : Int32).toNatClampNeg) ≤ v3 then
    (some v2)
  else
    (bd1 (zf_X2_of v3 (0 : Int32)) fun r1 =>
    if r1 < 0 ∨ 105 ≤ r1.toNatClampNeg then none else
    rec6 (v1 ||| ((1 : Int32) <<< ((m_s r1.toNatClampNeg) &&& 31))) (v2 ||| (v1 &&& ((1 : Int32) <<< ((m_s r1.toNatClampNeg) &&& 31)))) (v3 + (1 : Int32)))
def zf_X2_together (m_s : (Nat → Int32)) : Option Int32 :=
  zl3 (zf_X2_together_b6 m_s) zb_FU (0 : Int32) (0 : Int32) (0 : Int32)
def zf_X2_atEdges_j62 (rec4 : Int32 → Int32 → Option Int32) (v1 : Int32) (v2 : Int32) (v4 : Int32) : Option Int32 :=
  if v4 = 0 then
    (rec4 (v1 + (0 : Int32)) (v2 + (1 : Int32)))
  else
    (rec4 (v1 + (1 : Int32)) (v2 + (1 : Int32)))
def zf_X2_atEdges_b31 (rec4 : Int32 → Int32 → Option Int32) (v1 : Int32) (v2 : Int32) (v3 : Int32) (rec31 : Int32 → Int32 → Option Int32) (v4 : Int32) (v5 : Int32) : Option Int32 :=
  if (4 : Int32) ≤ v5 then
    (zf_X2_atEdges_j62 rec4 v1 v2 v4)
  else
    (bd1 (zf_X2_nodeThere v3 v5) fun r2 =>
    if 0 ≤ r2 then
      (rec31 (v4 ||| (0 : Int32)) (v5 + (1 : Int32)))
    else
      (rec31 (v4 ||| (1 : Int32)) (v5 + (1 : Int32))))
def zf_X2_atEdges_b4 (m_s : (Nat → Int32)) (rec4 : Int32 → Int32 → Option Int32) (v1 : Int32) (v2 : Int32) : Option Int32 :=
  if (m_s (0 : Int32).toNatClampNeg) ≤ v2 then
    (some v1)
  else
    (bd1 (zf_X2_of v2 (0 : Int32)) fun r1 =>
    if r1 < 0 ∨ 105 ≤ r1.toNatClampNeg then none else
    zl2 (zf_X2_atEdges_b31 rec4 v1 v2 (m_s r1.toNatClampNeg)) zb_FU (0 : Int32) (0 : Int32))
def zf_X2_atEdges (m_s : (Nat → Int32)) : Option Int32 :=
  zl2 (zf_X2_atEdges_b4 m_s) zb_FU (0 : Int32) (0 : Int32)
def zf_X2_wettest_b4 (m_s : (Nat → Int32)) (rec4 : Int32 → Int32 → Option Int32) (v1 : Int32) (v2 : Int32) : Option Int32 :=
  if (30 : Int32) ≤ v2 then
    (some v1)
  else
    (if ((63 : Int32) + v2) < 0 ∨ 105 ≤ ((63 : Int32) + v2).toNatClampNeg then none else
    if ((63 : Int32) + v1) < 0 ∨ 105 ≤ ((63 : Int32) + v1).toNatClampNeg then none else
    if (m_s ((63 : Int32) + v2).toNatClampNeg) ≤ (m_s ((63 : Int32) + v1).toNatClampNeg) then
      (rec4 v1 (v2 + (1 : Int32)))
    else
      (rec4 v2 (v2 + (1 : Int32))))
def zf_X2_wettest (m_s : (Nat → Int32)) : Option Int32 :=
  zl2 (zf_X2_wettest_b4 m_s) zb_FU (0 : Int32) (0 : Int32)
def zf_X2_mostHelped_b5 (m_s : (Nat → Int32)) (rec5 : Int32 → Int32 → Option Int32) (v1 : Int32) (v2 : Int32) : Option Int32 :=
  if (m_s (0 : Int32).toNatClampNeg) ≤ v2 then
    (some v1)
  else
    (if v1 < 0 then
      (rec5 v2 (v2 + (1 : Int32)))
    else
      (bd1 (zf_X2_of v2 (2 : Int32)) fun r1 =>
      if r1 < 0 ∨ 105 ≤ r1.toNatClampNeg then none else
      bd1 (zf_X2_of v1 (2 : Int32)) fun r2 =>
      if r2 < 0 ∨ 105 ≤ r2.toNatClampNeg then none else
      if (m_s r1.toNatClampNeg) ≤ (m_s r2.toNatClampNeg) then
        (rec5 v1 (v2 + (1 : Int32)))
      else
        (rec5 v2 (v2 + (1 : Int32)))))
def zf_X2_mostHelped (m_s : (Nat → Int32)) : Option Int32 :=
  zl2 (zf_X2_mostHelped_b5 m_s) zb_FU ((-9) : Int32) (0 : Int32)
def zf_X2_wettestRow_b4 (m_s : (Nat → Int32)) (rec4 : Int32 → Int32 → Option Int32) (v1 : Int32) (v2 : Int32) : Option Int32 :=
  if (5 : Int32) ≤ v2 then
    (some v1)
  else
    (bd1 (zf_X2_sumOf m_s ((63 : Int32) + ((6 : Int32) * v2)) (6 : Int32) (1 : Int32)) fun r1 =>
    bd1 (zf_X2_sumOf m_s ((63 : Int32) + ((6 : Int32) * v1)) (6 : Int32) (1 : Int32)) fun r2 =>
    if r1 ≤ r2 then
      (rec4 v1 (v2 + (1 : Int32)))
    else
      (rec4 v2 (v2 + (1 : Int32))))
def zf_X2_wettestRow (m_s : (Nat → Int32)) : Option Int32 :=
  zl2 (zf_X2_wettestRow_b4 m_s) zb_FU (0 : Int32) (0 : Int32)
def zf_X2_dry (m_s : (Nat → Int32)) (m_refused : (Nat → Int32)) (v1 : Int32) : Option (Int32 × (Nat → Int32)) :=
  if v1 = (0 : Int32) then
    (bd1 (zf_X2_dryOnes m_s) fun r1 =>
    bd1 (zf_X2_bits r1) fun r2 =>
    some (r2, m_refused))
  else if v1 = (1 : Int32) then
    (bd1 (zf_X2_wettest m_s) fun r3 =>
    some (r3, m_refused))
  else if v1 = (2 : Int32) then
    (bd1 (zf_X2_allWet m_s) fun r4 =>
    some (r4, m_refused))
  else if v1 = (3 : Int32) then
    (bd1 (zf_X2_mostHelped m_s) fun r5 =>
    some (r5, m_refused))
  else if v1 = (4 : Int32) then
    (bd1 (zf_X2_together m_s) fun r6 =>
    some (r6, m_refused))
  else if v1 = (5 : Int32) then
    (bd1 (zf_X2_atEdges m_s) fun r7 =>
    some (r7, m_refused))
  else if v1 = (6 : Int32) then
    (bd1 (zf_X2_wettestRow m_s) fun r8 =>
    some (r8, m_refused))
  else 
    (bd2 (zf_X2_no m_refused ((-2) : Int32)) fun r9 n10 =>
    some (r9, n10))
def zf_X2_kinds_b20 (v1 : Int32) (m_s : (Nat → Int32)) (m_refused : (Nat → Int32)) (rec20 : Int32 → Int32 → Option (Int32 × (Nat → Int32))) (v2 : Int32) (v3 : Int32) : Option (Int32 × (Nat → Int32)) :=
  if (30 : Int32) ≤ v3 then
    (some (v2, m_refused))
  else
    (if ((3 : Int32) + v3) < 0 ∨ 105 ≤ ((3 : Int32) + v3).toNatClampNeg then none else
    if (m_s ((3 : Int32) + v3).toNatClampNeg) = v1 then
      (rec20 (v2 + (1 : Int32)) (v3 + (1 : Int32)))
    else
      (rec20 (v2 + (0 : Int32)) (v3 + (1 : Int32))))
def zf_X2_kinds (m_s : (Nat → Int32)) (m_refused : (Nat → Int32)) (v1 : Int32) : Option (Int32 × (Nat → Int32)) :=
  bd1 (zf_X2_isIn v1 (0 : Int32) (5 : Int32)) fun r1 =>
  if r1 = 0 then
    (bd2 (zf_X2_no m_refused ((-2) : Int32)) fun r2 n3 =>
    some (r2, n3))
  else
    (zl2 (zf_X2_kinds_b20 v1 m_s m_refused) zb_FU (0 : Int32) (0 : Int32))
def zf_X2_farOf (v0 : Int32) (v1 : Int32) : Option Int32 :=
  bd1 (zf_X2_apart (v0 / (6 : Int32)) (v1 / (6 : Int32))) fun r1 =>
  bd1 (zf_X2_apart (jr v0 (6 : Int32)) (jr v1 (6 : Int32))) fun r2 =>
  some (r1 + r2)
def zf_X2_near_b18 (v1 : Int32) (m_s : (Nat → Int32)) (m_refused : (Nat → Int32)) (rec18 : Int32 → Int32 → Option (Int32 × (Nat → Int32))) (v2 : Int32) (v3 : Int32) : Option (Int32 × (Nat → Int32)) :=
  if (m_s (0 : Int32).toNatClampNeg) ≤ v3 then
    (some (v2, m_refused))
  else
    (if v2 < 0 then
      (rec18 v3 (v3 + (1 : Int32)))
    else
      (bd1 (zf_X2_of v3 (0 : Int32)) fun r2 =>
      if r2 < 0 ∨ 105 ≤ r2.toNatClampNeg then none else
      bd1 (zf_X2_farOf (m_s r2.toNatClampNeg) v1) fun r3 =>
      bd1 (zf_X2_of v2 (0 : Int32)) fun r4 =>
      if r4 < 0 ∨ 105 ≤ r4.toNatClampNeg then none else
      bd1 (zf_X2_farOf (m_s r4.toNatClampNeg) v1) fun r5 =>
      if r5 ≤ r3 then
        (rec18 v2 (v3 + (1 : Int32)))
      else
        (rec18 v3 (v3 + (1 : Int32)))))
def zf_X2_near (m_s : (Nat → Int32)) (m_refused : (Nat → Int32)) (v1 : Int32) : Option (Int32 × (Nat → Int32)) :=
  bd1 (zf_X2_isNode v1) fun r1 =>
  if r1 = 0 then
    (bd2 (zf_X2_no m_refused ((-1) : Int32)) fun r6 n7 =>
    some (r6, n7))
  else
    (zl2 (zf_X2_near_b18 v1 m_s m_refused) zb_FU ((-9) : Int32) (0 : Int32))
def zf_X2_hasBy_j115 (v7 : Int32) (v8 : Int32) (m_m : (Nat → Int32)) : Option (Int32 × (Nat → Int32)) :=
  bd1 (zf_X2_bits v7) fun r2 =>
  if v8 = 0 then
    (some ((r2 + (0 : Int32)), m_m))
  else
    (some ((r2 + (2 : Int32)), m_m))
def zf_X2_hasBy_j58 (rec39 : Int32 → Int32 → Int32 → (Nat → Int32) → Option (Int32 × (Nat → Int32))) (v1 : Int32) (v2 : Int32) (v4 : Int32) (v7 : Int32) (v8 : Int32) (v9 : Int32) (m_m : (Nat → Int32)) : Option (Int32 × (Nat → Int32)) :=
  bd1 (zf_X2_of v1 (0 : Int32)) fun r3 =>
  if r3 < 0 ∨ 105 ≤ r3.toNatClampNeg then none else
  bd1 (zf_X2_of v2 (0 : Int32)) fun r4 =>
  if r4 < 0 ∨ 105 ≤ r4.toNatClampNeg then none else
  bd1 (zf_X2_of v4 (0 : Int32)) fun r5 =>
  if r5 < 0 ∨ 105 ≤ r5.toNatClampNeg then none else
  if (m_m r4.toNatClampNeg) = (m_m r5.toNatClampNeg) then
    (rec39 (v7 ||| ((1 : Int32) <<< ((m_m r3.toNatClampNeg) &&& 31))) (v8 ||| (1 : Int32)) (v9 + (1 : Int32)) m_m)
  else
    (rec39 (v7 ||| ((1 : Int32) <<< ((m_m r3.toNatClampNeg) &&& 31))) (v8 ||| (0 : Int32)) (v9 + (1 : Int32)) m_m)
def zf_X2_hasBy_b39 (v1 : Int32) (v2 : Int32) (v4 : Int32) (v6 : Int32) (rec39 : Int32 → Int32 → Int32 → (Nat → Int32) → Option (Int32 × (Nat → Int32))) (v7 : Int32) (v8 : Int32) (v9 : Int32) (m_m : (Nat → Int32)) : Option (Int32 × (Nat → Int32)) :=
  if v6 < v9 then
    (zf_X2_hasBy_j115 v7 v8 m_m)
  else
    (if v9 ≤ 0 then
      (zf_X2_hasBy_j58 rec39 v1 v2 v4 v7 v8 v9 m_m)
    else
      (bd1 (zf_X2_step m_m) fun n6 =>
      zf_X2_hasBy_j58 rec39 v1 v2 v4 v7 v8 v9 n6))
def zf_X2_hasBy (m_s : (Nat → Int32)) (m_m : (Nat → Int32)) (v1 : Int32) (v2 : Int32) (v3 : Int32) (v4 : Int32) (v5 : Int32) (v6 : Int32) : Option (Int32 × (Nat → Int32)) :=
  bd1 (zf_X2_copies m_s m_m) fun n1 =>
  zl4 (zf_X2_hasBy_b39 v1 v2 v4 v6) zb_FU (0 : Int32) (0 : Int32) (0 : Int32) (upd n1 (2 : Int32).toNatClampNeg ((((1 : Int32) - v3) <<< (v2 &&& 31)) ||| (((1 : Int32) - v5) <<< (v4 &&& 31))))
def zf_X2_two_b37 (v1 : Int32) (v2 : Int32) (v3 : Int32) (m_s : (Nat → Int32)) (m_refused : (Nat → Int32)) (rec37 : Int32 → (Nat → Int32) → Option (Int32 × (Nat → Int32) × (Nat → Int32))) (v5 : Int32) (m_m : (Nat → Int32)) : Option (Int32 × (Nat → Int32) × (Nat → Int32)) :=
  if (4 : Int32) ≤ v5 then
    (some (((-9) : Int32), m_m, m_refused))
  else
    (bd2 (zf_X2_hasBy m_s m_m v1 v1 ((1 : Int32) - (v5 / (2 : Int32))) v2 (jr v5 (2 : Int32)) v3) fun r5 n6 =>
    bd2 (zf_X2_hasBy m_s n6 v1 v1 (v5 / (2 : Int32)) v2 (jr v5 (2 : Int32)) v3) fun r7 n8 =>
    if r7 < r5 then
      (rec37 (v5 + (1 : Int32)) n8)
    else
      (bd2 (zf_X2_hasBy m_s n8 v2 v1 (v5 / (2 : Int32)) v2 ((1 : Int32) - (jr v5 (2 : Int32))) v3) fun r9 n10 =>
      bd2 (zf_X2_hasBy m_s n10 v2 v1 (v5 / (2 : Int32)) v2 (jr v5 (2 : Int32)) v3) fun r11 n12 =>
      if r11 < r9 then
        (rec37 (v5 + (1 : Int32)) n12)
      else
        (some ((((10 : Int32) * (v5 / (2 : Int32))) + (jr v5 (2 : Int32))), n12, m_refused))))
def zf_X2_two (m_s : (Nat → Int32)) (m_m : (Nat → Int32)) (m_refused : (Nat → Int32)) (v1 : Int32) (v2 : Int32) (v3 : Int32) : Option (Int32 × (Nat → Int32) × (Nat → Int32)) :=
  bd1 (zf_X2_areTwo m_s v1 v2) fun r1 =>
  if r1 = 0 then
    (bd2 (zf_X2_no m_refused ((-1) : Int32)) fun r2 n3 =>
    some (r2, m_m, n3))
  else
    (bd1 (zf_X2_wrongBy v3 (0 : Int32) (30 : Int32)) fun r4 =>
    if r4 = 0 then
      (zl2 (zf_X2_two_b37 v1 v2 v3 m_s m_refused) zb_FU (0 : Int32) m_m)
    else
      (bd2 (zf_X2_no m_refused r4) fun r13 n14 =>
      some (r13, m_m, n14)))
def zf_X2_gcd_b6  (rec6 : Int64 → Int64 → Option Int64) (v4 : Int64) (v6 : Int64) : Option Int64 :=
  if (lg_cmp v6 (0 : Int64)) = 0 then
    (some v4)
  else
    (if v6 = 0 then none else
    rec6 v6 (jrL v4 v6))
def zf_X2_gcd (v0 : Int64) (v2 : Int64) : Option Int64 :=
  zl2 zf_X2_gcd_b6 zb_FU v0 v2
def zf_X2_partOf (v0 : Int64) (v2 : Int64) (v4 : Int32) : Option Int64 :=
  if (lg_cmp v0 (0 : Int64)) = 0 then
    (some v4.toInt64)
  else
    (if v4 = 0 then
      (bd1 (zf_X2_gcd v0 v2) fun r2 =>
      if r2 = 0 then none else
      some (v0 / r2))
    else
      (bd1 (zf_X2_gcd v0 v2) fun r1 =>
      if r1 = 0 then none else
      some (v2 / r1)))
def zf_X2_steam_j190 (rec101 : Int64 → Int32 → (Nat → Int32) → Option (Int64 × (Nat → Int32) × (Nat → Int32))) (v1 : Int32) (v2 : Int32) (v6 : Int64) (v10 : Int32) (v11 : Int64) (m_m : (Nat → Int32)) : Option (Int64 × (Nat → Int32) × (Nat → Int32)) :=
  bd1 (zf_X2_of v1 (0 : Int32)) fun r9 =>
  if r9 < 0 ∨ 105 ≤ r9.toNatClampNeg then none else
  if (m_m r9.toNatClampNeg) = v2 then
    (rec101 (v6 + v11) (v10 + (1 : Int32)) m_m)
  else
    (rec101 (v6 + (0 : Int64)) (v10 + (1 : Int32)) m_m)
def zf_X2_steam_j153 (rec126 : Int64 → Int32 → (Nat → Int32) → Option (Int64 × (Nat → Int32) × (Nat → Int32))) (v10 : Int32) (v13 : Int32) (k0 : Int64) (k1 : Int64) (m_m : (Nat → Int32)) : Option (Int64 × (Nat → Int32) × (Nat → Int32)) :=
  bd1 (zf_X2_has v10 v13) fun r11 =>
  if r11 = 0 then
    (bd1 (zf_X2_step (upd m_m (2 : Int32).toNatClampNeg (0 : Int32))) fun n12 =>
    rec126 (k0 * k1) (v13 + (1 : Int32)) n12)
  else
    (bd1 (zf_X2_step (upd m_m (2 : Int32).toNatClampNeg ((-1) : Int32))) fun n13 =>
    rec126 (k0 * k1) (v13 + (1 : Int32)) n13)
def zf_X2_steam_b126 (rec101 : Int64 → Int32 → (Nat → Int32) → Option (Int64 × (Nat → Int32) × (Nat → Int32))) (v1 : Int32) (v2 : Int32) (v3 : Int32) (v4 : Int32) (v6 : Int64) (v10 : Int32) (rec126 : Int64 → Int32 → (Nat → Int32) → Option (Int64 × (Nat → Int32) × (Nat → Int32))) (v11 : Int64) (v13 : Int32) (m_m : (Nat → Int32)) : Option (Int64 × (Nat → Int32) × (Nat → Int32)) :=
  if v3 ≤ v13 then
    (zf_X2_steam_j190 rec101 v1 v2 v6 v10 v11 m_m)
  else
    (bd1 (zf_X2_has v10 v13) fun r10 =>
    if r10 = 0 then
      (zf_X2_steam_j153 rec126 v10 v13 v11 (v4 - (1 : Int32)).toInt64 m_m)
    else
      (zf_X2_steam_j153 rec126 v10 v13 v11 (1 : Int64) m_m))
def zf_X2_steam_b101 (v1 : Int32) (v2 : Int32) (v3 : Int32) (v4 : Int32) (v5 : Int32) (v8 : Int64) (m_s : (Nat → Int32)) (m_refused : (Nat → Int32)) (rec101 : Int64 → Int32 → (Nat → Int32) → Option (Int64 × (Nat → Int32) × (Nat → Int32))) (v6 : Int64) (v10 : Int32) (m_m : (Nat → Int32)) : Option (Int64 × (Nat → Int32) × (Nat → Int32)) :=
  if ((1 : Int32) <<< (v3 &&& 31)) ≤ v10 then
    (bd1 (zf_X2_partOf v6 v8 v5) fun r7 =>
    some (r7, m_m, m_refused))
  else
    (bd1 (zf_X2_copies m_s m_m) fun n8 =>
    zl3 (zf_X2_steam_b126 rec101 v1 v2 v3 v4 v6 v10) zb_FU (1 : Int64) (0 : Int32) n8)
def zf_X2_steam_b78 (v1 : Int32) (v2 : Int32) (v3 : Int32) (v4 : Int32) (v5 : Int32) (v6 : Int64) (m_s : (Nat → Int32)) (m_m : (Nat → Int32)) (m_refused : (Nat → Int32)) (rec78 : Int64 → Int32 → Option (Int64 × (Nat → Int32) × (Nat → Int32))) (v8 : Int64) (v10 : Int32) : Option (Int64 × (Nat → Int32) × (Nat → Int32)) :=
  if v3 ≤ v10 then
    (zl3 (zf_X2_steam_b101 v1 v2 v3 v4 v5 v8 m_s m_refused) zb_FU v6 (0 : Int32) m_m)
  else
    (rec78 (v8 * v4.toInt64) (v10 + (1 : Int32)))
def zf_X2_steam (m_s : (Nat → Int32)) (m_m : (Nat → Int32)) (m_refused : (Nat → Int32)) (v1 : Int32) (v2 : Int32) (v3 : Int32) (v4 : Int32) (v5 : Int32) : Option (Int64 × (Nat → Int32) × (Nat → Int32)) :=
  bd1 (zf_X2_areThere m_s v1 v2) fun r1 =>
  if r1 = 0 then
    (bd2 (zf_X2_noWide m_refused ((-1) : Int32)) fun r20 n21 =>
    some (r20, m_m, n21))
  else
    (if v3 < 0 then
      (bd2 (zf_X2_noWide m_refused ((-4) : Int32)) fun r2 n3 =>
      some (r2, m_m, n3))
    else
      (if (2 : Int32) ≤ v4 then
        (if (7 : Int32) < v3 then
          (bd2 (zf_X2_noWide m_refused ((-6) : Int32)) fun r4 n5 =>
          some (r4, m_m, n5))
        else
          (if v4 ≤ (20 : Int32) then
            (bd1 (zf_X2_isIn v5 (0 : Int32) (1 : Int32)) fun r6 =>
            if r6 = 0 then
              (bd2 (zf_X2_noWide m_refused ((-2) : Int32)) fun r14 n15 =>
              some (r14, m_m, n15))
            else
              (zl2 (zf_X2_steam_b78 v1 v2 v3 v4 v5 (0 : Int64) m_s m_m m_refused) zb_FU (1 : Int64) (0 : Int32)))
          else
            (bd2 (zf_X2_noWide m_refused ((-6) : Int32)) fun r16 n17 =>
            some (r16, m_m, n17))))
      else
        (bd2 (zf_X2_noWide m_refused ((-4) : Int32)) fun r18 n19 =>
        some (r18, m_m, n19))))
def zf_X2_mean (m_s : (Nat → Int32)) (m_refused : (Nat → Int32)) (v1 : Int32) : Option (Int64 × (Nat → Int32)) :=
  bd1 (zf_X2_isIn v1 (0 : Int32) (1 : Int32)) fun r1 =>
  if r1 = 0 then
    (bd2 (zf_X2_noWide m_refused ((-2) : Int32)) fun r2 n3 =>
    some (r2, n3))
  else
    (bd1 (zf_X2_allWet m_s) fun r4 =>
    bd1 (zf_X2_partOf r4.toInt64 (30 : Int64) v1) fun r5 =>
    some (r5, m_refused))
def zf_X2_whatIs_j141 (rec37 : Int32 → Int32 → (Nat → Int32) → Option (Int32 × (Nat → Int32) × (Nat → Int32))) (v4 : Int32) (v5 : Int32) (v6 : Int32) (m_m : (Nat → Int32)) : Option (Int32 × (Nat → Int32) × (Nat → Int32)) :=
  if v6 = 0 then
    (rec37 (v4 ||| (0 : Int32)) (v5 + (1 : Int32)) m_m)
  else
    (rec37 (v4 ||| ((1 : Int32) <<< (v5 &&& 31))) (v5 + (1 : Int32)) m_m)
def zf_X2_whatIs_b89 (rec37 : Int32 → Int32 → (Nat → Int32) → Option (Int32 × (Nat → Int32) × (Nat → Int32))) (v2 : Int32) (v4 : Int32) (v5 : Int32) (m_row : (Nat → Int32)) (m_rowMany : Int32) (rec89 : Int32 → Int32 → (Nat → Int32) → Option (Int32 × (Nat → Int32) × (Nat → Int32))) (v6 : Int32) (v7 : Int32) (m_m : (Nat → Int32)) : Option (Int32 × (Nat → Int32) × (Nat → Int32)) :=
  if m_rowMany ≤ v7 then
    (zf_X2_whatIs_j141 rec37 v4 v5 v6 m_m)
  else
    (bd1 (zf_X2_of v2 (0 : Int32)) fun r4 =>
    if r4 < 0 ∨ 105 ≤ r4.toNatClampNeg then none else
    if v7 < 0 ∨ 16 ≤ v7.toNatClampNeg then none else
    if (m_m r4.toNatClampNeg) = (m_row v7.toNatClampNeg) then
      (bd1 (zf_X2_step m_m) fun n6 =>
      rec89 (v6 &&& (1 : Int32)) (v7 + (1 : Int32)) n6)
    else
      (bd1 (zf_X2_step m_m) fun n5 =>
      rec89 (v6 &&& (0 : Int32)) (v7 + (1 : Int32)) n5))
def zf_X2_whatIs_j50 (rec37 : Int32 → Int32 → (Nat → Int32) → Option (Int32 × (Nat → Int32) × (Nat → Int32))) (v1 : Int32) (v2 : Int32) (v3 : Int32) (v4 : Int32) (v5 : Int32) (k0 : Int32) (k1 : Int32) (m_s : (Nat → Int32)) (m_m : (Nat → Int32)) (m_row : (Nat → Int32)) (m_refused : (Nat → Int32)) (m_rowMany : Int32) : Option (Int32 × (Nat → Int32) × (Nat → Int32)) :=
  if k1 ≤ k0 then
    (some (v4, m_m, m_refused))
  else
    (bd1 (zf_X2_copies m_s m_m) fun n3 =>
    if v3 = 0 then
      (if ((3 : Int32) + v1) < 0 ∨ 105 ≤ ((3 : Int32) + v1).toNatClampNeg then none else
      zl3 (zf_X2_whatIs_b89 rec37 v2 v4 v5 m_row m_rowMany) zb_FU (1 : Int32) (0 : Int32) (upd n3 ((3 : Int32) + v1).toNatClampNeg v5))
    else
      (if ((33 : Int32) + v1) < 0 ∨ 105 ≤ ((33 : Int32) + v1).toNatClampNeg then none else
      zl3 (zf_X2_whatIs_b89 rec37 v2 v4 v5 m_row m_rowMany) zb_FU (1 : Int32) (0 : Int32) (upd n3 ((33 : Int32) + v1).toNatClampNeg v5)))
def zf_X2_whatIs_b37 (v1 : Int32) (v2 : Int32) (v3 : Int32) (m_s : (Nat → Int32)) (m_row : (Nat → Int32)) (m_refused : (Nat → Int32)) (m_rowMany : Int32) (rec37 : Int32 → Int32 → (Nat → Int32) → Option (Int32 × (Nat → Int32) × (Nat → Int32))) (v4 : Int32) (v5 : Int32) (m_m : (Nat → Int32)) : Option (Int32 × (Nat → Int32) × (Nat → Int32)) :=
  if v3 = 0 then
    (zf_X2_whatIs_j50 rec37 v1 v2 v3 v4 v5 v5 (6 : Int32) m_s m_m m_row m_refused m_rowMany)
  else
    (zf_X2_whatIs_j50 rec37 v1 v2 v3 v4 v5 v5 (10 : Int32) m_s m_m m_row m_refused m_rowMany)
def zf_X2_whatIs (m_s : (Nat → Int32)) (m_m : (Nat → Int32)) (m_row : (Nat → Int32)) (m_refused : (Nat → Int32)) (m_rowMany : Int32) (v1 : Int32) (v2 : Int32) (v3 : Int32) : Option (Int32 × (Nat → Int32) × (Nat → Int32)) :=
  bd1 (zf_X2_areThere m_s v2 v1) fun r1 =>
  if r1 = 0 then
    (bd2 (zf_X2_no m_refused ((-1) : Int32)) fun r9 n10 =>
    some (r9, m_m, n10))
  else
    (bd1 (zf_X2_isIn v3 (0 : Int32) (1 : Int32)) fun r2 =>
    if r2 = 0 then
      (bd2 (zf_X2_no m_refused ((-2) : Int32)) fun r7 n8 =>
      some (r7, m_m, n8))
    else
      (zl3 (zf_X2_whatIs_b37 v1 v2 v3 m_s m_row m_refused m_rowMany) zb_FU (0 : Int32) (0 : Int32) m_m))
def zf_X2_row_j24 (v1 : Int32) (v2 : Int32) (m_row : (Nat → Int32)) (m_refused : (Nat → Int32)) (m_rowMany : Int32) : Option (Int32 × (Nat → Int32) × (Nat → Int32) × Int32) :=
  if v2 = 0 then
    (if m_rowMany < 0 ∨ 16 ≤ m_rowMany.toNatClampNeg then none else
    some ((m_rowMany + (1 : Int32)), (upd m_row m_rowMany.toNatClampNeg v1), m_refused, (m_rowMany + (1 : Int32))))
  else
    (bd2 (zf_X2_no m_refused v2) fun r2 n3 =>
    some (r2, m_row, n3, m_rowMany))
def zf_X2_row (m_row : (Nat → Int32)) (m_refused : (Nat → Int32)) (m_rowMany : Int32) (v1 : Int32) : Option (Int32 × (Nat → Int32) × (Nat → Int32) × Int32) :=
  bd1 (zf_X2_wrongBy v1 (0 : Int32) (99 : Int32)) fun r1 =>
  if r1 = 0 then
    (if m_rowMany = (16 : Int32) then
      (zf_X2_row_j24 v1 ((-6) : Int32) m_row m_refused m_rowMany)
    else
      (zf_X2_row_j24 v1 r1 m_row m_refused m_rowMany))
  else
    (zf_X2_row_j24 v1 r1 m_row m_refused m_rowMany)
def zf_X2_judge_b12 (v1 : Int32) (m_s : (Nat → Int32)) (m_row : (Nat → Int32)) (m_rowMany : Int32) (rec12 : Int32 → Option (Int32 × Int32)) (v2 : Int32) : Option (Int32 × Int32) :=
  if v1 ≤ v2 then
    (some (((-9) : Int32), m_rowMany))
  else
    (if ((63 : Int32) + v2) < 0 ∨ 105 ≤ ((63 : Int32) + v2).toNatClampNeg then none else
    if v2 < 0 ∨ 16 ≤ v2.toNatClampNeg then none else
    if (m_s ((63 : Int32) + v2).toNatClampNeg) = (m_row v2.toNatClampNeg) then
      (rec12 (v2 + (1 : Int32)))
    else
      (some (v2, m_rowMany)))
def zf_X2_judge (m_s : (Nat → Int32)) (m_row : (Nat → Int32)) (m_rowMany : Int32) : Option (Int32 × Int32) :=
  zl1 (zf_X2_judge_b12 m_rowMany m_s m_row (0 : Int32)) zb_FU (0 : Int32)
def zf_X2_clear (m_rowMany : Int32) : Option (Int32 × Int32) :=
  some (m_rowMany, (0 : Int32))
def zf_X2_drawn (m_seed : Int32) (v1 : Int32) : Option (Int32 × Int32) :=
  if v1 = 0 then none else
  some ((jr ((((m_seed * (1664525 : Int32)) + (1013904223 : Int32)) &&& (2147483647 : Int32)) / (256 : Int32)) v1), ((m_seed * (1664525 : Int32)) + (1013904223 : Int32)))
def zf_X2_lots_b162 (rec52 : Int32 → Int32 → (Nat → Int32) → Int32 → Option (Int32 × (Nat → Int32) × (Nat → Int32) × Int32)) (v3 : Int32) (v5 : Int32) (m_s : (Nat → Int32)) (m_m : (Nat → Int32)) (m_seed : Int32) (rec162 : Int32 → Int32 → Option (Int32 × (Nat → Int32) × (Nat → Int32) × Int32)) (v4 : Int32) (v6 : Int32) : Option (Int32 × (Nat → Int32) × (Nat → Int32) × Int32) :=
  if (m_s (0 : Int32).toNatClampNeg) ≤ v6 then
    (rec52 v4 (v5 + (1 : Int32)) m_m m_seed)
  else
    (if v3 = (1 : Int32) then
      (bd1 (zf_X2_of v6 (0 : Int32)) fun r4 =>
      if r4 < 0 ∨ 105 ≤ r4.toNatClampNeg then none else
      bd1 (zf_X2_isDry m_m (m_m r4.toNatClampNeg)) fun r5 =>
      if r5 = 0 then
        (rec162 (v4 + (0 : Int32)) (v6 + (1 : Int32)))
      else
        (rec162 (v4 + (1 : Int32)) (v6 + (1 : Int32))))
    else
      (rec52 v4 (v5 + (1 : Int32)) m_m m_seed))
def zf_X2_lots_j122 (rec52 : Int32 → Int32 → (Nat → Int32) → Int32 → Option (Int32 × (Nat → Int32) × (Nat → Int32) × Int32)) (v3 : Int32) (v4 : Int32) (v5 : Int32) (m_s : (Nat → Int32)) (m_m : (Nat → Int32)) (m_seed : Int32) : Option (Int32 × (Nat → Int32) × (Nat → Int32) × Int32) :=
  bd1 (zf_X2_stepsOn m_m (12 : Int32)) fun n3 =>
  if v3 = 0 then
    (bd1 (zf_X2_allHelped n3) fun r6 =>
    bd1 (zf_X2_allHelped m_s) fun r7 =>
    zl2 (zf_X2_lots_b162 rec52 v3 v5 m_s n3 m_seed) zb_FU (v4 + (r6 - r7)) (0 : Int32))
  else
    (zl2 (zf_X2_lots_b162 rec52 v3 v5 m_s n3 m_seed) zb_FU (v4 + (0 : Int32)) (0 : Int32))
def zf_X2_lots_b72 (rec52 : Int32 → Int32 → (Nat → Int32) → Int32 → Option (Int32 × (Nat → Int32) × (Nat → Int32) × Int32)) (v3 : Int32) (v4 : Int32) (v5 : Int32) (m_s : (Nat → Int32)) (rec72 : Int32 → (Nat → Int32) → Int32 → Option (Int32 × (Nat → Int32) × (Nat → Int32) × Int32)) (v6 : Int32) (m_m : (Nat → Int32)) (m_seed : Int32) : Option (Int32 × (Nat → Int32) × (Nat → Int32) × Int32) :=
  if (m_s (0 : Int32).toNatClampNeg) ≤ v6 then
    (zf_X2_lots_j122 rec52 v3 v4 v5 m_s m_m m_seed)
  else
    (bd1 (zf_X2_of v6 (0 : Int32)) fun r8 =>
    bd2 (zf_X2_drawn m_seed (30 : Int32)) fun r9 n10 =>
    if r8 < 0 ∨ 105 ≤ r8.toNatClampNeg then none else
    bd1 (zf_X2_of v6 (1 : Int32)) fun r11 =>
    bd2 (zf_X2_drawn n10 (4 : Int32)) fun r12 n13 =>
    if r11 < 0 ∨ 105 ≤ r11.toNatClampNeg then none else
    rec72 (v6 + (1 : Int32)) (upd (upd m_m r8.toNatClampNeg r9) r11.toNatClampNeg r12) n13)
def zf_X2_lots_b52 (v1 : Int32) (v3 : Int32) (m_s : (Nat → Int32)) (m_refused : (Nat → Int32)) (rec52 : Int32 → Int32 → (Nat → Int32) → Int32 → Option (Int32 × (Nat → Int32) × (Nat → Int32) × Int32)) (v4 : Int32) (v5 : Int32) (m_m : (Nat → Int32)) (m_seed : Int32) : Option (Int32 × (Nat → Int32) × (Nat → Int32) × Int32) :=
  if v1 ≤ v5 then
    (some (v4, m_m, m_refused, m_seed))
  else
    (bd1 (zf_X2_copies m_s m_m) fun n2 =>
    zl3 (zf_X2_lots_b72 rec52 v3 v4 v5 m_s) zb_FU (0 : Int32) n2 m_seed)
def zf_X2_lots (m_s : (Nat → Int32)) (m_m : (Nat → Int32)) (m_refused : (Nat → Int32)) (m_seed : Int32) (v1 : Int32) (v2 : Int32) (v3 : Int32) : Option (Int32 × (Nat → Int32) × (Nat → Int32) × Int32) :=
  if (1 : Int32) ≤ v1 then
    (if v1 ≤ (20 : Int32) then
      (bd1 (zf_X2_isIn v3 (0 : Int32) (1 : Int32)) fun r1 =>
      if r1 = 0 then
        (bd2 (zf_X2_no m_refused ((-2) : Int32)) fun r14 n15 =>
        some (r14, m_m, n15, m_seed))
      else
        (zl4 (zf_X2_lots_b52 v1 v3 m_s m_refused) zb_FU (0 : Int32) (0 : Int32) m_m v2))
    else
      (bd2 (zf_X2_no m_refused ((-6) : Int32)) fun r16 n17 =>
      some (r16, m_m, n17, m_seed)))
  else
    (bd2 (zf_X2_no m_refused ((-4) : Int32)) fun r18 n19 =>
    some (r18, m_m, n19, m_seed))
def zf_X2_image (m_s : (Nat → Int32)) (m_image : (Nat → Int32)) (m_hasImage : Int32) : Option (Int32 × (Nat → Int32) × Int32) :=
  bd1 (zf_X2_copies m_s m_image) fun n1 =>
  some ((m_s (1 : Int32).toNatClampNeg), n1, (1 : Int32))
def zf_X2_on (m_s : (Nat → Int32)) (m_image : (Nat → Int32)) (m_hasImage : Int32) (m_refused : (Nat → Int32)) : Option (Int32 × (Nat → Int32) × (Nat → Int32)) :=
  if m_hasImage = 0 then
    (bd2 (zf_X2_no m_refused ((-3) : Int32)) fun r2 n3 =>
    some (r2, m_s, n3))
  else
    (bd1 (zf_X2_copies m_image m_s) fun n1 =>
    some ((n1 (1 : Int32).toNatClampNeg), n1, m_refused))
def zf_X2_count (m_s : (Nat → Int32)) (m_refused : (Nat → Int32)) (m_letterMany : Int32) (m_rowMany : Int32) (v1 : Int32) : Option Int32 :=
  bd1 (zf_X2_isIn v1 (11 : Int32) (16 : Int32)) fun r1 =>
  if r1 = 0 then
    (if v1 = (0 : Int32) then
      (if v1 < 0 ∨ 105 ≤ v1.toNatClampNeg then none else
      some (m_s v1.toNatClampNeg))
    else if v1 = (1 : Int32) then
      (if v1 < 0 ∨ 105 ≤ v1.toNatClampNeg then none else
      some (m_s v1.toNatClampNeg))
    else if v1 = (2 : Int32) then
      (bd1 (zf_X2_allWet m_s) fun r2 =>
      some r2)
    else if v1 = (3 : Int32) then
      (bd1 (zf_X2_allHelped m_s) fun r3 =>
      some r3)
    else if v1 = (4 : Int32) then
      (bd1 (zf_X2_dryOnes m_s) fun r4 =>
      some r4)
    else if v1 = (5 : Int32) then
      (bd1 (zf_X2_sumOf m_s (33 : Int32) (30 : Int32) (1 : Int32)) fun r5 =>
      some r5)
    else if v1 = (6 : Int32) then
      (some m_rowMany)
    else if v1 = (7 : Int32) then
      (some m_letterMany)
    else 
      (some ((-9) : Int32)))
  else
    (if (v1 - (10 : Int32)) < 0 ∨ 7 ≤ (v1 - (10 : Int32)).toNatClampNeg then none else
    some (m_refused (v1 - (10 : Int32)).toNatClampNeg))
