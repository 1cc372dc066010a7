def f_X7_isIn (x0 : Int32) (x1 : Int32) (x2 : Int32) : Bool :=
  if x0 < x1 then (
    false
  ) else (
    if x2 < x0 then (
      false
    ) else (
      true
    )
  )
def f_X7_has (x0 : Int32) (x1 : Int32) : Bool :=
  if ((x0 >>> (x1 &&& 31)) &&& 1) = 1 then (
    true
  ) else (
    false
  )
def f_X7_ones_4 : Nat → Int32 → Int32 → Int32 → Option (Int32)
  | 0, _, _, _ => none
  | k + 1, x0, x1, x2 =>
    if (16 : Int32) ≤ x2 then (
      some x1
    ) else (
      zlt (x1 + ((x0 >>> (x2 &&& 31)) &&& 1) : Int32) fun y2 =>
      f_X7_ones_4 k x0 y2 (x2 + 1)
    )
def f_X7_ones (x0 : Int32) : Option Int32 :=
  Option.bind (f_X7_ones_4 zFu x0 0 0) fun e1 =>
  some e1
def f_X7_records_10 : Nat → zr → Int32 → Option (zr)
  | 0, _, _ => none
  | k + 1, s, x1 =>
    if (264 : Int32) ≤ x1 then (
      some s
    ) else (
      if zin (x1 + 88) 352 = true then
      if zin x1 352 = true then
      zlt (zm s 2 x1.toNatClampNeg (s 2 ((x1 + 88).toNatClampNeg))) fun s4 =>
      f_X7_records_10 k s4 (x1 + 1)
      else none
      else none
    )
def f_X7_records_50 : Nat → zr → Int32 → Option (zr)
  | 0, _, _ => none
  | k + 1, s, x1 =>
    if (88 : Int32) ≤ x1 then (
      some s
    ) else (
      if zin x1 88 = true then
      if zin (((s 0 3) * 88) + x1) 352 = true then
      zlt (zm s 2 ((((s 0 3) * 88) + x1).toNatClampNeg) (s 1 x1.toNatClampNeg)) fun s4 =>
      f_X7_records_50 k s4 (x1 + 1)
      else none
      else none
    )
def f_X7_records (s : zr) : Option zr :=
  if (s 0 3) = 4 then (
    Option.bind (f_X7_records_10 zFu s 0) fun e2 =>
    zlt (zm e2 0 3 ((e2 0 3) - 1)) fun s3 =>
    Option.bind (f_X7_records_50 zFu s3 0) fun e5 =>
    zlt (zm e5 0 3 ((e5 0 3) + 1)) fun s6 =>
    some s6
  ) else (
    Option.bind (f_X7_records_50 zFu s 0) fun e8 =>
    zlt (zm e8 0 3 ((e8 0 3) + 1)) fun s9 =>
    some s9
  )
def f_X7_undo_22 : Nat → zr → Int32 → Option (zr)
  | 0, _, _ => none
  | k + 1, s, x1 =>
    if (88 : Int32) ≤ x1 then (
      some s
    ) else (
      if zin (((s 0 3) * 88) + x1) 352 = true then
      if zin x1 88 = true then
      zlt (zm s 1 x1.toNatClampNeg (s 2 ((((s 0 3) * 88) + x1).toNatClampNeg))) fun s4 =>
      f_X7_undo_22 k s4 (x1 + 1)
      else none
      else none
    )
def f_X7_undo (s : zr) : Option (Int32 × zr) :=
  if (s 0 3) = 0 then (
    some ((-1000002), s)
  ) else (
    zlt (zm s 0 3 ((s 0 3) - 1)) fun s2 =>
    Option.bind (f_X7_undo_22 zFu s2 0) fun e4 =>
    some (e4 0 3, e4)
  )
def f_X7_netOf_2 : Nat → zr → Int32 → Int32 → Option ((Unit) ⊕ (Int32))
  | 0, _, _, _ => none
  | k + 1, s, x1, x2 =>
    if (s 1 0) ≤ x2 then (
      some (Sum.inl ())
    ) else (
      if zin ((9 : Int32) + x2) 88 = true then
      if f_X7_has (s 1 (((9 : Int32) + x2).toNatClampNeg)) x1 = true then (
        some (Sum.inr x2)
      ) else (
        f_X7_netOf_2 k s x1 (x2 + 1)
      )
      else none
    )
def f_X7_netOf (s : zr) (x1 : Int32) : Option Int32 :=
  Option.bind (f_X7_netOf_2 zFu s x1 0) fun e1 => match e1 with
  | Sum.inr r2 => some r2
  | Sum.inl e1i =>
  some (-1)
def f_X7_roleOf (s : zr) (x1 : Int32) (x2 : Int32) : Option Int32 :=
  if zin ((17 : Int32) + x1) 88 = true then
  if (s 1 (((17 : Int32) + x1).toNatClampNeg)) = x2 then (
    some 0
  ) else (
    if zin ((22 : Int32) + x1) 88 = true then
    if (s 1 (((22 : Int32) + x1).toNatClampNeg)) = x2 then (
      some 1
    ) else (
      if zin ((27 : Int32) + x1) 88 = true then
      if f_X7_has (s 1 (((27 : Int32) + x1).toNatClampNeg)) x2 = true then (
        some 2
      ) else (
        some (-1)
      )
      else none
    )
    else none
  )
  else none
def f_X7_chipOf_2 : Nat → zr → Int32 → Int32 → Option ((Unit) ⊕ (Int32))
  | 0, _, _, _ => none
  | k + 1, s, x1, x2 =>
    if (s 1 1) ≤ x2 then (
      some (Sum.inl ())
    ) else (
      Option.bind (f_X7_roleOf s x2 x1) fun v2 =>
      if v2 = (-1) then (
        f_X7_chipOf_2 k s x1 (x2 + 1)
      ) else (
        some (Sum.inr x2)
      )
    )
def f_X7_chipOf (s : zr) (x1 : Int32) : Option Int32 :=
  Option.bind (f_X7_chipOf_2 zFu s x1 0) fun e1 => match e1 with
  | Sum.inr r2 => some r2
  | Sum.inl e1i =>
  some (-1)
def f_X7_checksNet_27 : Nat → zr → Int32 → Int32 → Option ((Unit) ⊕ (Int32))
  | 0, _, _, _ => none
  | k + 1, s, x1, x2 =>
    if (16 : Int32) ≤ x2 then (
      some (Sum.inl ())
    ) else (
      if f_X7_has x1 x2 = true then (
        Option.bind (f_X7_netOf s x2) fun v3 =>
        if v3 = (-1) then (
          f_X7_checksNet_27 k s x1 (x2 + 1)
        ) else (
          some (Sum.inr (-1000002))
        )
      ) else (
        f_X7_checksNet_27 k s x1 (x2 + 1)
      )
    )
def f_X7_checksNet (s : zr) (x1 : Int32) : Option Int32 :=
  if f_X7_isIn x1 0 65535 = true then (
    Option.bind (f_X7_ones x1) fun v2 =>
    if f_X7_isIn v2 2 5 = true then (
      Option.bind (f_X7_checksNet_27 zFu s x1 0) fun e4 => match e4 with
      | Sum.inr r6 => some r6
      | Sum.inl e4i =>
      if (s 1 0) = 8 then (
        some (-1000003)
      ) else (
        some 0
      )
    ) else (
      some (-1000001)
    )
  ) else (
    some (-1000001)
  )
def f_X7_addsNet (s : zr) (x1 : Int32) : Option (Int32 × zr) :=
  if zin ((9 : Int32) + (s 1 0)) 88 = true then
  zlt (zm s 1 (((9 : Int32) + (s 1 0)).toNatClampNeg) x1) fun s2 =>
  zlt (zm s2 1 0 ((s2 1 0) + 1)) fun s4 =>
  some ((s4 1 0) - 1, s4)
  else none
def f_X7_net (s : zr) (x1 : Int32) : Option (Int32 × zr) :=
  Option.bind (f_X7_checksNet s x1) fun v1 =>
  if v1 = 0 then (
    Option.bind (f_X7_records s) fun v3 =>
    Option.bind (f_X7_addsNet v3 x1) fun v4 =>
    some (v4.1, v4.2)
  ) else (
    some (v1, s)
  )
def f_X7_checksChip_79 : Nat → zr → Int32 → Int32 → Option ((Unit) ⊕ (Int32))
  | 0, _, _, _ => none
  | k + 1, s, x4, x5 =>
    if (16 : Int32) ≤ x5 then (
      some (Sum.inl ())
    ) else (
      if f_X7_has x4 x5 = true then (
        Option.bind (f_X7_chipOf s x5) fun v3 =>
        if v3 = (-1) then (
          f_X7_checksChip_79 k s x4 (x5 + 1)
        ) else (
          some (Sum.inr (-1000002))
        )
      ) else (
        f_X7_checksChip_79 k s x4 (x5 + 1)
      )
    )
def f_X7_checksChip (s : zr) (x1 : Int32) (x2 : Int32) (x3 : Int32) : Option Int32 :=
  if f_X7_isIn x1 0 15 = true then (
    if f_X7_isIn x2 0 15 = true then (
      if x1 = x2 then (
        some (-1000001)
      ) else (
        if f_X7_isIn x3 0 65535 = true then (
          Option.bind (f_X7_ones x3) fun v5 =>
          if (5 : Int32) < v5 then (
            some (-1000001)
          ) else (
            if f_X7_has x3 x1 = true then (
              some (-1000001)
            ) else (
              if f_X7_has x3 x2 = true then (
                some (-1000001)
              ) else (
                zlt ((x3 ||| ((1 : Int32) <<< (x1 &&& 31))) ||| ((1 : Int32) <<< (x2 &&& 31)) : Int32) fun y9 =>
                Option.bind (f_X7_checksChip_79 zFu s y9 0) fun e11 => match e11 with
                | Sum.inr r13 => some r13
                | Sum.inl e11i =>
                if (s 1 1) = 5 then (
                  some (-1000003)
                ) else (
                  some 0
                )
              )
            )
          )
        ) else (
          some (-1000001)
        )
      )
    ) else (
      some (-1000001)
    )
  ) else (
    some (-1000001)
  )
def f_X7_addsChip (s : zr) (x1 : Int32) (x2 : Int32) (x3 : Int32) : Option (Int32 × zr) :=
  zlt (s 1 1 : Int32) fun y1 =>
  if zin ((17 : Int32) + y1) 88 = true then
  zlt (zm s 1 (((17 : Int32) + y1).toNatClampNeg) x1) fun s4 =>
  if zin ((22 : Int32) + y1) 88 = true then
  zlt (zm s4 1 (((22 : Int32) + y1).toNatClampNeg) x2) fun s7 =>
  if zin ((27 : Int32) + y1) 88 = true then
  zlt (zm s7 1 (((27 : Int32) + y1).toNatClampNeg) x3) fun s10 =>
  zlt (zm s10 1 1 ((s10 1 1) + 1)) fun s12 =>
  some (y1, s12)
  else none
  else none
  else none
def f_X7_chip (s : zr) (x1 : Int32) (x2 : Int32) (x3 : Int32) : Option (Int32 × zr) :=
  Option.bind (f_X7_checksChip s x1 x2 x3) fun v1 =>
  if v1 = 0 then (
    Option.bind (f_X7_records s) fun v3 =>
    Option.bind (f_X7_addsChip v3 x1 x2 x3) fun v4 =>
    some (v4.1, v4.2)
  ) else (
    some (v1, s)
  )
def f_X7_manyOf (s : zr) (x1 : Int32) : Int32 :=
  if x1 = 0 then (
    16
  ) else (
    if x1 = 4 then (
      s 1 1
    ) else (
      s 1 0
    )
  )
def f_X7_checksFault_63 : Nat → zr → Int32 → Int32 → Int32 → Int32 → Option ((Unit) ⊕ (Int32))
  | 0, _, _, _, _, _ => none
  | k + 1, s, x1, x2, x3, x4 =>
    if (s 1 2) ≤ x4 then (
      some (Sum.inl ())
    ) else (
      if zin ((32 : Int32) + x4) 88 = true then
      if (s 1 (((32 : Int32) + x4).toNatClampNeg)) = x1 then (
        if zin ((42 : Int32) + x4) 88 = true then
        if (s 1 (((42 : Int32) + x4).toNatClampNeg)) = x2 then (
          if zin ((52 : Int32) + x4) 88 = true then
          if (s 1 (((52 : Int32) + x4).toNatClampNeg)) = x3 then (
            some (Sum.inr (-1000002))
          ) else (
            f_X7_checksFault_63 k s x1 x2 x3 (x4 + 1)
          )
          else none
        ) else (
          f_X7_checksFault_63 k s x1 x2 x3 (x4 + 1)
        )
        else none
      ) else (
        f_X7_checksFault_63 k s x1 x2 x3 (x4 + 1)
      )
      else none
    )
def f_X7_checksFault (s : zr) (x1 : Int32) (x2 : Int32) (x3 : Int32) : Option Int32 :=
  if f_X7_isIn x1 0 4 = true then (
    if f_X7_isIn x2 0 ((f_X7_manyOf s x1) - 1) = true then (
      if x1 = 1 then (
        if f_X7_isIn x3 (x2 + 1) ((s 1 0) - 1) = true then (
          Option.bind (f_X7_checksFault_63 zFu s x1 x2 x3 0) fun e5 => match e5 with
          | Sum.inr r7 => some r7
          | Sum.inl e5i =>
          if (s 1 2) = 10 then (
            some (-1000003)
          ) else (
            some 0
          )
        ) else (
          some (-1000001)
        )
      ) else (
        if x3 = 0 then (
          Option.bind (f_X7_checksFault_63 zFu s x1 x2 x3 0) fun e10 => match e10 with
          | Sum.inr r12 => some r12
          | Sum.inl e10i =>
          if (s 1 2) = 10 then (
            some (-1000003)
          ) else (
            some 0
          )
        ) else (
          some (-1000001)
        )
      )
    ) else (
      some (-1000001)
    )
  ) else (
    some (-1000001)
  )
def f_X7_addsFault (s : zr) (x1 : Int32) (x2 : Int32) (x3 : Int32) : Option (Int32 × zr) :=
  zlt (s 1 2 : Int32) fun y1 =>
  if zin ((32 : Int32) + y1) 88 = true then
  zlt (zm s 1 (((32 : Int32) + y1).toNatClampNeg) x1) fun s4 =>
  if zin ((42 : Int32) + y1) 88 = true then
  zlt (zm s4 1 (((42 : Int32) + y1).toNatClampNeg) x2) fun s7 =>
  if zin ((52 : Int32) + y1) 88 = true then
  zlt (zm s7 1 (((52 : Int32) + y1).toNatClampNeg) x3) fun s10 =>
  if zin ((62 : Int32) + y1) 88 = true then
  zlt (zm s10 1 (((62 : Int32) + y1).toNatClampNeg) (-1)) fun s13 =>
  zlt (zm s13 1 2 ((s13 1 2) + 1)) fun s15 =>
  some (y1, s15)
  else none
  else none
  else none
  else none
def f_X7_fault (s : zr) (x1 : Int32) (x2 : Int32) (x3 : Int32) : Option (Int32 × zr) :=
  Option.bind (f_X7_checksFault s x1 x2 x3) fun v1 =>
  if v1 = 0 then (
    Option.bind (f_X7_records s) fun v3 =>
    Option.bind (f_X7_addsFault v3 x1 x2 x3) fun v4 =>
    some (v4.1, v4.2)
  ) else (
    some (v1, s)
  )
def f_X7_bless (s : zr) (x1 : Int32) (x2 : Int32) : Option (Int32 × zr) :=
  if f_X7_isIn x1 0 15 = true then (
    if f_X7_isIn x2 0 127 = true then (
      Option.bind (f_X7_records s) fun v3 =>
      if zin ((72 : Int32) + x1) 88 = true then
      zlt (v3 1 (((72 : Int32) + x1).toNatClampNeg) : Int32) fun y5 =>
      zlt (zm v3 1 (((72 : Int32) + x1).toNatClampNeg) x2) fun s7 =>
      some (y5, s7)
      else none
    ) else (
      some ((-1000001), s)
    )
  ) else (
    some ((-1000001), s)
  )
def f_X7_weekday (s : zr) : Int32 :=
  (s 1 3) - (s 1 3) / 7 * 7
def f_X7_touchedOn_4 : Nat → zr → Int32 → Int32 → Int32 → Option (Int32)
  | 0, _, _, _, _ => none
  | k + 1, s, x1, x2, x3 =>
    if (16 : Int32) ≤ x3 then (
      some x2
    ) else (
      if zin ((72 : Int32) + x3) 88 = true then
      if f_X7_has (s 1 (((72 : Int32) + x3).toNatClampNeg)) x1 = true then (
        zlt (x2 ||| ((1 : Int32) <<< (x3 &&& 31)) : Int32) fun y4 =>
        f_X7_touchedOn_4 k s x1 y4 (x3 + 1)
      ) else (
        zlt (x2 ||| 0 : Int32) fun y6 =>
        f_X7_touchedOn_4 k s x1 y6 (x3 + 1)
      )
      else none
    )
def f_X7_touchedOn (s : zr) (x1 : Int32) : Option Int32 :=
  Option.bind (f_X7_touchedOn_4 zFu s x1 0 0) fun e1 =>
  some e1
def f_X7_touchedNow (s : zr) : Option Int32 :=
  Option.bind (f_X7_touchedOn s (f_X7_weekday s)) fun v1 =>
  some (v1 ||| (s 1 5))
def f_X7_orMissing (x0 : Int32) : Int32 :=
  if x0 = (-1) then (
    (-1000004)
  ) else (
    x0
  )
def f_X7_pinOf (s : zr) (x1 : Int32) (x2 : Int32) : Option Int32 :=
  if f_X7_isIn x1 0 15 = true then (
    if f_X7_isIn x2 0 4 = true then (
      Option.bind (f_X7_chipOf s x1) fun v3 =>
      if x2 = 0 then (
        Option.bind (f_X7_netOf s x1) fun v8 =>
        some (f_X7_orMissing v8)
      ) else (
        if x2 = 1 then (
          some (f_X7_orMissing v3)
        ) else (
          if x2 = 2 then (
            if v3 = (-1) then (
              some (-1000004)
            ) else (
              Option.bind (f_X7_roleOf s v3 x1) fun v10 =>
              some v10
            )
          ) else (
            if x2 = 3 then (
              if zin ((72 : Int32) + x1) 88 = true then
              some (s 1 (((72 : Int32) + x1).toNatClampNeg))
              else none
            ) else (
              Option.bind (f_X7_touchedNow s) fun v12 =>
              if f_X7_has v12 x1 = true then (
                some 1
              ) else (
                some 0
              )
            )
          )
        )
      )
    ) else (
      some (-1000001)
    )
  ) else (
    some (-1000001)
  )
def f_X7_isFault (s : zr) (x1 : Int32) : Bool :=
  f_X7_isIn x1 0 ((s 1 2) - 1)
def f_X7_isFaultOrNone (s : zr) (x1 : Int32) : Bool :=
  f_X7_isIn x1 (-1) ((s 1 2) - 1)
def f_X7_faultOf (s : zr) (x1 : Int32) (x2 : Int32) : Option Int32 :=
  if f_X7_isFault s x1 = true then (
    if f_X7_isIn x2 0 3 = true then (
      if x2 = 0 then (
        if zin ((32 : Int32) + x1) 88 = true then
        some (s 1 (((32 : Int32) + x1).toNatClampNeg))
        else none
      ) else (
        if x2 = 1 then (
          if zin ((42 : Int32) + x1) 88 = true then
          some (s 1 (((42 : Int32) + x1).toNatClampNeg))
          else none
        ) else (
          if x2 = 2 then (
            if zin ((32 : Int32) + x1) 88 = true then
            if (s 1 (((32 : Int32) + x1).toNatClampNeg)) = 1 then (
              if zin ((52 : Int32) + x1) 88 = true then
              some (s 1 (((52 : Int32) + x1).toNatClampNeg))
              else none
            ) else (
              some (-1000004)
            )
            else none
          ) else (
            if zin ((62 : Int32) + x1) 88 = true then
            some (f_X7_orMissing (s 1 (((62 : Int32) + x1).toNatClampNeg)))
            else none
          )
        )
      )
    ) else (
      some (-1000001)
    )
  ) else (
    some (-1000001)
  )
def f_X7_hasFault (s : zr) (x1 : Int32) (x2 : Int32) (x3 : Int32) : Option Bool :=
  if x1 = (-1) then (
    some false
  ) else (
    if zin ((32 : Int32) + x1) 88 = true then
    if (s 1 (((32 : Int32) + x1).toNatClampNeg)) = x2 then (
      if zin ((42 : Int32) + x1) 88 = true then
      if (s 1 (((42 : Int32) + x1).toNatClampNeg)) = x3 then (
        some true
      ) else (
        some false
      )
      else none
    ) else (
      some false
    )
    else none
  )
def f_X7_areLinked (s : zr) (x1 : Int32) (x2 : Int32) (x3 : Int32) : Option Bool :=
  Option.bind (f_X7_netOf s x2) fun v1 =>
  if v1 = (-1) then (
    some false
  ) else (
    Option.bind (f_X7_netOf s x3) fun v3 =>
    if v3 = v1 then (
      Option.bind (f_X7_hasFault s x1 0 x2) fun v5 =>
      if v5 = true then (
        some false
      ) else (
        Option.bind (f_X7_hasFault s x1 0 x3) fun v7 =>
        if v7 = true then (
          some false
        ) else (
          Option.bind (f_X7_hasFault s x1 2 v1) fun v9 =>
          if v9 = true then (
            some false
          ) else (
            Option.bind (f_X7_hasFault s x1 3 v1) fun v11 =>
            if v11 = true then (
              some false
            ) else (
              some true
            )
          )
        )
      )
    ) else (
      some false
    )
  )
def f_X7_comesTo_42 : Nat → zr → Int32 → Int32 → Int32 → Bool → Bool → Int32 → Option (Bool)
  | 0, _, _, _, _, _, _, _ => none
  | k + 1, s, x1, x3, x4, x5, x6, x7 =>
    if (s 1 1) ≤ x7 then (
      some x6
    ) else (
      if f_X7_has x3 x7 = true then (
        if x6 = true then (
          f_X7_comesTo_42 k s x1 x3 x4 x5 true (x7 + 1)
        ) else (
          if x5 = true then (
            if zin ((22 : Int32) + x7) 88 = true then
            if zin ((17 : Int32) + x4) 88 = true then
            Option.bind (f_X7_areLinked s x1 (s 1 (((22 : Int32) + x7).toNatClampNeg)) (s 1 (((17 : Int32) + x4).toNatClampNeg))) fun v7 =>
            if v7 = true then (
              f_X7_comesTo_42 k s x1 x3 x4 x5 true (x7 + 1)
            ) else (
              f_X7_comesTo_42 k s x1 x3 x4 x5 false (x7 + 1)
            )
            else none
            else none
          ) else (
            if zin ((22 : Int32) + x4) 88 = true then
            if zin ((17 : Int32) + x7) 88 = true then
            Option.bind (f_X7_areLinked s x1 (s 1 (((22 : Int32) + x4).toNatClampNeg)) (s 1 (((17 : Int32) + x7).toNatClampNeg))) fun v11 =>
            if v11 = true then (
              f_X7_comesTo_42 k s x1 x3 x4 x5 true (x7 + 1)
            ) else (
              f_X7_comesTo_42 k s x1 x3 x4 x5 false (x7 + 1)
            )
            else none
            else none
          )
        )
      ) else (
        f_X7_comesTo_42 k s x1 x3 x4 x5 x6 (x7 + 1)
      )
    )
def f_X7_comesTo (s : zr) (x1 : Int32) (x2 : Int32) (x3 : Int32) (x4 : Int32) (x5 : Bool) : Option Bool :=
  Option.bind (f_X7_hasFault s x1 4 x4) fun v1 =>
  if v1 = true then (
    some false
  ) else (
    if x5 = true then (
      if zin ((17 : Int32) + x4) 88 = true then
      Option.bind (f_X7_comesTo_42 zFu s x1 x3 x4 x5 (f_X7_has x2 (s 1 (((17 : Int32) + x4).toNatClampNeg))) 0) fun e5 =>
      some e5
      else none
    ) else (
      if zin ((22 : Int32) + x4) 88 = true then
      Option.bind (f_X7_comesTo_42 zFu s x1 x3 x4 x5 (f_X7_has x2 (s 1 (((22 : Int32) + x4).toNatClampNeg))) 0) fun e7 =>
      some e7
      else none
    )
  )
def f_X7_along_15 : Nat → zr → Int32 → Int32 → Bool → Int32 → Int32 → Int32 → Option (Int32)
  | 0, _, _, _, _, _, _, _ => none
  | k + 1, s, x1, x2, x3, x5, x4, x6 =>
    if (s 1 1) ≤ x6 then (
      some x4
    ) else (
      if f_X7_has x4 x6 = true then (
        f_X7_along_15 k s x1 x2 x3 x5 x4 (x6 + 1)
      ) else (
        Option.bind (f_X7_comesTo s x1 x2 x4 x6 x3) fun v3 =>
        if v3 = true then (
          zlt (x4 ||| ((1 : Int32) <<< (x6 &&& 31)) : Int32) fun y5 =>
          f_X7_along_15 k s x1 x2 x3 x5 y5 (x6 + 1)
        ) else (
          f_X7_along_15 k s x1 x2 x3 x5 x4 (x6 + 1)
        )
      )
    )
def f_X7_along_6 : Nat → zr → Int32 → Int32 → Bool → Int32 → Int32 → Option (Int32)
  | 0, _, _, _, _, _, _ => none
  | k + 1, s, x1, x2, x3, x4, x5 =>
    if (5 : Int32) ≤ x5 then (
      some x4
    ) else (
      Option.bind (f_X7_along_15 zFu s x1 x2 x3 x5 x4 0) fun e2 =>
      f_X7_along_6 k s x1 x2 x3 e2 (x5 + 1)
    )
def f_X7_along (s : zr) (x1 : Int32) (x2 : Int32) (x3 : Bool) : Option Int32 :=
  Option.bind (f_X7_along_6 zFu s x1 x2 x3 0 0) fun e1 =>
  some e1
def f_X7_scannedBy (s : zr) (x1 : Int32) (x2 : Int32) : Option Int32 :=
  Option.bind (f_X7_along s x1 x2 true) fun v1 =>
  Option.bind (f_X7_along s x1 x2 false) fun v2 =>
  some (v1 &&& v2)
def f_X7_reachedBy_13 : Nat → zr → Int32 → Int32 → Int32 → Option (Int32)
  | 0, _, _, _, _ => none
  | k + 1, s, x3, x4, x5 =>
    if (s 1 1) ≤ x5 then (
      some x4
    ) else (
      if f_X7_has x3 x5 = true then (
        if zin ((27 : Int32) + x5) 88 = true then
        zlt (x4 ||| (s 1 (((27 : Int32) + x5).toNatClampNeg)) : Int32) fun y4 =>
        f_X7_reachedBy_13 k s x3 y4 (x5 + 1)
        else none
      ) else (
        zlt (x4 ||| 0 : Int32) fun y6 =>
        f_X7_reachedBy_13 k s x3 y6 (x5 + 1)
      )
    )
def f_X7_reachedBy (s : zr) (x1 : Int32) (x2 : Int32) : Option Int32 :=
  Option.bind (f_X7_scannedBy s x1 x2) fun v1 =>
  Option.bind (f_X7_reachedBy_13 zFu s v1 x2 0) fun e2 =>
  some e2
def f_X7_areJoined (s : zr) (x1 : Int32) (x2 : Int32) (x3 : Int32) : Option Bool :=
  if x2 = x3 then (
    some true
  ) else (
    if x3 ≤ x2 then (
      Option.bind (f_X7_hasFault s x1 1 x3) fun v3 =>
      if v3 = true then (
        if zin ((52 : Int32) + x1) 88 = true then
        if (s 1 (((52 : Int32) + x1).toNatClampNeg)) = x2 then (
          some true
        ) else (
          some false
        )
        else none
      ) else (
        some false
      )
    ) else (
      Option.bind (f_X7_hasFault s x1 1 x2) fun v7 =>
      if v7 = true then (
        if zin ((52 : Int32) + x1) 88 = true then
        if (s 1 (((52 : Int32) + x1).toNatClampNeg)) = x3 then (
          some true
        ) else (
          some false
        )
        else none
      ) else (
        some false
      )
    )
  )
def f_X7_readsOne (s : zr) (x1 : Int32) (x2 : Int32) (x3 : Int32) (x4 : Int32) : Option Int32 :=
  Option.bind (f_X7_netOf s x2) fun v1 =>
  if v1 = (-1) then (
    if x2 = x3 then (
      some x4
    ) else (
      some 0
    )
  ) else (
    Option.bind (f_X7_hasFault s x1 0 x2) fun v4 =>
    if v4 = true then (
      if x2 = x3 then (
        some x4
      ) else (
        some 0
      )
    ) else (
      Option.bind (f_X7_hasFault s x1 2 v1) fun v7 =>
      if v7 = true then (
        some 0
      ) else (
        Option.bind (f_X7_hasFault s x1 3 v1) fun v9 =>
        if v9 = true then (
          some 1
        ) else (
          Option.bind (f_X7_netOf s x3) fun v11 =>
          if v11 = (-1) then (
            some 0
          ) else (
            Option.bind (f_X7_hasFault s x1 0 x3) fun v13 =>
            if v13 = true then (
              some 0
            ) else (
              Option.bind (f_X7_areJoined s x1 v1 v11) fun v15 =>
              if v15 = true then (
                some x4
              ) else (
                some 0
              )
            )
          )
        )
      )
    )
  )
def f_X7_readsBy_6 : Nat → zr → Int32 → Int32 → Int32 → Int32 → Int32 → Int32 → Option (Int32)
  | 0, _, _, _, _, _, _, _ => none
  | k + 1, s, x1, x2, x3, x4, x5, x6 =>
    if (16 : Int32) ≤ x6 then (
      some x5
    ) else (
      if f_X7_has x2 x6 = true then (
        Option.bind (f_X7_readsOne s x1 x6 x3 x4) fun v3 =>
        zlt (x5 ||| (v3 <<< (x6 &&& 31)) : Int32) fun y4 =>
        f_X7_readsBy_6 k s x1 x2 x3 x4 y4 (x6 + 1)
      ) else (
        zlt (x5 ||| 0 : Int32) fun y6 =>
        f_X7_readsBy_6 k s x1 x2 x3 x4 y6 (x6 + 1)
      )
    )
def f_X7_readsBy (s : zr) (x1 : Int32) (x2 : Int32) (x3 : Int32) (x4 : Int32) : Option Int32 :=
  Option.bind (f_X7_readsBy_6 zFu s x1 x2 x3 x4 0 0) fun e1 =>
  some e1
def f_X7_measuresOne_36 : Nat → zr → Int32 → Int32 → Int32 → Int32 → Int32 → Option (zr)
  | 0, _, _, _, _, _, _ => none
  | k + 1, s, x2, x4, x5, x6, x7 =>
    if (2 : Int32) ≤ x7 then (
      some s
    ) else (
      if f_X7_has x5 x6 = true then (
        Option.bind (f_X7_readsBy s x2 x5 x6 x7) fun v3 =>
        if zin (((x4 + 1) + ((2 : Int32) * x6)) + x7) 363 = true then
        zlt (zm s 4 ((((x4 + 1) + ((2 : Int32) * x6)) + x7).toNatClampNeg) v3) fun s5 =>
        f_X7_measuresOne_36 k s5 x2 x4 x5 x6 (x7 + 1)
        else none
      ) else (
        if zin (((x4 + 1) + ((2 : Int32) * x6)) + x7) 363 = true then
        zlt (zm s 4 ((((x4 + 1) + ((2 : Int32) * x6)) + x7).toNatClampNeg) (-1)) fun s8 =>
        f_X7_measuresOne_36 k s8 x2 x4 x5 x6 (x7 + 1)
        else none
      )
    )
def f_X7_measuresOne_26 : Nat → zr → Int32 → Int32 → Int32 → Int32 → Option (zr)
  | 0, _, _, _, _, _ => none
  | k + 1, s, x2, x4, x5, x6 =>
    if (16 : Int32) ≤ x6 then (
      some s
    ) else (
      Option.bind (f_X7_measuresOne_36 zFu s x2 x4 x5 x6 0) fun e2 =>
      f_X7_measuresOne_26 k e2 x2 x4 x5 (x6 + 1)
    )
def f_X7_measuresOne (s : zr) (x1 : Int32) (x2 : Int32) (x3 : Int32) : Option zr :=
  zlt (x1 * 33 : Int32) fun y1 =>
  Option.bind (f_X7_reachedBy s x2 x3) fun v3 =>
  if zin y1 363 = true then
  zlt (zm s 4 y1.toNatClampNeg v3) fun s5 =>
  Option.bind (f_X7_measuresOne_26 zFu s5 x2 y1 v3 0) fun e7 =>
  some e7
  else none
def f_X7_isBoard (s : zr) (x1 : Int32) : Bool :=
  if x1 = 10 then (
    true
  ) else (
    if (s 1 2) ≤ x1 then (
      false
    ) else (
      true
    )
  )
def f_X7_slotOf (x0 : Int32) : Int32 :=
  if x0 = (-1) then (
    10
  ) else (
    x0
  )
def f_X7_measures_2 : Nat → zr → Int32 → Int32 → Option (zr)
  | 0, _, _, _ => none
  | k + 1, s, x1, x2 =>
    if (10 : Int32) < x2 then (
      some s
    ) else (
      if f_X7_isBoard s x2 = true then (
        if x2 = 10 then (
          Option.bind (f_X7_measuresOne s x2 (-1) x1) fun v4 =>
          f_X7_measures_2 k v4 x1 (x2 + 1)
        ) else (
          Option.bind (f_X7_measuresOne s x2 x2 x1) fun v5 =>
          f_X7_measures_2 k v5 x1 (x2 + 1)
        )
      ) else (
        f_X7_measures_2 k s x1 (x2 + 1)
      )
    )
def f_X7_measures (s : zr) (x1 : Int32) : Option zr :=
  Option.bind (f_X7_measures_2 zFu s x1 0) fun e1 =>
  some e1
def f_X7_isLike_2 : Nat → zr → Int32 → Int32 → Int32 → Option ((Unit) ⊕ (Bool))
  | 0, _, _, _, _ => none
  | k + 1, s, x1, x2, x3 =>
    if (33 : Int32) ≤ x3 then (
      some (Sum.inl ())
    ) else (
      if zin ((x1 * 33) + x3) 363 = true then
      if zin ((x2 * 33) + x3) 363 = true then
      if (s 4 (((x1 * 33) + x3).toNatClampNeg)) = (s 4 (((x2 * 33) + x3).toNatClampNeg)) then (
        f_X7_isLike_2 k s x1 x2 (x3 + 1)
      ) else (
        some (Sum.inr false)
      )
      else none
      else none
    )
def f_X7_isLike (s : zr) (x1 : Int32) (x2 : Int32) : Option Bool :=
  Option.bind (f_X7_isLike_2 zFu s x1 x2 0) fun e1 => match e1 with
  | Sum.inr r2 => some r2
  | Sum.inl e1i =>
  some true
def f_X7_likeSet_4 : Nat → zr → Int32 → Int32 → Int32 → Option (Int32)
  | 0, _, _, _, _ => none
  | k + 1, s, x1, x2, x3 =>
    if (10 : Int32) < x3 then (
      some x2
    ) else (
      if f_X7_isBoard s x3 = true then (
        Option.bind (f_X7_isLike s x1 x3) fun v3 =>
        if v3 = true then (
          zlt (x2 ||| ((1 : Int32) <<< (x3 &&& 31)) : Int32) fun y5 =>
          f_X7_likeSet_4 k s x1 y5 (x3 + 1)
        ) else (
          zlt (x2 ||| 0 : Int32) fun y7 =>
          f_X7_likeSet_4 k s x1 y7 (x3 + 1)
        )
      ) else (
        zlt (x2 ||| 0 : Int32) fun y9 =>
        f_X7_likeSet_4 k s x1 y9 (x3 + 1)
      )
    )
def f_X7_likeSet (s : zr) (x1 : Int32) : Option Int32 :=
  Option.bind (f_X7_likeSet_4 zFu s x1 0 0) fun e1 =>
  some e1
def f_X7_isDay (x0 : Int32) : Bool :=
  f_X7_isIn x0 0 6
def f_X7_reached (s : zr) (x1 : Int32) (x2 : Int32) : Option Int32 :=
  if f_X7_isDay x1 = true then (
    if f_X7_isFaultOrNone s x2 = true then (
      Option.bind (f_X7_touchedOn s x1) fun v3 =>
      Option.bind (f_X7_reachedBy s x2 v3) fun v4 =>
      some v4
    ) else (
      some (-1000001)
    )
  ) else (
    some (-1000001)
  )
def f_X7_scanned (s : zr) (x1 : Int32) (x2 : Int32) : Option Int32 :=
  if f_X7_isDay x1 = true then (
    if f_X7_isFaultOrNone s x2 = true then (
      Option.bind (f_X7_touchedOn s x1) fun v3 =>
      Option.bind (f_X7_scannedBy s x2 v3) fun v4 =>
      some v4
    ) else (
      some (-1000001)
    )
  ) else (
    some (-1000001)
  )
def f_X7_reads (s : zr) (x1 : Int32) (x2 : Int32) (x3 : Int32) (x4 : Int32) : Option Int32 :=
  if f_X7_isDay x1 = true then (
    if f_X7_isFaultOrNone s x2 = true then (
      if f_X7_isIn x3 0 15 = true then (
        if f_X7_isIn x4 0 1 = true then (
          Option.bind (f_X7_touchedOn s x1) fun v5 =>
          Option.bind (f_X7_reachedBy s x2 v5) fun v6 =>
          if f_X7_has v6 x3 = true then (
            Option.bind (f_X7_readsBy s x2 v6 x3 x4) fun v8 =>
            some v8
          ) else (
            some (-1000004)
          )
        ) else (
          some (-1000001)
        )
      ) else (
        some (-1000001)
      )
    ) else (
      some (-1000001)
    )
  ) else (
    some (-1000001)
  )
def f_X7_alikeDays_5 : Nat → zr → Int32 → Int32 → Int32 → Int32 → Option (zr × Int32)
  | 0, _, _, _, _, _ => none
  | k + 1, s, x1, x2, x3, x4 =>
    if (7 : Int32) ≤ x4 then (
      some (s, x3)
    ) else (
      Option.bind (f_X7_touchedOn s x4) fun v2 =>
      Option.bind (f_X7_measuresOne s (f_X7_slotOf x1) x1 v2) fun v3 =>
      Option.bind (f_X7_measuresOne v3 (f_X7_slotOf x2) x2 v2) fun v4 =>
      Option.bind (f_X7_isLike v4 (f_X7_slotOf x1) (f_X7_slotOf x2)) fun v5 =>
      if v5 = true then (
        zlt (x3 ||| ((1 : Int32) <<< (x4 &&& 31)) : Int32) fun y7 =>
        f_X7_alikeDays_5 k v4 x1 x2 y7 (x4 + 1)
      ) else (
        zlt (x3 ||| 0 : Int32) fun y9 =>
        f_X7_alikeDays_5 k v4 x1 x2 y9 (x4 + 1)
      )
    )
def f_X7_alikeDays (s : zr) (x1 : Int32) (x2 : Int32) : Option (Int32 × zr) :=
  Option.bind (f_X7_alikeDays_5 zFu s x1 x2 0 0) fun e1 =>
  some (e1.2, e1.1)
def f_X7_daysOf (s : zr) (x1 : Int32) : Option (Int32 × zr) :=
  if f_X7_isFault s x1 = true then (
    Option.bind (f_X7_alikeDays s x1 (-1)) fun v2 =>
    some ((127 : Int32) - v2.1, v2.2)
  ) else (
    some ((-1000001), s)
  )
def f_X7_alike (s : zr) (x1 : Int32) (x2 : Int32) : Option (Int32 × zr) :=
  if f_X7_isFaultOrNone s x1 = true then (
    if f_X7_isFaultOrNone s x2 = true then (
      Option.bind (f_X7_alikeDays s x1 x2) fun v3 =>
      some (v3.1, v3.2)
    ) else (
      some ((-1000001), s)
    )
  ) else (
    some ((-1000001), s)
  )
def f_X7_twin_13 : Nat → zr → Int32 → Int32 → Option ((zr) ⊕ (Int32 × zr))
  | 0, _, _, _ => none
  | k + 1, s, x1, x2 =>
    if (s 1 2) ≤ x2 then (
      some (Sum.inl s)
    ) else (
      if x2 = x1 then (
        f_X7_twin_13 k s x1 (x2 + 1)
      ) else (
        Option.bind (f_X7_alikeDays s x1 x2) fun v3 =>
        if v3.1 = 127 then (
          some (Sum.inr (x2, v3.2))
        ) else (
          f_X7_twin_13 k v3.2 x1 (x2 + 1)
        )
      )
    )
def f_X7_twin (s : zr) (x1 : Int32) : Option (Int32 × zr) :=
  if f_X7_isFault s x1 = true then (
    Option.bind (f_X7_twin_13 zFu s x1 0) fun e2 => match e2 with
    | Sum.inr r5 => some r5
    | Sum.inl e2i =>
    Option.bind (f_X7_alikeDays e2i x1 (-1)) fun v6 =>
    if v6.1 = 127 then (
      some ((-1), v6.2)
    ) else (
      some ((-1000004), v6.2)
    )
  ) else (
    some ((-1000001), s)
  )
def f_X7_outcomes_23 : Nat → zr → Int32 → Int32 → Option (Int32)
  | 0, _, _, _ => none
  | k + 1, s, x2, x3 =>
    if (10 : Int32) < x3 then (
      some x2
    ) else (
      if f_X7_isBoard s x3 = true then (
        Option.bind (f_X7_likeSet s x3) fun v3 =>
        if (v3 &&& (((1 : Int32) <<< (x3 &&& 31)) - 1)) = 0 then (
          zlt (x2 + 1 : Int32) fun y5 =>
          f_X7_outcomes_23 k s y5 (x3 + 1)
        ) else (
          zlt (x2 + 0 : Int32) fun y7 =>
          f_X7_outcomes_23 k s y7 (x3 + 1)
        )
      ) else (
        f_X7_outcomes_23 k s x2 (x3 + 1)
      )
    )
def f_X7_outcomes (s : zr) (x1 : Int32) : Option (Int32 × zr) :=
  if f_X7_isDay x1 = true then (
    Option.bind (f_X7_touchedOn s x1) fun v2 =>
    Option.bind (f_X7_measures s v2) fun v3 =>
    Option.bind (f_X7_outcomes_23 zFu v3 0 0) fun e4 =>
    some (e4, v3)
  ) else (
    some ((-1000001), s)
  )
def f_X7_likes (s : zr) (x1 : Int32) (x2 : Int32) : Option (Int32 × zr) :=
  if f_X7_isDay x1 = true then (
    if f_X7_isFaultOrNone s x2 = true then (
      Option.bind (f_X7_touchedOn s x1) fun v3 =>
      Option.bind (f_X7_measures s v3) fun v4 =>
      Option.bind (f_X7_likeSet v4 (f_X7_slotOf x2)) fun v5 =>
      some (v5, v4)
    ) else (
      some ((-1000001), s)
    )
  ) else (
    some ((-1000001), s)
  )
def f_X7_findsLikes_19 : Nat → zr → Int32 → Int32 → Option (zr)
  | 0, _, _, _ => none
  | k + 1, s, x1, x2 =>
    if (10 : Int32) < x2 then (
      some s
    ) else (
      if f_X7_isBoard s x2 = true then (
        Option.bind (f_X7_likeSet s x2) fun v3 =>
        if zin ((x1 * 11) + x2) 77 = true then
        zlt (zm s 5 (((x1 * 11) + x2).toNatClampNeg) v3) fun s5 =>
        f_X7_findsLikes_19 k s5 x1 (x2 + 1)
        else none
      ) else (
        if zin ((x1 * 11) + x2) 77 = true then
        zlt (zm s 5 (((x1 * 11) + x2).toNatClampNeg) 0) fun s8 =>
        f_X7_findsLikes_19 k s8 x1 (x2 + 1)
        else none
      )
    )
def f_X7_findsLikes_2 : Nat → zr → Int32 → Option (zr)
  | 0, _, _ => none
  | k + 1, s, x1 =>
    if (7 : Int32) ≤ x1 then (
      some s
    ) else (
      Option.bind (f_X7_touchedOn s x1) fun v2 =>
      Option.bind (f_X7_measures s v2) fun v3 =>
      Option.bind (f_X7_findsLikes_19 zFu v3 x1 0) fun e4 =>
      f_X7_findsLikes_2 k e4 (x1 + 1)
    )
def f_X7_findsLikes (s : zr) : Option zr :=
  Option.bind (f_X7_findsLikes_2 zFu s 0) fun e1 =>
  some e1
def f_X7_areApart_6 : Nat → zr → Int32 → Int32 → Int32 → Bool → Int32 → Option (Bool)
  | 0, _, _, _, _, _, _ => none
  | k + 1, s, x1, x2, x3, x4, x5 =>
    if (7 : Int32) ≤ x5 then (
      some x4
    ) else (
      if x4 = true then (
        f_X7_areApart_6 k s x1 x2 x3 true (x5 + 1)
      ) else (
        if f_X7_has x3 x5 = true then (
          if zin ((x5 * 11) + x1) 77 = true then
          if f_X7_has (s 5 (((x5 * 11) + x1).toNatClampNeg)) x2 = true then (
            f_X7_areApart_6 k s x1 x2 x3 false (x5 + 1)
          ) else (
            f_X7_areApart_6 k s x1 x2 x3 true (x5 + 1)
          )
          else none
        ) else (
          f_X7_areApart_6 k s x1 x2 x3 false (x5 + 1)
        )
      )
    )
def f_X7_areApart (s : zr) (x1 : Int32) (x2 : Int32) (x3 : Int32) : Option Bool :=
  Option.bind (f_X7_areApart_6 zFu s x1 x2 x3 false 0) fun e1 =>
  some e1
def f_X7_doesAll_18 : Nat → zr → Int32 → Int32 → Int32 → Bool → Int32 → Option (Bool)
  | 0, _, _, _, _, _, _ => none
  | k + 1, s, x1, x2, x4, x3, x5 =>
    if (10 : Int32) < x5 then (
      some x3
    ) else (
      if f_X7_isBoard s x4 = true then (
        if f_X7_isBoard s x5 = true then (
          if x1 = 1 then (
            if x3 = true then (
              Option.bind (f_X7_areApart s x4 x5 x2) fun v6 =>
              if v6 = true then (
                f_X7_doesAll_18 k s x1 x2 x4 true (x5 + 1)
              ) else (
                Option.bind (f_X7_areApart s x4 x5 127) fun v8 =>
                if v8 = true then (
                  f_X7_doesAll_18 k s x1 x2 x4 false (x5 + 1)
                ) else (
                  f_X7_doesAll_18 k s x1 x2 x4 true (x5 + 1)
                )
              )
            ) else (
              f_X7_doesAll_18 k s x1 x2 x4 false (x5 + 1)
            )
          ) else (
            if x5 = 10 then (
              if x3 = true then (
                Option.bind (f_X7_areApart s x4 x5 x2) fun v12 =>
                if v12 = true then (
                  f_X7_doesAll_18 k s x1 x2 x4 true (x5 + 1)
                ) else (
                  Option.bind (f_X7_areApart s x4 x5 127) fun v14 =>
                  if v14 = true then (
                    f_X7_doesAll_18 k s x1 x2 x4 false (x5 + 1)
                  ) else (
                    f_X7_doesAll_18 k s x1 x2 x4 true (x5 + 1)
                  )
                )
              ) else (
                f_X7_doesAll_18 k s x1 x2 x4 false (x5 + 1)
              )
            ) else (
              if x3 = true then (
                f_X7_doesAll_18 k s x1 x2 x4 true (x5 + 1)
              ) else (
                f_X7_doesAll_18 k s x1 x2 x4 false (x5 + 1)
              )
            )
          )
        ) else (
          if x3 = true then (
            f_X7_doesAll_18 k s x1 x2 x4 true (x5 + 1)
          ) else (
            f_X7_doesAll_18 k s x1 x2 x4 false (x5 + 1)
          )
        )
      ) else (
        if x3 = true then (
          f_X7_doesAll_18 k s x1 x2 x4 true (x5 + 1)
        ) else (
          f_X7_doesAll_18 k s x1 x2 x4 false (x5 + 1)
        )
      )
    )
def f_X7_doesAll_5 : Nat → zr → Int32 → Int32 → Bool → Int32 → Option (Bool)
  | 0, _, _, _, _, _ => none
  | k + 1, s, x1, x2, x3, x4 =>
    if (10 : Int32) ≤ x4 then (
      some x3
    ) else (
      zlt (x4 + 1 : Int32) fun y2 =>
      Option.bind (f_X7_doesAll_18 zFu s x1 x2 x4 x3 y2) fun e4 =>
      f_X7_doesAll_5 k s x1 x2 e4 (x4 + 1)
    )
def f_X7_doesAll (s : zr) (x1 : Int32) (x2 : Int32) : Option Bool :=
  Option.bind (f_X7_doesAll_5 zFu s x1 x2 true 0) fun e1 =>
  some e1
def f_X7_fewestDays_32 : Nat → zr → Int32 → Int32 → Int32 → Int32 → Option (Int32)
  | 0, _, _, _, _, _ => none
  | k + 1, s, x1, x2, x3, x4 =>
    if x4 < 0 then (
      some x3
    ) else (
      Option.bind (f_X7_ones x4) fun v2 =>
      Option.bind (f_X7_ones x3) fun v3 =>
      if v3 < v2 then (
        f_X7_fewestDays_32 k s x1 x2 x3 (x4 + (-1))
      ) else (
        Option.bind (f_X7_doesAll s x1 x4) fun v5 =>
        if v5 = true then (
          f_X7_fewestDays_32 k s x1 x2 x4 (x4 + (-1))
        ) else (
          f_X7_fewestDays_32 k s x1 x2 x3 (x4 + (-1))
        )
      )
    )
def f_X7_fewestDays (s : zr) (x1 : Int32) (x2 : Int32) : Option (Int32 × zr) :=
  if f_X7_isIn x1 0 1 = true then (
    if f_X7_isIn x2 0 1 = true then (
      Option.bind (f_X7_findsLikes s) fun v3 =>
      Option.bind (f_X7_fewestDays_32 zFu v3 x1 x2 127 126) fun e4 =>
      if x2 = 0 then (
        Option.bind (f_X7_ones e4) fun v6 =>
        some (v6, v3)
      ) else (
        some (e4, v3)
      )
    ) else (
      some ((-1000001), s)
    )
  ) else (
    some ((-1000001), s)
  )
def f_X7_isTold (s : zr) (x1 : Int32) (x2 : Int32) : Option (Bool × zr) :=
  Option.bind (f_X7_measuresOne s 0 x1 x2) fun v1 =>
  Option.bind (f_X7_measuresOne v1 10 (-1) x2) fun v2 =>
  Option.bind (f_X7_isLike v2 0 10) fun v3 =>
  if v3 = true then (
    some (false, v2)
  ) else (
    some (true, v2)
  )
def f_X7_wantedSet_13 : Nat → zr → Int32 → Int32 → Int32 → Option ((zr) ⊕ (Int32 × zr))
  | 0, _, _, _, _ => none
  | k + 1, s, x1, x2, x3 =>
    if (16 : Int32) ≤ x3 then (
      some (Sum.inl s)
    ) else (
      if f_X7_has x2 x3 = true then (
        f_X7_wantedSet_13 k s x1 x2 (x3 + 1)
      ) else (
        Option.bind (f_X7_isTold s x1 (x2 ||| ((1 : Int32) <<< (x3 &&& 31)))) fun v3 =>
        if v3.1 = true then (
          some (Sum.inr ((1 : Int32) <<< (x3 &&& 31), v3.2))
        ) else (
          f_X7_wantedSet_13 k v3.2 x1 x2 (x3 + 1)
        )
      )
    )
def f_X7_wantedSet_61 : Nat → zr → Int32 → Int32 → Int32 → Int32 → Option ((zr) ⊕ (Int32 × zr))
  | 0, _, _, _, _, _ => none
  | k + 1, s, x1, x2, x3, x4 =>
    if x3 ≤ x4 then (
      some (Sum.inl s)
    ) else (
      zlt (((1 : Int32) <<< (x3 &&& 31)) ||| ((1 : Int32) <<< (x4 &&& 31)) : Int32) fun y2 =>
      if (x2 &&& y2) = 0 then (
        Option.bind (f_X7_isTold s x1 (x2 ||| y2)) fun v5 =>
        if v5.1 = true then (
          some (Sum.inr (y2, v5.2))
        ) else (
          f_X7_wantedSet_61 k v5.2 x1 x2 x3 (x4 + 1)
        )
      ) else (
        f_X7_wantedSet_61 k s x1 x2 x3 (x4 + 1)
      )
    )
def f_X7_wantedSet_52 : Nat → zr → Int32 → Int32 → Int32 → Option ((zr) ⊕ (Int32 × zr))
  | 0, _, _, _, _ => none
  | k + 1, s, x1, x2, x3 =>
    if (16 : Int32) ≤ x3 then (
      some (Sum.inl s)
    ) else (
      Option.bind (f_X7_wantedSet_61 zFu s x1 x2 x3 0) fun e2 => match e2 with
      | Sum.inr r3 => some (Sum.inr r3)
      | Sum.inl e2i =>
      f_X7_wantedSet_52 k e2i x1 x2 (x3 + 1)
    )
def f_X7_wantedSet (s : zr) (x1 : Int32) (x2 : Int32) : Option (Int32 × zr) :=
  Option.bind (f_X7_isTold s x1 x2) fun v1 =>
  if v1.1 = true then (
    some (0, v1.2)
  ) else (
    Option.bind (f_X7_wantedSet_13 zFu v1.2 x1 x2 0) fun e3 => match e3 with
    | Sum.inr r6 => some r6
    | Sum.inl e3i =>
    Option.bind (f_X7_wantedSet_52 zFu e3i x1 x2 1) fun e7 => match e7 with
    | Sum.inr r8 => some r8
    | Sum.inl e7i =>
    some ((-1), e7i)
  )
def f_X7_wanted (s : zr) (x1 : Int32) (x2 : Int32) (x3 : Int32) : Option (Int32 × zr) :=
  if f_X7_isFault s x1 = true then (
    if f_X7_isDay x2 = true then (
      if f_X7_isIn x3 0 1 = true then (
        Option.bind (f_X7_touchedOn s x2) fun v4 =>
        Option.bind (f_X7_wantedSet s x1 v4) fun v5 =>
        if v5.1 = (-1) then (
          some ((-1000004), v5.2)
        ) else (
          if x3 = 0 then (
            Option.bind (f_X7_ones v5.1) fun v8 =>
            some (v8, v5.2)
          ) else (
            some (v5.1, v5.2)
          )
        )
      ) else (
        some ((-1000001), s)
      )
    ) else (
      some ((-1000001), s)
    )
  ) else (
    some ((-1000001), s)
  )
def f_X7_floatBits_12 : Nat → Int32 → Int32 → Int64 → Option (Int32 × Int64)
  | 0, _, _, _ => none
  | k + 1, x1, x2, x3 =>
    if (0 : Int32) ≤ (lg_cmp x3 x1.toInt64) then (
      some (x2, x3)
    ) else (
      f_X7_floatBits_12 k x1 (x2 + (-1)) (x3 * 2)
    )
def f_X7_floatBits (x0 : Int32) (x1 : Int32) : Option Int32 :=
  if x0 = 0 then (
    some 0
  ) else (
    Option.bind (f_X7_floatBits_12 zFu x1 127 x0.toInt64) fun e2 =>
    if ¬ x1.toInt64 = 0 then
    if (0 : Int32) < (lg_cmp (2 * ((e2.2 * 8388608) - (e2.2 * 8388608) / x1.toInt64 * x1.toInt64)) x1.toInt64) then (
      some ((e2.1 <<< (23 &&& 31)) + (((((e2.2 * 8388608) / x1.toInt64) + 1) - 8388608).toInt32))
    ) else (
      if (lg_cmp (2 * ((e2.2 * 8388608) - (e2.2 * 8388608) / x1.toInt64 * x1.toInt64)) x1.toInt64) = 0 then (
        if (lg_cmp (((e2.2 * 8388608) / x1.toInt64) - ((e2.2 * 8388608) / x1.toInt64) / 2 * 2) 1) = 0 then (
          some ((e2.1 <<< (23 &&& 31)) + (((((e2.2 * 8388608) / x1.toInt64) + 1) - 8388608).toInt32))
        ) else (
          some ((e2.1 <<< (23 &&& 31)) + ((((e2.2 * 8388608) / x1.toInt64) - 8388608).toInt32))
        )
      ) else (
        some ((e2.1 <<< (23 &&& 31)) + ((((e2.2 * 8388608) / x1.toInt64) - 8388608).toInt32))
      )
    )
    else none
  )
def f_X7_share_14 : Nat → zr → Int32 → Int32 → Int32 → Option (zr × Int32)
  | 0, _, _, _, _ => none
  | k + 1, s, x1, x2, x3 =>
    if (s 1 2) ≤ x3 then (
      some (s, x2)
    ) else (
      Option.bind (f_X7_touchedOn s x1) fun v2 =>
      Option.bind (f_X7_isTold s x3 v2) fun v3 =>
      if v3.1 = true then (
        zlt (x2 + 1 : Int32) fun y5 =>
        f_X7_share_14 k v3.2 x1 y5 (x3 + 1)
      ) else (
        zlt (x2 + 0 : Int32) fun y7 =>
        f_X7_share_14 k v3.2 x1 y7 (x3 + 1)
      )
    )
def f_X7_share (s : zr) (x1 : Int32) : Option (Int32 × zr) :=
  if f_X7_isDay x1 = true then (
    Option.bind (f_X7_share_14 zFu s x1 0 0) fun e2 =>
    if (e2.1 1 2) = 0 then (
      Option.bind (f_X7_floatBits 1 1) fun v4 =>
      some (v4, e2.1)
    ) else (
      Option.bind (f_X7_floatBits e2.2 (e2.1 1 2)) fun v5 =>
      some (v5, e2.1)
    )
  ) else (
    some ((-1000001), s)
  )
def f_X7_plant (s : zr) (x1 : Int32) : Option (Int32 × zr) :=
  if f_X7_isFaultOrNone s x1 = true then (
    Option.bind (f_X7_records s) fun v2 =>
    zlt (zm v2 1 6 x1) fun s3 =>
    zlt (zm s3 1 7 ((((1 : Int32) <<< ((s3 1 2) &&& 31)) - 1) ||| 1024)) fun s5 =>
    Option.bind (f_X7_ones (s5 1 7)) fun v7 =>
    some (v7, s5)
  ) else (
    some ((-1000001), s)
  )
def f_X7_test (s : zr) : Option (Int32 × zr) :=
  Option.bind (f_X7_records s) fun v1 =>
  Option.bind (f_X7_touchedNow v1) fun v2 =>
  Option.bind (f_X7_measures v1 v2) fun v3 =>
  Option.bind (f_X7_likeSet v3 (f_X7_slotOf (v3 1 6))) fun v4 =>
  zlt (zm v3 1 7 ((v3 1 7) &&& v4)) fun s5 =>
  zlt (zm s5 1 8 ((s5 1 8) + 1)) fun s7 =>
  Option.bind (f_X7_ones (s7 1 7)) fun v9 =>
  some (v9, s7)
def f_X7_vouch (s : zr) (x1 : Int32) : Option (Int32 × zr) :=
  if f_X7_isIn x1 0 15 = true then (
    Option.bind (f_X7_touchedNow s) fun v2 =>
    if f_X7_has v2 x1 = true then (
      some ((-1000002), s)
    ) else (
      if (s 1 4) = 0 then (
        some ((-1000003), s)
      ) else (
        Option.bind (f_X7_records s) fun v5 =>
        zlt (zm v5 1 5 ((v5 1 5) ||| ((1 : Int32) <<< (x1 &&& 31)))) fun s6 =>
        zlt (zm s6 1 4 ((s6 1 4) - 1)) fun s8 =>
        some (s8 1 4, s8)
      )
    )
  ) else (
    some ((-1000001), s)
  )
def f_X7_vouchers (s : zr) (x1 : Int32) : Option (Int32 × zr) :=
  if f_X7_isIn x1 0 20 = true then (
    Option.bind (f_X7_records s) fun v2 =>
    zlt (v2 1 4 : Int32) fun y3 =>
    zlt (zm v2 1 4 x1) fun s5 =>
    some (y3, s5)
  ) else (
    some ((-1000001), s)
  )
def f_X7_pass (s : zr) (x1 : Int32) : Option (Int32 × zr) :=
  if f_X7_isIn x1 1 60 = true then (
    if ((s 1 3) + x1) ≤ 10000 then (
      Option.bind (f_X7_records s) fun v3 =>
      zlt (zm v3 1 3 ((v3 1 3) + x1)) fun s4 =>
      zlt (zm s4 1 5 0) fun s6 =>
      some (f_X7_weekday s6, s6)
    ) else (
      some ((-1000003), s)
    )
  ) else (
    some ((-1000001), s)
  )
def f_X7_suspects (s : zr) : Int32 :=
  s 1 7
def f_X7_worstOn_13 : Nat → zr → Int32 → Int32 → Option (Int32)
  | 0, _, _, _ => none
  | k + 1, s, x2, x3 =>
    if (10 : Int32) < x3 then (
      some x2
    ) else (
      if f_X7_has (s 1 7) x3 = true then (
        Option.bind (f_X7_likeSet s x3) fun v3 =>
        Option.bind (f_X7_ones (v3 &&& (s 1 7))) fun v4 =>
        if v4 ≤ x2 then (
          f_X7_worstOn_13 k s x2 (x3 + 1)
        ) else (
          f_X7_worstOn_13 k s v4 (x3 + 1)
        )
      ) else (
        f_X7_worstOn_13 k s x2 (x3 + 1)
      )
    )
def f_X7_worstOn (s : zr) (x1 : Int32) : Option (Int32 × zr) :=
  Option.bind (f_X7_touchedOn s x1) fun v1 =>
  Option.bind (f_X7_measures s v1) fun v2 =>
  Option.bind (f_X7_worstOn_13 zFu v2 0 0) fun e3 =>
  some (e3, v2)
def f_X7_bestDay_26 : Nat → zr → Int32 → Int32 → Int32 → Int32 → Option (zr × Int32 × Int32)
  | 0, _, _, _, _, _ => none
  | k + 1, s, x1, x2, x3, x4 =>
    if (7 : Int32) ≤ x4 then (
      some (s, x2, x3)
    ) else (
      zlt (((f_X7_weekday s) + x4) - ((f_X7_weekday s) + x4) / 7 * 7 : Int32) fun y2 =>
      Option.bind (f_X7_worstOn s y2) fun v4 =>
      if x3 ≤ v4.1 then (
        f_X7_bestDay_26 k v4.2 x1 x2 x3 (x4 + 1)
      ) else (
        f_X7_bestDay_26 k v4.2 x1 y2 v4.1 (x4 + 1)
      )
    )
def f_X7_bestDay (s : zr) (x1 : Int32) : Option (Int32 × zr) :=
  if f_X7_isIn x1 0 1 = true then (
    zlt (f_X7_weekday s : Int32) fun y2 =>
    Option.bind (f_X7_worstOn s y2) fun v4 =>
    Option.bind (f_X7_bestDay_26 zFu v4.2 x1 y2 v4.1 1) fun e5 =>
    if x1 = 0 then (
      some (e5.2.1, e5.1)
    ) else (
      some (e5.2.2, e5.1)
    )
  ) else (
    some ((-1000001), s)
  )
def f_X7_inDrawer_4 : Nat → zr → Int32 → Int32 → Int32 → Option (Int32)
  | 0, _, _, _, _ => none
  | k + 1, s, x1, x2, x3 =>
    if (s 1 2) ≤ x3 then (
      some x2
    ) else (
      if zin ((62 : Int32) + x3) 88 = true then
      if (s 1 (((62 : Int32) + x3).toNatClampNeg)) = x1 then (
        zlt (x2 + 1 : Int32) fun y4 =>
        f_X7_inDrawer_4 k s x1 y4 (x3 + 1)
      ) else (
        zlt (x2 + 0 : Int32) fun y6 =>
        f_X7_inDrawer_4 k s x1 y6 (x3 + 1)
      )
      else none
    )
def f_X7_inDrawer (s : zr) (x1 : Int32) : Option Int32 :=
  Option.bind (f_X7_inDrawer_4 zFu s x1 0 0) fun e1 =>
  some e1
def f_X7_file (s : zr) (x1 : Int32) (x2 : Int32) : Option (Int32 × zr) :=
  if f_X7_isFault s x1 = true then (
    if f_X7_isIn x2 0 4 = true then (
      if zin ((62 : Int32) + x1) 88 = true then
      if (s 1 (((62 : Int32) + x1).toNatClampNeg)) = (-1) then (
        if zin ((32 : Int32) + x1) 88 = true then
        if (s 1 (((32 : Int32) + x1).toNatClampNeg)) = x2 then (
          Option.bind (f_X7_inDrawer s x2) fun v7 =>
          if v7 = 3 then (
            some ((-1000003), s)
          ) else (
            Option.bind (f_X7_records s) fun v9 =>
            zlt (zm v9 1 (((62 : Int32) + x1).toNatClampNeg) x2) fun s10 =>
            Option.bind (f_X7_inDrawer s10 x2) fun v12 =>
            some (v12, s10)
          )
        ) else (
          some ((-1000002), s)
        )
        else none
      ) else (
        some ((-1000002), s)
      )
      else none
    ) else (
      some ((-1000001), s)
    )
  ) else (
    some ((-1000001), s)
  )
def f_X7_count (s : zr) (x1 : Int32) : Option Int32 :=
  if x1 = 0 then (
    some (s 1 0)
  ) else (
    if x1 = 1 then (
      some (s 1 1)
    ) else (
      if x1 = 2 then (
        some (s 1 2)
      ) else (
        if x1 = 3 then (
          some (s 1 3)
        ) else (
          if x1 = 4 then (
            some (f_X7_weekday s)
          ) else (
            if x1 = 5 then (
              some (s 1 4)
            ) else (
              if x1 = 6 then (
                Option.bind (f_X7_touchedNow s) fun v12 =>
                Option.bind (f_X7_ones v12) fun v13 =>
                some v13
              ) else (
                if x1 = 7 then (
                  Option.bind (f_X7_touchedNow s) fun v14 =>
                  Option.bind (f_X7_reachedBy s (-1) v14) fun v15 =>
                  Option.bind (f_X7_ones v15) fun v16 =>
                  some v16
                ) else (
                  if x1 = 8 then (
                    some (s 1 8)
                  ) else (
                    if x1 = 9 then (
                      some (s 0 3)
                    ) else (
                      if x1 = 10 then (
                        some (s 0 7)
                      ) else (
                        if f_X7_isIn x1 11 15 = true then (
                          Option.bind (f_X7_inDrawer s (x1 - 11)) fun v18 =>
                          some v18
                        ) else (
                          some (-1000001)
                        )
                      )
                    )
                  )
                )
              )
            )
          )
        )
      )
    )
  )
def f_X7_type (s : zr) (x1 : Int32) : Option (Int32 × zr) :=
  if f_X7_isIn x1 32 126 = true then (
    if (s 0 7) = 100 then (
      some ((-1000003), s)
    ) else (
      if zin (s 0 7) 100 = true then
      zlt (zm s 6 ((s 0 7).toNatClampNeg) x1) fun s4 =>
      zlt (zm s4 0 7 ((s4 0 7) + 1)) fun s6 =>
      some (s6 0 7, s6)
      else none
    )
  ) else (
    some ((-1000001), s)
  )
def f_X7_clearText (s : zr) : Option (Int32 × zr) :=
  zlt (s 0 7 : Int32) fun y1 =>
  zlt (zm s 0 7 0) fun s3 =>
  some (y1, s3)
def f_X7_isHere (s : zr) (x1 : Int32) (x2 : Int32) : Option Bool :=
  if (s 0 7) ≤ (s 0 8) then (
    some false
  ) else (
    if zin (s 0 8) 100 = true then
    if f_X7_isIn (s 6 ((s 0 8).toNatClampNeg)) x1 x2 = true then (
      some true
    ) else (
      some false
    )
    else none
  )
def f_X7_passesSpaces_0 : Nat → zr → Option (zr)
  | 0, _ => none
  | k + 1, s =>
    Option.bind (f_X7_isHere s 32 32) fun v1 =>
    if v1 = true then (
      zlt (zm s 0 8 ((s 0 8) + 1)) fun s3 =>
      f_X7_passesSpaces_0 k s3
    ) else (
      some s
    )
def f_X7_passesSpaces (s : zr) : Option zr :=
  Option.bind (f_X7_passesSpaces_0 zFu s) fun e1 =>
  some e1
def f_X7_isEnded (s : zr) : Option Bool :=
  Option.bind (f_X7_isHere s 32 32) fun v1 =>
  if v1 = true then (
    some true
  ) else (
    Option.bind (f_X7_isHere s 59 59) fun v3 =>
    if v3 = true then (
      some true
    ) else (
      some false
    )
  )
def f_X7_readsWord_4 : Nat → zr → Int32 → Int32 → Option (zr × Int32 × Int32)
  | 0, _, _, _ => none
  | k + 1, s, x1, x2 =>
    Option.bind (f_X7_isHere s 97 122) fun v1 =>
    if v1 = true then (
      if (5 : Int32) ≤ x2 then (
        zlt (zm s 0 8 ((s 0 8) + 1)) fun s4 =>
        f_X7_readsWord_4 k s4 0 (x2 + 1)
      ) else (
        if zin (s 0 8) 100 = true then
        zlt (((((27 : Int32) * x1) + (s 6 ((s 0 8).toNatClampNeg))) - 97) + 1 : Int32) fun y7 =>
        zlt (zm s 0 8 ((s 0 8) + 1)) fun s9 =>
        f_X7_readsWord_4 k s9 y7 (x2 + 1)
        else none
      )
    ) else (
      some (s, x1, x2)
    )
def f_X7_readsWord (s : zr) : Option (Int32 × zr) :=
  Option.bind (f_X7_readsWord_4 zFu s 0 0) fun e1 =>
  if e1.2.2 ≤ 5 then (
    some (e1.2.1, e1.1)
  ) else (
    some (0, e1.1)
  )
def f_X7_readsNumber_4 : Nat → zr → Int32 → Int32 → Option (zr × Int32)
  | 0, _, _, _ => none
  | k + 1, s, x1, x2 =>
    if (2 : Int32) ≤ x2 then (
      some (s, x1)
    ) else (
      Option.bind (f_X7_isHere s 48 57) fun v2 =>
      if v2 = true then (
        if x1 = (-1) then (
          if zin (s 0 8) 100 = true then
          zlt (((0 : Int32) + (s 6 ((s 0 8).toNatClampNeg))) - 48 : Int32) fun y6 =>
          zlt (zm s 0 8 ((s 0 8) + 1)) fun s8 =>
          f_X7_readsNumber_4 k s8 y6 (x2 + 1)
          else none
        ) else (
          if zin (s 0 8) 100 = true then
          zlt ((((10 : Int32) * x1) + (s 6 ((s 0 8).toNatClampNeg))) - 48 : Int32) fun y11 =>
          zlt (zm s 0 8 ((s 0 8) + 1)) fun s13 =>
          f_X7_readsNumber_4 k s13 y11 (x2 + 1)
          else none
        )
      ) else (
        some (s, x1)
      )
    )
def f_X7_readsNumber (s : zr) : Option (Int32 × zr) :=
  Option.bind (f_X7_readsNumber_4 zFu s (-1) 0) fun e1 =>
  Option.bind (f_X7_isEnded e1.1) fun v2 =>
  if v2 = true then (
    some (e1.2, e1.1)
  ) else (
    some ((-1), e1.1)
  )
def f_X7_readsCommand_33 : Nat → zr → Option ((zr) ⊕ (Bool × zr))
  | 0, _ => none
  | k + 1, s =>
    Option.bind (f_X7_isHere s 59 59) fun v1 =>
    if v1 = true then (
      some (Sum.inl s)
    ) else (
      Option.bind (f_X7_readsNumber s) fun v3 =>
      if v3.1 = (-1) then (
        some (Sum.inr (false, v3.2))
      ) else (
        if (v3.2 0 10) = 9 then (
          some (Sum.inr (false, v3.2))
        ) else (
          if zin (v3.2 0 10) 9 = true then
          zlt (zm v3.2 7 ((v3.2 0 10).toNatClampNeg) v3.1) fun s7 =>
          zlt (zm s7 0 10 ((s7 0 10) + 1)) fun s9 =>
          Option.bind (f_X7_passesSpaces s9) fun v11 =>
          f_X7_readsCommand_33 k v11
          else none
        )
      )
    )
def f_X7_readsCommand (s : zr) : Option (Bool × zr) :=
  zlt (zm s 0 10 0) fun s1 =>
  Option.bind (f_X7_readsWord s1) fun v3 =>
  zlt (zm v3.2 0 9 v3.1) fun s4 =>
  if (s4 0 9) = 0 then (
    some (false, s4)
  ) else (
    Option.bind (f_X7_isEnded s4) fun v7 =>
    if v7 = true then (
      Option.bind (f_X7_passesSpaces s4) fun v9 =>
      Option.bind (f_X7_readsCommand_33 zFu v9) fun e10 => match e10 with
      | Sum.inr r13 => some r13
      | Sum.inl e10i =>
      zlt (zm e10i 0 8 ((e10i 0 8) + 1)) fun s14 =>
      some (true, s14)
    ) else (
      some (false, s4)
    )
  )
def f_X7_codeOf (x0 : Int32) (x1 : Int32) (x2 : Int32) (x3 : Int32) (x4 : Int32) : Int32 :=
  zlt (((((27 : Int32) * (((((27 : Int32) * ((x0 - 97) + 1)) + x1) - 97) + 1)) + x2) - 97) + 1 : Int32) fun y1 =>
  if x3 = 32 then (
    if x4 = 32 then (
      y1
    ) else (
      ((((27 : Int32) * y1) + x4) - 97) + 1
    )
  ) else (
    zlt (((((27 : Int32) * y1) + x3) - 97) + 1 : Int32) fun y5 =>
    if x4 = 32 then (
      y5
    ) else (
      ((((27 : Int32) * y5) + x4) - 97) + 1
    )
  )
def f_X7_commandKind (s : zr) : Int32 :=
  if (s 0 9) = (f_X7_codeOf 111 112 101 110 32) then (
    0
  ) else (
    if (s 0 9) = (f_X7_codeOf 115 104 111 114 116) then (
      1
    ) else (
      if (s 0 9) = (f_X7_codeOf 108 111 119 32 32) then (
        2
      ) else (
        if (s 0 9) = (f_X7_codeOf 104 105 103 104 32) then (
          3
        ) else (
          if (s 0 9) = (f_X7_codeOf 100 101 97 100 32) then (
            4
          ) else (
            if (s 0 9) = (f_X7_codeOf 110 101 116 32 32) then (
              5
            ) else (
              if (s 0 9) = (f_X7_codeOf 99 104 105 112 32) then (
                6
              ) else (
                if (s 0 9) = (f_X7_codeOf 98 108 101 115 115) then (
                  7
                ) else (
                  (-1)
                )
              )
            )
          )
        )
      )
    )
  )
def f_X7_areUnlike_14 : Nat → zr → Int32 → Int32 → Option ((Unit) ⊕ (Bool))
  | 0, _, _, _ => none
  | k + 1, s, x2, x3 =>
    if (s 0 10) ≤ x3 then (
      some (Sum.inl ())
    ) else (
      if zin x2 9 = true then
      if zin x3 9 = true then
      if (s 7 x2.toNatClampNeg) = (s 7 x3.toNatClampNeg) then (
        some (Sum.inr false)
      ) else (
        f_X7_areUnlike_14 k s x2 (x3 + 1)
      )
      else none
      else none
    )
def f_X7_areUnlike_2 : Nat → zr → Int32 → Option ((Unit) ⊕ (Bool))
  | 0, _, _ => none
  | k + 1, s, x2 =>
    if (s 0 10) ≤ x2 then (
      some (Sum.inl ())
    ) else (
      zlt (x2 + 1 : Int32) fun y2 =>
      Option.bind (f_X7_areUnlike_14 zFu s x2 y2) fun e4 => match e4 with
      | Sum.inr r5 => some (Sum.inr r5)
      | Sum.inl e4i =>
      f_X7_areUnlike_2 k s (x2 + 1)
    )
def f_X7_areUnlike (s : zr) (x1 : Int32) : Option Bool :=
  Option.bind (f_X7_areUnlike_2 zFu s x1) fun e1 => match e1 with
  | Sum.inr r2 => some r2
  | Sum.inl e1i =>
  some true
def f_X7_isOfForm (s : zr) (x1 : Int32) : Option Bool :=
  if x1 = 1 then (
    if (s 0 10) = 2 then (
      Option.bind (f_X7_areUnlike s 0) fun v9 =>
      if v9 = true then (
        some true
      ) else (
        some false
      )
    ) else (
      some false
    )
  ) else (
    if x1 = 2 then (
      if x1 = (-1) then (
        some false
      ) else (
        if (s 0 10) = 1 then (
          some true
        ) else (
          some false
        )
      )
    ) else (
      if x1 = 3 then (
        if x1 = (-1) then (
          some false
        ) else (
          if (s 0 10) = 1 then (
            some true
          ) else (
            some false
          )
        )
      ) else (
        if x1 = 4 then (
          if x1 = (-1) then (
            some false
          ) else (
            if (s 0 10) = 1 then (
              some true
            ) else (
              some false
            )
          )
        ) else (
          if x1 = 5 then (
            if f_X7_isIn (s 0 10) 2 5 = true then (
              Option.bind (f_X7_areUnlike s 0) fun v18 =>
              if v18 = true then (
                some true
              ) else (
                some false
              )
            ) else (
              some false
            )
          ) else (
            if x1 = 6 then (
              if f_X7_isIn (s 0 10) 2 7 = true then (
                Option.bind (f_X7_areUnlike s 0) fun v21 =>
                if v21 = true then (
                  some true
                ) else (
                  some false
                )
              ) else (
                some false
              )
            ) else (
              if x1 = 7 then (
                if f_X7_isIn (s 0 10) 1 8 = true then (
                  Option.bind (f_X7_areUnlike s 1) fun v24 =>
                  if v24 = true then (
                    some true
                  ) else (
                    some false
                  )
                ) else (
                  some false
                )
              ) else (
                if x1 = (-1) then (
                  some false
                ) else (
                  if (s 0 10) = 1 then (
                    some true
                  ) else (
                    some false
                  )
                )
              )
            )
          )
        )
      )
    )
  )
def f_X7_areThere_21 : Nat → zr → Int32 → Int32 → Bool → Int32 → Option (Bool)
  | 0, _, _, _, _, _ => none
  | k + 1, s, x1, x2, x3, x4 =>
    if (s 0 10) ≤ x4 then (
      some x3
    ) else (
      if x3 = true then (
        if zin x4 9 = true then
        if x1 = 7 then (
          if x4 ≤ 0 then (
            if x2 ≤ (s 7 x4.toNatClampNeg) then (
              f_X7_areThere_21 k s x1 x2 false (x4 + 1)
            ) else (
              f_X7_areThere_21 k s x1 x2 true (x4 + 1)
            )
          ) else (
            if (7 : Int32) ≤ (s 7 x4.toNatClampNeg) then (
              f_X7_areThere_21 k s x1 x2 false (x4 + 1)
            ) else (
              f_X7_areThere_21 k s x1 x2 true (x4 + 1)
            )
          )
        ) else (
          if x2 ≤ (s 7 x4.toNatClampNeg) then (
            f_X7_areThere_21 k s x1 x2 false (x4 + 1)
          ) else (
            f_X7_areThere_21 k s x1 x2 true (x4 + 1)
          )
        )
        else none
      ) else (
        f_X7_areThere_21 k s x1 x2 false (x4 + 1)
      )
    )
def f_X7_areThere (s : zr) (x1 : Int32) : Option Bool :=
  if (5 : Int32) ≤ x1 then (
    Option.bind (f_X7_areThere_21 zFu s x1 16 true 0) fun e2 =>
    some e2
  ) else (
    zlt (f_X7_manyOf s x1 : Int32) fun y3 =>
    Option.bind (f_X7_areThere_21 zFu s x1 y3 true 0) fun e5 =>
    some e5
  )
def f_X7_numberSet_4 : Nat → zr → Int32 → Int32 → Option (Int32)
  | 0, _, _, _ => none
  | k + 1, s, x2, x3 =>
    if (s 0 10) ≤ x3 then (
      some x2
    ) else (
      if zin x3 9 = true then
      zlt (x2 ||| ((1 : Int32) <<< ((s 7 x3.toNatClampNeg) &&& 31)) : Int32) fun y3 =>
      f_X7_numberSet_4 k s y3 (x3 + 1)
      else none
    )
def f_X7_numberSet (s : zr) (x1 : Int32) : Option Int32 :=
  Option.bind (f_X7_numberSet_4 zFu s 0 x1) fun e1 =>
  some e1
def f_X7_does (s : zr) (x1 : Int32) : Option (Int32 × zr) :=
  if x1 = 7 then (
    Option.bind (f_X7_numberSet s 1) fun v2 =>
    if zin ((72 : Int32) + (s 7 0)) 88 = true then
    zlt (zm s 1 (((72 : Int32) + (s 7 0)).toNatClampNeg) v2) fun s4 =>
    some (0, s4)
    else none
  ) else (
    if x1 = 5 then (
      Option.bind (f_X7_numberSet s 0) fun v7 =>
      Option.bind (f_X7_checksNet s v7) fun v8 =>
      if v8 = 0 then (
        Option.bind (f_X7_numberSet s 0) fun v10 =>
        Option.bind (f_X7_addsNet s v10) fun v11 =>
        some (v11.1, v11.2)
      ) else (
        some (v8, s)
      )
    ) else (
      if x1 = 6 then (
        Option.bind (f_X7_numberSet s 2) fun v13 =>
        Option.bind (f_X7_checksChip s (s 7 0) (s 7 1) v13) fun v14 =>
        if v14 = 0 then (
          Option.bind (f_X7_numberSet s 2) fun v16 =>
          Option.bind (f_X7_addsChip s (s 7 0) (s 7 1) v16) fun v17 =>
          some (v17.1, v17.2)
        ) else (
          some (v14, s)
        )
      ) else (
        zlt (s 7 0 : Int32) fun y18 =>
        if x1 = 1 then (
          if (s 7 1) ≤ (s 7 0) then (
            zlt (s 7 0 : Int32) fun y22 =>
            zlt (s 7 1 : Int32) fun y24 =>
            Option.bind (f_X7_checksFault s x1 y24 y22) fun v26 =>
            if v26 = 0 then (
              Option.bind (f_X7_addsFault s x1 y24 y22) fun v28 =>
              some (v28.1, v28.2)
            ) else (
              some (v26, s)
            )
          ) else (
            zlt (s 7 1 : Int32) fun y29 =>
            zlt (s 7 0 : Int32) fun y31 =>
            Option.bind (f_X7_checksFault s x1 y31 y29) fun v33 =>
            if v33 = 0 then (
              Option.bind (f_X7_addsFault s x1 y31 y29) fun v35 =>
              some (v35.1, v35.2)
            ) else (
              some (v33, s)
            )
          )
        ) else (
          Option.bind (f_X7_checksFault s x1 y18 0) fun v36 =>
          if v36 = 0 then (
            Option.bind (f_X7_addsFault s x1 y18 0) fun v38 =>
            some (v38.1, v38.2)
          ) else (
            some (v36, s)
          )
        )
      )
    )
  )
def f_X7_reasonOf (s : zr) : Option (Int32 × zr) :=
  Option.bind (f_X7_readsCommand s) fun v1 =>
  if v1.1 = true then (
    zlt (f_X7_commandKind v1.2 : Int32) fun y3 =>
    Option.bind (f_X7_isOfForm v1.2 y3) fun v5 =>
    if v5 = true then (
      Option.bind (f_X7_areThere v1.2 y3) fun v7 =>
      if v7 = true then (
        Option.bind (f_X7_does v1.2 y3) fun v9 =>
        if (0 : Int32) ≤ v9.1 then (
          some (0, v9.2)
        ) else (
          some (3, v9.2)
        )
      ) else (
        some (2, v1.2)
      )
    ) else (
      some (1, v1.2)
    )
  ) else (
    some (1, v1.2)
  )
def f_X7_goesThrough_24 : Nat → zr → Option (zr)
  | 0, _ => none
  | k + 1, s =>
    if (s 0 7) ≤ (s 0 8) then (
      some s
    ) else (
      if (s 0 14) = 0 then (
        zlt (s 0 8 : Int32) fun y3 =>
        Option.bind (f_X7_reasonOf s) fun v5 =>
        zlt (zm v5.2 0 14 v5.1) fun s6 =>
        if (s6 0 14) = 0 then (
          zlt (zm s6 0 13 (-1)) fun s9 =>
          if (s9 0 14) = 0 then (
            zlt (zm s9 0 12 ((s9 0 12) + 1)) fun s12 =>
            Option.bind (f_X7_passesSpaces s12) fun v14 =>
            f_X7_goesThrough_24 k v14
          ) else (
            zlt (zm s9 0 12 ((s9 0 12) + 0)) fun s15 =>
            Option.bind (f_X7_passesSpaces s15) fun v17 =>
            f_X7_goesThrough_24 k v17
          )
        ) else (
          zlt (zm s6 0 13 y3) fun s18 =>
          if (s18 0 14) = 0 then (
            zlt (zm s18 0 12 ((s18 0 12) + 1)) fun s21 =>
            Option.bind (f_X7_passesSpaces s21) fun v23 =>
            f_X7_goesThrough_24 k v23
          ) else (
            zlt (zm s18 0 12 ((s18 0 12) + 0)) fun s24 =>
            Option.bind (f_X7_passesSpaces s24) fun v26 =>
            f_X7_goesThrough_24 k v26
          )
        )
      ) else (
        some s
      )
    )
def f_X7_goesThrough (s : zr) : Option zr :=
  zlt (zm s 0 12 0) fun s1 =>
  zlt (zm s1 0 13 (-1)) fun s3 =>
  zlt (zm s3 0 14 0) fun s5 =>
  zlt (zm s5 0 8 0) fun s7 =>
  Option.bind (f_X7_passesSpaces s7) fun v9 =>
  Option.bind (f_X7_goesThrough_24 zFu v9) fun e10 =>
  some e10
def f_X7_triesAll_2 : Nat → zr → Int32 → Option (zr)
  | 0, _, _ => none
  | k + 1, s, x1 =>
    if (88 : Int32) ≤ x1 then (
      some s
    ) else (
      if zin x1 88 = true then
      zlt (zm s 3 x1.toNatClampNeg (s 1 x1.toNatClampNeg)) fun s3 =>
      f_X7_triesAll_2 k s3 (x1 + 1)
      else none
    )
def f_X7_triesAll_32 : Nat → zr → Int32 → Option (zr)
  | 0, _, _ => none
  | k + 1, s, x1 =>
    if (88 : Int32) ≤ x1 then (
      some s
    ) else (
      if zin x1 88 = true then
      zlt (zm s 1 x1.toNatClampNeg (s 3 x1.toNatClampNeg)) fun s3 =>
      f_X7_triesAll_32 k s3 (x1 + 1)
      else none
    )
def f_X7_triesAll (s : zr) : Option zr :=
  Option.bind (f_X7_triesAll_2 zFu s 0) fun e1 =>
  Option.bind (f_X7_goesThrough e1) fun v2 =>
  Option.bind (f_X7_triesAll_32 zFu v2 0) fun e3 =>
  some e3
def f_X7_place (s : zr) (x1 : Int32) : Option (Int32 × zr) :=
  if f_X7_isIn x1 0 1 = true then (
    Option.bind (f_X7_triesAll s) fun v2 =>
    if (v2 0 14) = 0 then (
      some ((-1000004), v2)
    ) else (
      if x1 = 0 then (
        some (v2 0 13, v2)
      ) else (
        some (v2 0 14, v2)
      )
    )
  ) else (
    some ((-1000001), s)
  )
def f_X7_run (s : zr) : Option (Int32 × zr) :=
  Option.bind (f_X7_triesAll s) fun v1 =>
  if (v1 0 14) = 0 then (
    Option.bind (f_X7_records v1) fun v3 =>
    Option.bind (f_X7_goesThrough v3) fun v4 =>
    some (v4 0 12, v4)
  ) else (
    some ((-1000002), v1)
  )
