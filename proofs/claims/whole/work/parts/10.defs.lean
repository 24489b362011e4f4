def f_X10_isWithin (σ : St) (a1 : Int32) (a2 : Int32) (a3 : Int32) : Option (Int32 × St) :=
  if a1 < a2 then (
    some (0, σ)
  ) else (
    if a3 < a1 then (
      some (0, σ)
    ) else (
      some (1, σ)
    )
  )
def f_X7_isFull (σ : St) : Option (Int32 × St) :=
  if (σ 1 1) < 160 then (
    some (0, σ)
  ) else (
    some (1, σ)
  )
def f_X7_append_p30 (σ : St) : Option (Int32 × St) :=
  some (σ 1 1, σ)
def f_X7_append (σ : St) (a1 : Int32) : Option (Int32 × St) :=
  if 160 ≤ (σ 1 1) then (
    f_X7_append_p30 σ
  ) else (
    if 0 ≤ (σ 1 1 : Int32).toInt ∧ (σ 1 1 : Int32).toInt < 160 then (
    Option.bind (some (g_u2 σ 13 ((σ 1 1).toNatClampNeg) (a1))) fun σ9 =>
    Option.bind (some (g_u2 σ9 1 1 ((σ9 1 1) + 1))) fun σ11 =>
    f_X7_append_p30 σ11
    ) else none
  )
def f_X10_feed (σ : St) (a1 : Int32) : Option (Int32 × St) :=
  Option.bind (f_X10_isWithin σ (a1) (0) (255)) fun q9 =>
  if q9.1 = 0 then (
    some ((-1000001), q9.2)
  ) else (
    Option.bind (f_X7_isFull q9.2) fun q12 =>
    if q12.1 = 0 then (
      Option.bind (f_X7_append q12.2 (a1)) fun q15 =>
      some (q15.1, q15.2)
    ) else (
      some ((-1000003), q12.2)
    )
  )
def f_X6_countHeights (ka : Nat) (σ : St) (a1 : Int32) : Option (St) :=
  Option.bind (some (g_u2 σ ka 75 (if 0 < (if 6 < a1 then 6 else a1) then (if 6 < a1 then 6 else a1) else 0))) fun σ3 =>
  some σ3
def f_X6_countThings (ka : Nat) (σ : St) (a1 : Int32) : Option (St) :=
  Option.bind (some (g_u2 σ ka 76 (if 0 < (if 8 < a1 then 8 else a1) then (if 8 < a1 then 8 else a1) else 0))) fun σ3 =>
  some σ3
def f_X6_countLegs (ka : Nat) (σ : St) (a1 : Int32) : Option (St) :=
  Option.bind (some (g_u2 σ ka 77 (if 0 < (if 6 < a1 then 6 else a1) then (if 6 < a1 then 6 else a1) else 0))) fun σ3 =>
  some σ3
def f_X7_byteAt (σ : St) (a1 : Int32) : Option (Int32 × St) :=
  if a1 < 0 then (
    some ((-1), σ)
  ) else (
    if (σ 1 1) ≤ a1 then (
      some ((-1), σ)
    ) else (
      if 160 ≤ a1 then (
        some ((-1), σ)
      ) else (
        if 0 ≤ (a1 : Int32).toInt ∧ (a1 : Int32).toInt < 160 then (
        some (σ 13 (a1).toNatClampNeg, σ)
        ) else none
      )
    )
  )
def f_X5_faultHere (σ : St) (a1 : Int32) : Option (Int32 × St) :=
  Option.bind (some (g_u2 σ 3 1 (a1))) fun σ5 =>
  Option.bind (some (g_u2 σ5 3 2 (σ5 3 4))) fun σ7 =>
  some (0, σ7)
def f_X5_readByte (σ : St) (a1 : Int32) : Option (Int32 × St) :=
  Option.bind (f_X7_byteAt σ (σ 3 4)) fun q9 =>
  if q9.1 = a1 then (
    Option.bind (some (g_u2 q9.2 3 4 ((q9.2 3 4) + 1))) fun σ12 =>
    some (1, σ12)
  ) else (
    Option.bind (f_X5_faultHere q9.2 (1)) fun q14 =>
    if q14.1 = 0 ∨ q14.1 = 1 then some (q14.1, q14.2) else none
  )
def f_X5_isFigure (σ : St) (a1 : Int32) : Option (Int32 × St) :=
  if a1 < 48 then (
    some (0, σ)
  ) else (
    if 57 < a1 then (
      some (0, σ)
    ) else (
      some (1, σ)
    )
  )
def f_X5_readNumber_p86 (σ : St) : Option (Int32 × St) :=
  Option.bind (f_X5_faultHere σ (2)) fun q25 =>
  if q25.1 = 0 ∨ q25.1 = 1 then some (q25.1, q25.2) else none
def f_X5_readNumber_p68 (σ : St) : Option (Int32 × St) :=
  Option.bind (f_X5_faultHere σ (1)) fun q28 =>
  if q28.1 = 0 ∨ q28.1 = 1 then some (q28.1, q28.2) else none
def f_X5_readNumber_p59 (σ : St) (x1 : Int32) (x2 : Int32) (x3 : Int32) (x4 : Int32) : Option (Int32 × St) :=
  if x3 = 0 then (
    f_X5_readNumber_p68 σ
  ) else (
    if x3 ≤ 2 then (
      if x4 < x1 then (
        f_X5_readNumber_p86 σ
      ) else (
        if x4 ≤ x2 then (
          Option.bind (some (g_u2 σ 3 4 ((σ 3 4) + x3))) fun σ35 =>
          Option.bind (some (g_u2 σ35 3 5 (x4))) fun σ37 =>
          some (1, σ37)
        ) else (
          f_X5_readNumber_p86 σ
        )
      )
    ) else (
      f_X5_readNumber_p68 σ
    )
  )
def F_X5_readNumber_h5 (k5 : St → Int32 → Int32 → Int32 → Int32 → Option (Int32 × St)) (σ : St) (x1 : Int32) (x2 : Int32) (x3 : Int32) (x4 : Int32) : Option (Int32 × St) :=
  if 2 < x3 then (
    f_X5_readNumber_p59 σ (x1) (x2) (x3) (x4)
  ) else (
    Option.bind (f_X7_byteAt σ ((σ 3 4) + x3)) fun q40 =>
    Option.bind (f_X5_isFigure q40.2 (q40.1)) fun q42 =>
    if q42.1 = 0 then (
      f_X5_readNumber_p59 q42.2 (x1) (x2) (x3) (x4)
    ) else (
      Option.bind (f_X7_byteAt q42.2 ((q42.2 3 4) + x3)) fun q45 =>
      Option.bind (some (((x4 * 10) + q45.1) - 48)) fun y47 =>
      Option.bind (some (x3 + 1)) fun y49 =>
      k5 q45.2 (x1) (x2) (y49) (y47)
    )
  )
def z_X5_readNumber_h5 : St → Int32 → Int32 → Int32 → Int32 → Option (Int32 × St) := fun _ _ _ _ _ => none
def f_X5_readNumber (σ : St) (a1 : Int32) (a2 : Int32) : Option (Int32 × St) :=
  fx (F_X5_readNumber_h5) z_X5_readNumber_h5 FU σ (a1) (a2) (0) (0)
def f_X6_shipCell (ka : Nat) (σ : St) (a1 : Int32) : Option (Int32 × St) :=
  if a1 < 0 then (
    some (0, σ)
  ) else (
    if 5 ≤ a1 then (
      some (0, σ)
    ) else (
      if 0 ≤ (a1 : Int32).toInt ∧ (a1 : Int32).toInt < 78 then (
      some (σ ka (a1).toNatClampNeg, σ)
      ) else none
    )
  )
def f_X6_putShipCell_p22 (ka : Nat) (σ : St) (x3 : Int32) : Option (Int32 × St) :=
  some (x3, σ)
def f_X6_putShipCell (ka : Nat) (σ : St) (a1 : Int32) (a2 : Int32) : Option (Int32 × St) :=
  Option.bind (f_X6_shipCell ka σ (a1)) fun q8 =>
  if a1 < 0 then (
    f_X6_putShipCell_p22 ka q8.2 (q8.1)
  ) else (
    if 5 ≤ a1 then (
      f_X6_putShipCell_p22 ka q8.2 (q8.1)
    ) else (
      if 0 ≤ (a1 : Int32).toInt ∧ (a1 : Int32).toInt < 78 then (
      Option.bind (some (g_u2 q8.2 ka ((a1).toNatClampNeg) (a2))) fun σ13 =>
      f_X6_putShipCell_p22 ka σ13 (q8.1)
      ) else none
    )
  )
def f_X5_readShipCell (σ : St) (a1 : Int32) (a2 : Int32) : Option (Int32 × St) :=
  Option.bind (f_X5_readNumber σ (0) (a2)) fun q6 =>
  if q6.1 = 0 then (
    some (0, q6.2)
  ) else (
    Option.bind (f_X6_putShipCell 17 q6.2 (a1) (q6.2 3 5)) fun q9 =>
    some (1, q9.2)
  )
def f_X5_readShip (σ : St) : Option (Int32 × St) :=
  Option.bind (f_X5_readByte σ (104)) fun q22 =>
  if q22.1 = 0 then (
    some (0, q22.2)
  ) else (
    Option.bind (f_X5_readShipCell q22.2 (0) (20)) fun q25 =>
    if q25.1 = 0 then (
      some (0, q25.2)
    ) else (
      Option.bind (f_X5_readByte q25.2 (44)) fun q28 =>
      if q28.1 = 0 then (
        some (0, q28.2)
      ) else (
        Option.bind (f_X5_readShipCell q28.2 (1) (60)) fun q31 =>
        if q31.1 = 0 then (
          some (0, q31.2)
        ) else (
          Option.bind (f_X5_readByte q31.2 (44)) fun q34 =>
          if q34.1 = 0 then (
            some (0, q34.2)
          ) else (
            Option.bind (f_X5_readShipCell q34.2 (2) (60)) fun q37 =>
            if q37.1 = 0 then (
              some (0, q37.2)
            ) else (
              Option.bind (f_X5_readByte q37.2 (59)) fun q40 =>
              if q40.1 = 0 then (
                some (0, q40.2)
              ) else (
                some (1, q40.2)
              )
            )
          )
        )
      )
    )
  )
def f_X6_heightCell (ka : Nat) (σ : St) (a1 : Int32) : Option (Int32 × St) :=
  if a1 < 0 then (
    some (0, σ)
  ) else (
    if 6 ≤ a1 then (
      some (0, σ)
    ) else (
      if 0 ≤ (5 + a1 : Int32).toInt ∧ (5 + a1 : Int32).toInt < 78 then (
      some (σ ka (5 + a1).toNatClampNeg, σ)
      ) else none
    )
  )
def f_X6_putHeightCell_p25 (ka : Nat) (σ : St) (x3 : Int32) : Option (Int32 × St) :=
  some (x3, σ)
def f_X6_putHeightCell (ka : Nat) (σ : St) (a1 : Int32) (a2 : Int32) : Option (Int32 × St) :=
  Option.bind (f_X6_heightCell ka σ (a1)) fun q8 =>
  if a1 < 0 then (
    f_X6_putHeightCell_p25 ka q8.2 (q8.1)
  ) else (
    if 6 ≤ a1 then (
      f_X6_putHeightCell_p25 ka q8.2 (q8.1)
    ) else (
      if 0 ≤ (5 + a1 : Int32).toInt ∧ (5 + a1 : Int32).toInt < 78 then (
      Option.bind (some (g_u2 q8.2 ka ((5 + a1).toNatClampNeg) (a2))) fun σ13 =>
      f_X6_putHeightCell_p25 ka σ13 (q8.1)
      ) else none
    )
  )
def f_X5_readTide_p110 (σ : St) : Option (Int32 × St) :=
  Option.bind (f_X5_readByte σ (59)) fun q25 =>
  if q25.1 = 0 ∨ q25.1 = 1 then some (q25.1, q25.2) else none
def f_X5_readTide_p104 (k15 : St → Int32 → Int32 → Option (Int32 × St)) (σ : St) (x1 : Int32) (x2 : Int32) : Option (Int32 × St) :=
  Option.bind (some (x2 + 1)) fun y28 =>
  k15 σ (x1) (y28)
def f_X5_readTide_p89 (k15 : St → Int32 → Int32 → Option (Int32 × St)) (σ : St) (x2 : Int32) (t0 : Int32) : Option (Int32 × St) :=
  if t0 = 0 then (
    f_X5_readTide_p104 k15 σ (t0) (x2)
  ) else (
    Option.bind (some (g_u2 σ 3 4 ((σ 3 4) + 1))) fun σ31 =>
    f_X5_readTide_p104 k15 σ31 (t0) (x2)
  )
def f_X5_readTide_p88 (k15 : St → Int32 → Int32 → Option (Int32 × St)) (σ : St) (x2 : Int32) : Option (Int32 × St) :=
  f_X5_readTide_p89 k15 σ (x2) (0)
def F_X5_readTide_h15 (k15 : St → Int32 → Int32 → Option (Int32 × St)) (σ : St) (x1 : Int32) (x2 : Int32) : Option (Int32 × St) :=
  if 6 ≤ x2 then (
    f_X5_readTide_p110 σ
  ) else (
    if x1 = 0 then (
      f_X5_readTide_p110 σ
    ) else (
      Option.bind (f_X5_readNumber σ (0) (20)) fun q35 =>
      if q35.1 = 0 then (
        some (0, q35.2)
      ) else (
        Option.bind (f_X6_putHeightCell 17 q35.2 (x2) (q35.2 3 5)) fun q38 =>
        Option.bind (f_X6_countHeights 17 q38.2 (x2 + 1)) fun q40 =>
        if 6 ≤ (x2 + 1) then (
          f_X5_readTide_p88 k15 q40 (x2)
        ) else (
          Option.bind (f_X7_byteAt q40 (q40 3 4)) fun q43 =>
          if q43.1 = 44 then (
            f_X5_readTide_p89 k15 q43.2 (x2) (1)
          ) else (
            f_X5_readTide_p88 k15 q43.2 (x2)
          )
        )
      )
    )
  )
def z_X5_readTide_h15 : St → Int32 → Int32 → Option (Int32 × St) := fun _ _ _ => none
def f_X5_readTide (σ : St) : Option (Int32 × St) :=
  Option.bind (f_X5_readByte σ (116)) fun q46 =>
  if q46.1 = 0 then (
    some (0, q46.2)
  ) else (
    fx (F_X5_readTide_h15) z_X5_readTide_h15 FU q46.2 (1) (0)
  )
def f_X5_readHarbour (σ : St) : Option (Int32 × St) :=
  Option.bind (f_X5_readByte σ (122)) fun q16 =>
  if q16.1 = 0 then (
    some (0, q16.2)
  ) else (
    Option.bind (f_X5_readShipCell q16.2 (3) (60)) fun q19 =>
    if q19.1 = 0 then (
      some (0, q19.2)
    ) else (
      Option.bind (f_X5_readByte q19.2 (44)) fun q22 =>
      if q22.1 = 0 then (
        some (0, q22.2)
      ) else (
        Option.bind (f_X5_readShipCell q22.2 (4) (60)) fun q25 =>
        if q25.1 = 0 then (
          some (0, q25.2)
        ) else (
          Option.bind (f_X5_readByte q25.2 (59)) fun q28 =>
          if q28.1 = 0 then (
            some (0, q28.2)
          ) else (
            some (1, q28.2)
          )
        )
      )
    )
  )
def f_J0_isLatin1_aae02 (σ : St) (a0 : Nat) : Option (Int32 × St) :=
  if (a0 : Nat) < 18 then (
  some (1, σ)
  ) else none
def f_J0_coder_7d493 (σ : St) (a0 : Nat) : Option (Int32 × St) :=
  if (a0 : Nat) < 18 then (
  some (0, σ)
  ) else none
def f_J0_length_8abf5 (σ : St) (a0 : Nat) : Option (Int32 × St) :=
  if (a0 : Nat) < 18 then (
  if (a0 : Nat) < 18 then (
  if (a0 : Nat) < 18 then (
  Option.bind (f_J0_coder_7d493 σ (a0)) fun q8 =>
  some ((Int32.ofNat (g_len.getD (a0) 0)) >>> (q8.1 &&& 31), q8.2)
  ) else none
  ) else none
  ) else none
def f_J1_canEncode_9a6ad (σ : St) (a1 : Int32) : Option (Int32 × St) :=
  if a1 < 0 then (
    some (0, σ)
  ) else (
    if 255 < a1 then (
      some (0, σ)
    ) else (
      some (1, σ)
    )
  )
def F_J1_indexOfChar_4cfef_h7 (k7 : St → Nat → Int32 → Int32 → Int32 → Option (Int32 × St)) (σ : St) (x0 : Nat) (x3 : Int32) (x4 : Int32) (x5 : Int32) : Option (Int32 × St) :=
  if x3 ≤ x5 then (
    some ((-1), σ)
  ) else (
    if (x0 : Nat) < 18 then (
    if 0 ≤ (x5 : Int32).toInt ∧ (x5 : Int32).toInt < ((g_len.getD (x0) 0 : Nat) : Int) then (
    if ((g_byt.getD (x0) []).getD (x5).toNatClampNeg 0) = x4 then (
      some (x5, σ)
    ) else (
      Option.bind (some (x5 + 1)) fun y11 =>
      k7 σ (x0) (x3) (x4) (y11)
    )
    ) else none
    ) else none
  )
def z_J1_indexOfChar_4cfef_h7 : St → Nat → Int32 → Int32 → Int32 → Option (Int32 × St) := fun _ _ _ _ _ => none
def f_J1_indexOfChar_4cfef (σ : St) (a1 : Nat) (a2 : Int32) (a3 : Int32) (a4 : Int32) : Option (Int32 × St) :=
  Option.bind (some ((a2 : Int32).toInt8.toInt32)) fun y13 =>
  fx (F_J1_indexOfChar_4cfef_h7) z_J1_indexOfChar_4cfef_h7 FU σ (a1) (a4) (y13) (a3)
def f_J1_indexOf_4cfef (σ : St) (a1 : Nat) (a2 : Int32) (a3 : Int32) (a4 : Int32) : Option (Int32 × St) :=
  Option.bind (f_J1_canEncode_9a6ad σ (a2)) fun q8 =>
  if q8.1 = 0 then (
    some ((-1), q8.2)
  ) else (
    Option.bind (some (if a3 < 0 then 0 else a3)) fun y11 =>
    if (a1 : Nat) < 18 then (
    Option.bind (some (if (Int32.ofNat (g_len.getD (a1) 0)) < a4 then (Int32.ofNat (g_len.getD (a1) 0)) else a4)) fun y14 =>
    if y11 < y14 then (
      Option.bind (f_J1_indexOfChar_4cfef q8.2 (a1) (a2) (y11) (y14)) fun q17 =>
      some (q17.1, q17.2)
    ) else (
      some ((-1), q8.2)
    )
    ) else none
  )
def f_J0_indexOf_7cf53 (σ : St) (a0 : Nat) (a1 : Int32) (a2 : Int32) : Option (Int32 × St) :=
  if (a0 : Nat) < 18 then (
  Option.bind (f_J0_isLatin1_aae02 σ (a0)) fun q15 =>
  if q15.1 = 0 then (
    if (a0 : Nat) < 18 then (
    if (a0 : Nat) < 18 then (
    Option.bind (f_J0_length_8abf5 q15.2 (a0)) fun q20 =>
    none
    ) else none
    ) else none
  ) else (
    if (a0 : Nat) < 18 then (
    if (a0 : Nat) < 18 then (
    Option.bind (f_J0_length_8abf5 q15.2 (a0)) fun q24 =>
    Option.bind (f_J1_indexOf_4cfef q24.2 (a0) (a1) (a2) (q24.1)) fun q27 =>
    some (q27.1, q27.2)
    ) else none
    ) else none
  )
  ) else none
def f_J0_indexOf_0f7a4 (σ : St) (a0 : Nat) (a1 : Int32) : Option (Int32 × St) :=
  if (a0 : Nat) < 18 then (
  Option.bind (f_J0_indexOf_7cf53 σ (a0) (a1) (0)) fun q4 =>
  some (q4.1, q4.2)
  ) else none
def f_X5_rankOf (σ : St) (a1 : Nat) : Option (Int32 × St) :=
  Option.bind (f_X7_byteAt σ (σ 3 4)) fun q7 =>
  if q7.1 = (-1) then (
    some ((-1), q7.2)
  ) else (
    if (a1 : Nat) < 18 then (
    Option.bind (f_J0_indexOf_0f7a4 q7.2 (a1) (((q7.1).toUInt32 % 65536).toInt32)) fun q10 =>
    some (q10.1, q10.2)
    ) else none
  )
def f_X6_thingCell (ka : Nat) (σ : St) (a1 : Int32) (a2 : Int32) : Option (Int32 × St) :=
  if a1 < 0 then (
    some (0, σ)
  ) else (
    if 8 ≤ a1 then (
      some (0, σ)
    ) else (
      if a2 < 0 then (
        some (0, σ)
      ) else (
        if a2 < 5 then (
          if 0 ≤ ((11 + (a1 * 5)) + a2 : Int32).toInt ∧ ((11 + (a1 * 5)) + a2 : Int32).toInt < 78 then (
          some (σ ka ((11 + (a1 * 5)) + a2).toNatClampNeg, σ)
          ) else none
        ) else (
          some (0, σ)
        )
      )
    )
  )
def f_X6_putThingCell_p41 (ka : Nat) (σ : St) (x4 : Int32) : Option (Int32 × St) :=
  some (x4, σ)
def f_X6_putThingCell (ka : Nat) (σ : St) (a1 : Int32) (a2 : Int32) (a3 : Int32) : Option (Int32 × St) :=
  Option.bind (f_X6_thingCell ka σ (a1) (a2)) fun q10 =>
  if a1 < 0 then (
    f_X6_putThingCell_p41 ka q10.2 (q10.1)
  ) else (
    if 8 ≤ a1 then (
      f_X6_putThingCell_p41 ka q10.2 (q10.1)
    ) else (
      if a2 < 0 then (
        f_X6_putThingCell_p41 ka q10.2 (q10.1)
      ) else (
        if 5 ≤ a2 then (
          f_X6_putThingCell_p41 ka q10.2 (q10.1)
        ) else (
          if 0 ≤ ((11 + (a1 * 5)) + a2 : Int32).toInt ∧ ((11 + (a1 * 5)) + a2 : Int32).toInt < 78 then (
          Option.bind (some (g_u2 q10.2 ka (((11 + (a1 * 5)) + a2).toNatClampNeg) (a3))) fun σ17 =>
          f_X6_putThingCell_p41 ka σ17 (q10.1)
          ) else none
        )
      )
    )
  )
def f_X6_measureMost (σ : St) (a1 : Int32) : Option (Int32 × St) :=
  if a1 = 2 then (
    some (15, σ)
  ) else (
    if a1 = 3 then (
      some (20, σ)
    ) else (
      some (60, σ)
    )
  )
def f_X5_readMeasures_p22 (k2 : St → Int32 → Int32 → Option (Int32 × St)) (σ : St) (x1 : Int32) (x2 : Int32) : Option (Int32 × St) :=
  Option.bind (f_X6_measureMost σ (x2)) fun q18 =>
  Option.bind (f_X5_readNumber q18.2 (0) (q18.1)) fun q20 =>
  if q20.1 = 0 then (
    some (0, q20.2)
  ) else (
    Option.bind (f_X6_putThingCell 17 q20.2 (x1) (1 + x2) (q20.2 3 5)) fun q23 =>
    Option.bind (some (x2 + 1)) fun y25 =>
    k2 q23.2 (x1) (y25)
  )
def F_X5_readMeasures_h2 (k2 : St → Int32 → Int32 → Option (Int32 × St)) (σ : St) (x1 : Int32) (x2 : Int32) : Option (Int32 × St) :=
  if 4 ≤ x2 then (
    Option.bind (f_X5_readByte σ (59)) fun q28 =>
    if q28.1 = 0 ∨ q28.1 = 1 then some (q28.1, q28.2) else none
  ) else (
    if x2 ≤ 0 then (
      f_X5_readMeasures_p22 k2 σ (x1) (x2)
    ) else (
      Option.bind (f_X5_readByte σ (44)) fun q32 =>
      if q32.1 = 0 then (
        some (0, q32.2)
      ) else (
        f_X5_readMeasures_p22 k2 q32.2 (x1) (x2)
      )
    )
  )
def z_X5_readMeasures_h2 : St → Int32 → Int32 → Option (Int32 × St) := fun _ _ _ => none
def f_X5_readMeasures (σ : St) (a1 : Int32) : Option (Int32 × St) :=
  fx (F_X5_readMeasures_h2) z_X5_readMeasures_h2 FU σ (a1) (0)
def F_X5_readThings_h2 (k2 : St → Int32 → Option (Int32 × St)) (σ : St) (x1 : Int32) : Option (Int32 × St) :=
  if 8 < x1 then (
    some (1, σ)
  ) else (
    Option.bind (f_X5_rankOf σ (16)) fun q21 =>
    Option.bind (some (1 + q21.1)) fun y23 =>
    if y23 = 0 then (
      some (1, q21.2)
    ) else (
      if x1 = 8 then (
        Option.bind (f_X5_faultHere q21.2 (3)) fun q38 =>
        if q38.1 = 0 ∨ q38.1 = 1 then some (q38.1, q38.2) else none
      ) else (
        Option.bind (some (g_u2 q21.2 3 4 ((q21.2 3 4) + 1))) fun σ27 =>
        Option.bind (f_X6_putThingCell 17 σ27 (x1) (0) (y23)) fun q29 =>
        Option.bind (f_X5_readMeasures q29.2 (x1)) fun q31 =>
        if q31.1 = 0 then (
          some (0, q31.2)
        ) else (
          Option.bind (f_X6_countThings 17 q31.2 (x1 + 1)) fun q34 =>
          Option.bind (some (x1 + 1)) fun y36 =>
          k2 q34 (y36)
        )
      )
    )
  )
def z_X5_readThings_h2 : St → Int32 → Option (Int32 × St) := fun _ _ => none
def f_X5_readThings (σ : St) : Option (Int32 × St) :=
  fx (F_X5_readThings_h2) z_X5_readThings_h2 FU σ (0)
def f_X6_legCell (ka : Nat) (σ : St) (a1 : Int32) (a2 : Int32) : Option (Int32 × St) :=
  if a1 < 0 then (
    some (0, σ)
  ) else (
    if 6 ≤ a1 then (
      some (0, σ)
    ) else (
      if a2 < 0 then (
        some (0, σ)
      ) else (
        if a2 < 4 then (
          if 0 ≤ ((51 + (a1 * 4)) + a2 : Int32).toInt ∧ ((51 + (a1 * 4)) + a2 : Int32).toInt < 78 then (
          some (σ ka ((51 + (a1 * 4)) + a2).toNatClampNeg, σ)
          ) else none
        ) else (
          some (0, σ)
        )
      )
    )
  )
def f_X6_putLegCell_p41 (ka : Nat) (σ : St) (x4 : Int32) : Option (Int32 × St) :=
  some (x4, σ)
def f_X6_putLegCell (ka : Nat) (σ : St) (a1 : Int32) (a2 : Int32) (a3 : Int32) : Option (Int32 × St) :=
  Option.bind (f_X6_legCell ka σ (a1) (a2)) fun q10 =>
  if a1 < 0 then (
    f_X6_putLegCell_p41 ka q10.2 (q10.1)
  ) else (
    if 6 ≤ a1 then (
      f_X6_putLegCell_p41 ka q10.2 (q10.1)
    ) else (
      if a2 < 0 then (
        f_X6_putLegCell_p41 ka q10.2 (q10.1)
      ) else (
        if 4 ≤ a2 then (
          f_X6_putLegCell_p41 ka q10.2 (q10.1)
        ) else (
          if 0 ≤ ((51 + (a1 * 4)) + a2 : Int32).toInt ∧ ((51 + (a1 * 4)) + a2 : Int32).toInt < 78 then (
          Option.bind (some (g_u2 q10.2 ka (((51 + (a1 * 4)) + a2).toNatClampNeg) (a3))) fun σ17 =>
          f_X6_putLegCell_p41 ka σ17 (q10.1)
          ) else none
        )
      )
    )
  )
def f_X6_untilLeast (σ : St) (a1 : Int32) : Option (Int32 × St) :=
  if a1 = 0 then (
    some (1, σ)
  ) else (
    some (0, σ)
  )
def f_X6_untilMost (σ : St) (a1 : Int32) : Option (Int32 × St) :=
  if a1 = 0 then (
    some (60, σ)
  ) else (
    if a1 = 4 then (
      some (60, σ)
    ) else (
      some (7, σ)
    )
  )
def f_X6_putUntil_p23 (ka : Nat) (σ : St) (x1 : Int32) (x2 : Int32) (t0 : Int32) (t1 : Int32) (t2 : Int32) : Option (Int32 × St) :=
  Option.bind (f_X6_putLegCell ka σ (t2) (t1) (t0)) fun q8 =>
  Option.bind (f_X6_putLegCell ka q8.2 (x1) (1) (x2)) fun q10 =>
  some (q10.1, q10.2)
def f_X6_putUntil (ka : Nat) (σ : St) (a1 : Int32) (a2 : Int32) (a3 : Int32) (a4 : Int32) : Option (Int32 × St) :=
  Option.bind (f_X6_putLegCell ka σ (a1) (2) (a3)) fun q12 =>
  if a2 = 2 then (
    f_X6_putUntil_p23 ka q12.2 (a1) (a2) (a4) (3) (a1)
  ) else (
    f_X6_putUntil_p23 ka q12.2 (a1) (a2) ((-1000000)) (3) (a1)
  )
def f_X5_readLeg_p101 (σ : St) (x1 : Int32) (x2 : Int32) (x3 : Int32) : Option (Int32 × St) :=
  Option.bind (f_X6_putUntil 17 σ (x1) (x2) (x3) (σ 3 5)) fun q33 =>
  Option.bind (f_X5_readByte q33.2 (59)) fun q35 =>
  if q35.1 = 0 ∨ q35.1 = 1 then some (q35.1, q35.2) else none
def f_X5_readLeg (σ : St) (a1 : Int32) : Option (Int32 × St) :=
  Option.bind (f_X5_readNumber σ (0) (15)) fun q38 =>
  if q38.1 = 0 then (
    some (0, q38.2)
  ) else (
    Option.bind (f_X6_putLegCell 17 q38.2 (a1) (0) (q38.2 3 5)) fun q41 =>
    Option.bind (f_X5_rankOf q41.2 (17)) fun q43 =>
    if 0 ≤ q43.1 then (
      Option.bind (some (g_u2 q43.2 3 4 ((q43.2 3 4) + 1))) fun σ46 =>
      Option.bind (f_X6_untilLeast σ46 (q43.1)) fun q48 =>
      Option.bind (f_X6_untilMost q48.2 (q43.1)) fun q50 =>
      Option.bind (f_X5_readNumber q50.2 (q48.1) (q50.1)) fun q52 =>
      if q52.1 = 0 then (
        some (0, q52.2)
      ) else (
        Option.bind (some (q52.2 3 5)) fun y55 =>
        if q43.1 = 2 then (
          Option.bind (f_X5_readByte q52.2 (44)) fun q58 =>
          if q58.1 = 0 then (
            some (0, q58.2)
          ) else (
            Option.bind (f_X5_readNumber q58.2 (0) (7)) fun q61 =>
            if q61.1 = 0 then (
              some (0, q61.2)
            ) else (
              f_X5_readLeg_p101 q61.2 (a1) (q43.1) (y55)
            )
          )
        ) else (
          f_X5_readLeg_p101 q52.2 (a1) (q43.1) (y55)
        )
      )
    ) else (
      Option.bind (f_X5_faultHere q43.2 (1)) fun q64 =>
      if q64.1 = 0 ∨ q64.1 = 1 then some (q64.1, q64.2) else none
    )
  )
def f_X5_readLegs_p29 (k2 : St → Int32 → Option (Int32 × St)) (σ : St) (x1 : Int32) : Option (Int32 × St) :=
  Option.bind (f_X7_byteAt σ (σ 3 4)) fun q25 =>
  if q25.1 = 103 then (
    if x1 = 6 then (
      Option.bind (f_X5_faultHere q25.2 (3)) fun q38 =>
      if q38.1 = 0 ∨ q38.1 = 1 then some (q38.1, q38.2) else none
    ) else (
      Option.bind (some (g_u2 q25.2 3 4 ((q25.2 3 4) + 1))) fun σ29 =>
      Option.bind (f_X5_readLeg σ29 (x1)) fun q31 =>
      if q31.1 = 0 then (
        some (0, q31.2)
      ) else (
        Option.bind (f_X6_countLegs 17 q31.2 (x1 + 1)) fun q34 =>
        Option.bind (some (x1 + 1)) fun y36 =>
        k2 q34 (y36)
      )
    )
  ) else (
    Option.bind (f_X5_faultHere q25.2 (1)) fun q41 =>
    if q41.1 = 0 ∨ q41.1 = 1 then some (q41.1, q41.2) else none
  )
def F_X5_readLegs_h2 (k2 : St → Int32 → Option (Int32 × St)) (σ : St) (x1 : Int32) : Option (Int32 × St) :=
  if 6 < x1 then (
    some (1, σ)
  ) else (
    if x1 ≤ 0 then (
      f_X5_readLegs_p29 k2 σ (x1)
    ) else (
      Option.bind (f_X7_byteAt σ (σ 3 4)) fun q46 =>
      if q46.1 = (-1) then (
        some (1, q46.2)
      ) else (
        f_X5_readLegs_p29 k2 q46.2 (x1)
      )
    )
  )
def z_X5_readLegs_h2 : St → Int32 → Option (Int32 × St) := fun _ _ => none
def f_X5_readLegs (σ : St) : Option (Int32 × St) :=
  fx (F_X5_readLegs_h2) z_X5_readLegs_h2 FU σ (0)
def f_X5_readTape (σ : St) : Option (Int32 × St) :=
  Option.bind (some (g_u2 σ 3 4 (0))) fun σ28 =>
  Option.bind (some (g_u2 σ28 3 1 (0))) fun σ30 =>
  Option.bind (some (g_u2 σ30 3 2 (0))) fun σ32 =>
  Option.bind (f_X6_countHeights 17 σ32 (0)) fun q34 =>
  Option.bind (f_X6_countThings 17 q34 (0)) fun q36 =>
  Option.bind (f_X6_countLegs 17 q36 (0)) fun q38 =>
  Option.bind (f_X5_readShip q38) fun q40 =>
  if q40.1 = 0 then (
    some (0, q40.2)
  ) else (
    Option.bind (f_X5_readTide q40.2) fun q43 =>
    if q43.1 = 0 then (
      some (0, q43.2)
    ) else (
      Option.bind (f_X5_readHarbour q43.2) fun q46 =>
      if q46.1 = 0 then (
        some (0, q46.2)
      ) else (
        Option.bind (f_X5_readThings q46.2) fun q49 =>
        if q49.1 = 0 then (
          some (0, q49.2)
        ) else (
          Option.bind (f_X5_readLegs q49.2) fun q52 =>
          if q52.1 = 0 then (
            some (0, q52.2)
          ) else (
            some (1, q52.2)
          )
        )
      )
    )
  )
def f_X7_clear (σ : St) : Option (St) :=
  Option.bind (some (g_u2 σ 1 1 (0))) fun σ3 =>
  some σ3
def f_X6_copyFrom (ka : Nat) (kb : Nat) (σ : St) : Option (St) :=
  if 0 ≤ (0 : Int32).toInt ∧ 0 ≤ (0 : Int32).toInt ∧ 0 ≤ (78 : Int32).toInt ∧ (0 : Int32).toInt + (78 : Int32).toInt ≤ 78 ∧ (0 : Int32).toInt + (78 : Int32).toInt ≤ 78 then (
  Option.bind (some (g_up σ ka (va_cpy (σ kb) (σ ka) (0 : Int32).toNatClampNeg (0 : Int32).toNatClampNeg (78 : Int32).toNatClampNeg))) fun σ5 =>
  some σ5
  ) else none
def f_X4_forget (σ : St) : Option (St) :=
  Option.bind (some (g_u2 σ 4 2 (0))) fun σ3 =>
  some σ3
def f_X6_legCount (ka : Nat) (σ : St) : Option (Int32 × St) :=
  some (σ ka 77, σ)
def f_X10_sheet (σ : St) : Option (Int32 × St) :=
  Option.bind (f_X5_readTape σ) fun q14 =>
  Option.bind (f_X7_clear q14.2) fun q16 =>
  if q14.1 = 0 then (
    Option.bind (some (g_u2 q16 0 10 (q16 3 1))) fun σ25 =>
    some ((-1000100) - (σ25 3 2), σ25)
  ) else (
    Option.bind (f_X6_copyFrom 14 17 q16) fun q19 =>
    Option.bind (f_X4_forget q19) fun q21 =>
    Option.bind (f_X6_legCount 14 q21) fun q23 =>
    some (q23.1, q23.2)
  )
def f_X10_fault (σ : St) : Option (Int32 × St) :=
  some (σ 0 10, σ)
def f_X2_nameOf (σ : St) (a1 : Int32) : Option (Nat × St) :=
  if (a1 &&& 15) = 0 then (
    some ((0 : Nat), σ)
  ) else (
  if (a1 &&& 15) = 1 then (
    some ((1 : Nat), σ)
  ) else (
  if (a1 &&& 15) = 2 then (
    some ((2 : Nat), σ)
  ) else (
  if (a1 &&& 15) = 3 then (
    some ((3 : Nat), σ)
  ) else (
  if (a1 &&& 15) = 4 then (
    some ((4 : Nat), σ)
  ) else (
  if (a1 &&& 15) = 5 then (
    some ((5 : Nat), σ)
  ) else (
  if (a1 &&& 15) = 6 then (
    some ((6 : Nat), σ)
  ) else (
  if (a1 &&& 15) = 7 then (
    some ((7 : Nat), σ)
  ) else (
  if (a1 &&& 15) = 8 then (
    some ((8 : Nat), σ)
  ) else (
  if (a1 &&& 15) = 9 then (
    some ((9 : Nat), σ)
  ) else (
  if (a1 &&& 15) = 10 then (
    some ((10 : Nat), σ)
  ) else (
  if (a1 &&& 15) = 11 then (
    some ((11 : Nat), σ)
  ) else (
  if (a1 &&& 15) = 12 then (
    some ((12 : Nat), σ)
  ) else (
  if (a1 &&& 15) = 13 then (
    some ((13 : Nat), σ)
  ) else (
  if (a1 &&& 15) = 14 then (
    some ((14 : Nat), σ)
  ) else (
    some ((15 : Nat), σ)
  )))))))))))))))
def f_J3_checkIndex_8e157 (σ : St) (a1 : Int32) (a2 : Int32) : Option (Int32 × St) :=
  if a1 < 0 then (
    none
  ) else (
    if a1 < a2 then (
      some (a1, σ)
    ) else (
      none
    )
  )
def f_J0_checkIndex_df160 (σ : St) (a1 : Int32) (a2 : Int32) : Option (St) :=
  Option.bind (f_J3_checkIndex_8e157 σ (a1) (a2)) fun q5 =>
  some q5.2
def f_J1_charAt_3b067 (σ : St) (a1 : Nat) (a2 : Int32) : Option (Int32 × St) :=
  if (a1 : Nat) < 18 then (
  Option.bind (f_J0_checkIndex_df160 σ (a2) (Int32.ofNat (g_len.getD (a1) 0))) fun q8 =>
  if (a1 : Nat) < 18 then (
  if 0 ≤ (a2 : Int32).toInt ∧ (a2 : Int32).toInt < ((g_len.getD (a1) 0 : Nat) : Int) then (
  if 0 ≤ (((((g_byt.getD (a1) []).getD (a2).toNatClampNeg 0) &&& 255).toUInt32 % 65536).toInt32 : Int32).toInt ∧ (((((g_byt.getD (a1) []).getD (a2).toNatClampNeg 0) &&& 255).toUInt32 % 65536).toInt32 : Int32).toInt < 65536 then some (((((g_byt.getD (a1) []).getD (a2).toNatClampNeg 0) &&& 255).toUInt32 % 65536).toInt32, q8) else none
  ) else none
  ) else none
  ) else none
def f_J0_charAt_5068e (σ : St) (a0 : Nat) (a1 : Int32) : Option (Int32 × St) :=
  if (a0 : Nat) < 18 then (
  Option.bind (f_J0_isLatin1_aae02 σ (a0)) fun q10 =>
  if q10.1 = 0 then (
    if (a0 : Nat) < 18 then (
    none
    ) else none
  ) else (
    if (a0 : Nat) < 18 then (
    Option.bind (f_J1_charAt_3b067 q10.2 (a0) (a1)) fun q16 =>
    if 0 ≤ (q16.1 : Int32).toInt ∧ (q16.1 : Int32).toInt < 65536 then some (q16.1, q16.2) else none
    ) else none
  )
  ) else none
def F_X7_holds_h15 (k15 : St → Nat → Int32 → Option (Int32 × St)) (σ : St) (x1 : Nat) (x2 : Int32) : Option (Int32 × St) :=
  if (x1 : Nat) < 18 then (
  Option.bind (f_J0_length_8abf5 σ (x1)) fun q17 =>
  if q17.1 ≤ x2 then (
    some (1, q17.2)
  ) else (
    Option.bind (f_X7_byteAt q17.2 (x2)) fun q21 =>
    if (x1 : Nat) < 18 then (
    Option.bind (f_J0_charAt_5068e q21.2 (x1) (x2)) fun q23 =>
    if q21.1 = q23.1 then (
      Option.bind (some (x2 + 1)) fun y27 =>
      k15 q23.2 (x1) (y27)
    ) else (
      some (0, q23.2)
    )
    ) else none
  )
  ) else none
def z_X7_holds_h15 : St → Nat → Int32 → Option (Int32 × St) := fun _ _ _ => none
def f_X7_holds (σ : St) (a1 : Nat) : Option (Int32 × St) :=
  if (a1 : Nat) < 18 then (
  Option.bind (f_J0_length_8abf5 σ (a1)) fun q29 =>
  if q29.1 = (q29.2 1 1) then (
    fx (F_X7_holds_h15) z_X7_holds_h15 FU q29.2 (a1) (0)
  ) else (
    some (0, q29.2)
  )
  ) else none
def f_X10_course_p27 (k5 : St → Int32 → Int32 → Option (Int32 × St)) (σ : St) (x1 : Int32) (x2 : Int32) : Option (Int32 × St) :=
  Option.bind (some (x2 + 1)) fun y11 =>
  k5 σ (x1) (y11)
def F_X10_course_h5 (k5 : St → Int32 → Int32 → Option (Int32 × St)) (σ : St) (x1 : Int32) (x2 : Int32) : Option (Int32 × St) :=
  if 16 ≤ x2 then (
    Option.bind (f_X7_clear σ) fun q14 =>
    some (x1, q14)
  ) else (
    Option.bind (f_X2_nameOf σ (x2)) fun q16 =>
    Option.bind (f_X7_holds q16.2 (q16.1)) fun q18 =>
    if q18.1 = 0 then (
      f_X10_course_p27 k5 q18.2 (x1) (x2)
    ) else (
      f_X10_course_p27 k5 q18.2 (x2) (x2)
    )
  )
def z_X10_course_h5 : St → Int32 → Int32 → Option (Int32 × St) := fun _ _ _ => none
def f_X10_course (σ : St) : Option (Int32 × St) :=
  fx (F_X10_course_h5) z_X10_course_h5 FU σ ((-1000000)) (0)
def f_X4_size (σ : St) : Option (Int32 × St) :=
  some (σ 4 2, σ)
def f_X6_copyFromRow (ka : Nat) (σ : St) (a2 : Int32) : Option (St) :=
  if a2 < 0 then (
    some σ
  ) else (
    if (1560 / 78) ≤ a2 then (
      some σ
    ) else (
      if 0 ≤ (a2 * 78 : Int32).toInt ∧ 0 ≤ (0 : Int32).toInt ∧ 0 ≤ (78 : Int32).toInt ∧ (a2 * 78 : Int32).toInt + (78 : Int32).toInt ≤ 1560 ∧ (0 : Int32).toInt + (78 : Int32).toInt ≤ 78 then (
      Option.bind (some (g_up σ ka (va_cpy (σ 18) (σ ka) (a2 * 78 : Int32).toNatClampNeg (0 : Int32).toNatClampNeg (78 : Int32).toNatClampNeg))) fun σ9 =>
      some σ9
      ) else none
    )
  )
def f_X4_takeBack_p26 (σ : St) (t0 : Int32) : Option (St) :=
  Option.bind (some (g_u2 σ 4 1 (t0))) fun σ9 =>
  Option.bind (some (g_u2 σ9 4 2 ((σ9 4 2) - 1))) fun σ11 =>
  Option.bind (f_X6_copyFromRow 14 σ11 (σ11 4 1)) fun q13 =>
  some q13
def f_X4_takeBack (σ : St) : Option (St) :=
  if (σ 4 2) ≤ 0 then (
    some σ
  ) else (
    if (σ 4 1) ≤ 0 then (
      f_X4_takeBack_p26 σ (19)
    ) else (
      f_X4_takeBack_p26 σ ((σ 4 1) - 1)
    )
  )
def f_X10_undo (σ : St) : Option (Int32 × St) :=
  Option.bind (f_X4_size σ) fun q8 =>
  if q8.1 = 0 then (
    some ((-1000002), q8.2)
  ) else (
    Option.bind (f_X4_takeBack q8.2) fun q11 =>
    Option.bind (f_X4_size q11) fun q13 =>
    some (q13.1, q13.2)
  )
def f_X6_hasThing (ka : Nat) (σ : St) (a1 : Int32) : Option (Int32 × St) :=
  if a1 < 0 then (
    some (0, σ)
  ) else (
    if (σ ka 76) ≤ a1 then (
      some (0, σ)
    ) else (
      some (1, σ)
    )
  )
def f_X6_copyToRow (ka : Nat) (σ : St) (a2 : Int32) : Option (St) :=
  if a2 < 0 then (
    some σ
  ) else (
    if (1560 / 78) ≤ a2 then (
      some σ
    ) else (
      if 0 ≤ (0 : Int32).toInt ∧ 0 ≤ (a2 * 78 : Int32).toInt ∧ 0 ≤ (78 : Int32).toInt ∧ (0 : Int32).toInt + (78 : Int32).toInt ≤ 78 ∧ (a2 * 78 : Int32).toInt + (78 : Int32).toInt ≤ 1560 then (
      Option.bind (some (g_up σ 18 (va_cpy (σ ka) (σ 18) (0 : Int32).toNatClampNeg (a2 * 78 : Int32).toNatClampNeg (78 : Int32).toNatClampNeg))) fun σ9 =>
      some σ9
      ) else none
    )
  )
def f_X4_keep_p34 (σ : St) (t0 : Int32) : Option (St) :=
  Option.bind (some (g_u2 σ 4 1 (t0))) fun σ8 =>
  Option.bind (some (g_u2 σ8 4 2 (if 20 < ((σ8 4 2) + 1) then 20 else ((σ8 4 2) + 1)))) fun σ10 =>
  some σ10
def f_X4_keep (σ : St) : Option (St) :=
  Option.bind (f_X6_copyToRow 14 σ (σ 4 1)) fun q12 =>
  if 20 ≤ ((q12 4 1) + 1) then (
    f_X4_keep_p34 q12 (0)
  ) else (
    f_X4_keep_p34 q12 ((q12 4 1) + 1)
  )
def f_X10_measure (σ : St) (a1 : Int32) (a2 : Int32) (a3 : Int32) : Option (Int32 × St) :=
  Option.bind (f_X6_hasThing 14 σ (a1)) fun q16 =>
  if q16.1 = 0 then (
    some ((-1000001), q16.2)
  ) else (
    Option.bind (f_X10_isWithin q16.2 (a2) (0) (3)) fun q19 =>
    if q19.1 = 0 then (
      some ((-1000001), q19.2)
    ) else (
      Option.bind (f_X6_measureMost q19.2 (a2)) fun q22 =>
      Option.bind (f_X10_isWithin q22.2 (a3) (0) (q22.1)) fun q24 =>
      if q24.1 = 0 then (
        some ((-1000001), q24.2)
      ) else (
        Option.bind (f_X4_keep q24.2) fun q27 =>
        Option.bind (f_X6_putThingCell 14 q27 (a1) (1 + a2) (a3)) fun q29 =>
        some (q29.1, q29.2)
      )
    )
  )
def f_X10_become (σ : St) (a1 : Int32) (a2 : Int32) : Option (Int32 × St) :=
  Option.bind (f_X6_hasThing 14 σ (a1)) fun q14 =>
  if q14.1 = 0 then (
    some ((-1000001), q14.2)
  ) else (
    Option.bind (f_X10_isWithin q14.2 (a2) (1) (6)) fun q17 =>
    if q17.1 = 0 then (
      some ((-1000001), q17.2)
    ) else (
      Option.bind (f_X6_thingCell 14 q17.2 (a1) (0)) fun q20 =>
      if q20.1 = a2 then (
        some ((-1000002), q20.2)
      ) else (
        Option.bind (f_X4_keep q20.2) fun q23 =>
        Option.bind (f_X6_putThingCell 14 q23 (a1) (0) (a2)) fun q25 =>
        some (q25.1, q25.2)
      )
    )
  )
def f_X6_isTold (ka : Nat) (σ : St) : Option (Int32 × St) :=
  if (σ ka 77) ≤ 0 then (
    some (0, σ)
  ) else (
    some (1, σ)
  )
def f_X10_ship_p38 (σ : St) (x1 : Int32) (x2 : Int32) (t0 : Int32) (t1 : Int32) (t2 : Int32) : Option (Int32 × St) :=
  Option.bind (f_X10_isWithin σ (t2) (t1) (t0)) fun q15 =>
  if q15.1 = 0 then (
    some ((-1000001), q15.2)
  ) else (
    Option.bind (f_X4_keep q15.2) fun q18 =>
    Option.bind (f_X6_putShipCell 14 q18 (x1) (x2)) fun q20 =>
    some (q20.1, q20.2)
  )
def f_X10_ship (σ : St) (a1 : Int32) (a2 : Int32) : Option (Int32 × St) :=
  Option.bind (f_X6_isTold 14 σ) fun q22 =>
  if q22.1 = 0 then (
    some ((-1000002), q22.2)
  ) else (
    Option.bind (f_X10_isWithin q22.2 (a1) (0) (4)) fun q25 =>
    if q25.1 = 0 then (
      some ((-1000001), q25.2)
    ) else (
      if a1 = 0 then (
        f_X10_ship_p38 q25.2 (a1) (a2) (20) (0) (a2)
      ) else (
        f_X10_ship_p38 q25.2 (a1) (a2) (60) (0) (a2)
      )
    )
  )
def f_X6_heightCount (ka : Nat) (σ : St) : Option (Int32 × St) :=
  some (σ ka 75, σ)
def f_X10_tide (σ : St) (a1 : Int32) (a2 : Int32) : Option (Int32 × St) :=
  Option.bind (f_X6_heightCount 14 σ) fun q13 =>
  Option.bind (f_X10_isWithin q13.2 (a1) (0) (q13.1 - 1)) fun q15 =>
  if q15.1 = 0 then (
    some ((-1000001), q15.2)
  ) else (
    Option.bind (f_X10_isWithin q15.2 (a2) (0) (20)) fun q18 =>
    if q18.1 = 0 then (
      some ((-1000001), q18.2)
    ) else (
      Option.bind (f_X4_keep q18.2) fun q21 =>
      Option.bind (f_X6_putHeightCell 14 q21 (a1) (a2)) fun q23 =>
      some (q23.1, q23.2)
    )
  )
def f_X6_hasLeg (ka : Nat) (σ : St) (a1 : Int32) : Option (Int32 × St) :=
  if a1 < 0 then (
    some (0, σ)
  ) else (
    if (σ ka 77) ≤ a1 then (
      some (0, σ)
    ) else (
      some (1, σ)
    )
  )
def f_X10_isCourse (σ : St) (a1 : Int32) : Option (Int32 × St) :=
  Option.bind (f_X10_isWithin σ (a1) (0) (15)) fun q4 =>
  if q4.1 = 0 ∨ q4.1 = 1 then some (q4.1, q4.2) else none
def f_X10_steer (σ : St) (a1 : Int32) (a2 : Int32) : Option (Int32 × St) :=
  Option.bind (f_X6_hasLeg 14 σ (a1)) fun q11 =>
  if q11.1 = 0 then (
    some ((-1000001), q11.2)
  ) else (
    Option.bind (f_X10_isCourse q11.2 (a2)) fun q14 =>
    if q14.1 = 0 then (
      some ((-1000001), q14.2)
    ) else (
      Option.bind (f_X4_keep q14.2) fun q17 =>
      Option.bind (f_X6_putLegCell 14 q17 (a1) (0) (a2)) fun q19 =>
      some (q19.1, q19.2)
    )
  )
def f_X10_isUntil (σ : St) (a1 : Int32) (a2 : Int32) (a3 : Int32) : Option (Int32 × St) :=
  Option.bind (f_X10_isWithin σ (a1) (0) (4)) fun q15 =>
  if q15.1 = 0 then (
    some (0, q15.2)
  ) else (
    Option.bind (f_X6_untilLeast q15.2 (a1)) fun q18 =>
    Option.bind (f_X6_untilMost q18.2 (a1)) fun q20 =>
    Option.bind (f_X10_isWithin q20.2 (a2) (q18.1) (q20.1)) fun q22 =>
    if q22.1 = 0 then (
      some (0, q22.2)
    ) else (
      if a1 = 2 then (
        Option.bind (f_X10_isWithin q22.2 (a3) (0) (7)) fun q26 =>
        if q26.1 = 0 then (
          some (0, q26.2)
        ) else (
          some (1, q26.2)
        )
      ) else (
        some (1, q22.2)
      )
    )
  )
def f_X10_until (σ : St) (a1 : Int32) (a2 : Int32) (a3 : Int32) (a4 : Int32) : Option (Int32 × St) :=
  Option.bind (f_X6_hasLeg 14 σ (a1)) fun q11 =>
  if q11.1 = 0 then (
    some ((-1000001), q11.2)
  ) else (
    Option.bind (f_X10_isUntil q11.2 (a2) (a3) (a4)) fun q14 =>
    if q14.1 = 0 then (
      some ((-1000001), q14.2)
    ) else (
      Option.bind (f_X4_keep q14.2) fun q17 =>
      Option.bind (f_X6_putUntil 14 q17 (a1) (a2) (a3) (a4)) fun q19 =>
      some (q19.1, q19.2)
    )
  )
def F_X6_openLeg_h35 (ka : Nat) (k35 : St → Int32 → Int32 → Int32 → Option (St)) (σ : St) (x1 : Int32) (x2 : Int32) (x3 : Int32) : Option (St) :=
  if x3 < (51 + ((x1 + 1) * 4)) then (
    Option.bind (f_X6_countLegs ka σ (x2 + 1)) fun q14 =>
    some q14
  ) else (
    if 0 ≤ (x3 - 4 : Int32).toInt ∧ (x3 - 4 : Int32).toInt < 78 then (
    if 0 ≤ (x3 : Int32).toInt ∧ (x3 : Int32).toInt < 78 then (
    Option.bind (some (g_u2 σ ka ((x3).toNatClampNeg) (σ ka (x3 - 4).toNatClampNeg))) fun σ18 =>
    Option.bind (some (x3 + (-1))) fun y20 =>
    k35 σ18 (x1) (x2) (y20)
    ) else none
    ) else none
  )
def z_X6_openLeg_h35 : St → Int32 → Int32 → Int32 → Option (St) := fun _ _ _ _ => none
def f_X6_openLeg (ka : Nat) (σ : St) (a1 : Int32) : Option (St) :=
  Option.bind (some (σ ka 77)) fun y22 =>
  if a1 < 0 then (
    some σ
  ) else (
    if y22 < a1 then (
      some σ
    ) else (
      if y22 < 6 then (
        Option.bind (some ((51 + ((y22 + 1) * 4)) - 1)) fun y27 =>
        fx (F_X6_openLeg_h35 ka) z_X6_openLeg_h35 FU σ (a1) (y22) (y27)
      ) else (
        some σ
      )
    )
  )
def f_X10_add (σ : St) (a1 : Int32) (a2 : Int32) (a3 : Int32) (a4 : Int32) (a5 : Int32) : Option (Int32 × St) :=
  Option.bind (f_X6_isTold 14 σ) fun q28 =>
  if q28.1 = 0 then (
    some ((-1000002), q28.2)
  ) else (
    Option.bind (f_X6_legCount 14 q28.2) fun q31 =>
    Option.bind (f_X10_isWithin q31.2 (a1) (0) (q31.1)) fun q33 =>
    if q33.1 = 0 then (
      some ((-1000001), q33.2)
    ) else (
      Option.bind (f_X10_isCourse q33.2 (a2)) fun q36 =>
      if q36.1 = 0 then (
        some ((-1000001), q36.2)
      ) else (
        Option.bind (f_X10_isUntil q36.2 (a3) (a4) (a5)) fun q39 =>
        if q39.1 = 0 then (
          some ((-1000001), q39.2)
        ) else (
          Option.bind (f_X6_legCount 14 q39.2) fun q42 =>
          if q42.1 = 6 then (
            some ((-1000003), q42.2)
          ) else (
            Option.bind (f_X4_keep q42.2) fun q45 =>
            Option.bind (f_X6_openLeg 14 q45 (a1)) fun q47 =>
            Option.bind (f_X6_putLegCell 14 q47 (a1) (0) (a2)) fun q49 =>
            Option.bind (f_X6_putUntil 14 q49.2 (a1) (a3) (a4) (a5)) fun q51 =>
            Option.bind (f_X6_legCount 14 q51.2) fun q53 =>
            some (q53.1, q53.2)
          )
        )
      )
    )
  )
def F_X6_closeLeg_h31 (ka : Nat) (k31 : St → Int32 → Int32 → Option (St)) (σ : St) (x2 : Int32) (x3 : Int32) : Option (St) :=
  if (51 + ((x2 - 1) * 4)) ≤ x3 then (
    Option.bind (f_X6_countLegs ka σ (x2 - 1)) fun q14 =>
    some q14
  ) else (
    if 0 ≤ (x3 + 4 : Int32).toInt ∧ (x3 + 4 : Int32).toInt < 78 then (
    if 0 ≤ (x3 : Int32).toInt ∧ (x3 : Int32).toInt < 78 then (
    Option.bind (some (g_u2 σ ka ((x3).toNatClampNeg) (σ ka (x3 + 4).toNatClampNeg))) fun σ18 =>
    Option.bind (some (x3 + 1)) fun y20 =>
    k31 σ18 (x2) (y20)
    ) else none
    ) else none
  )
def z_X6_closeLeg_h31 : St → Int32 → Int32 → Option (St) := fun _ _ _ => none
def f_X6_closeLeg (ka : Nat) (σ : St) (a1 : Int32) : Option (St) :=
  Option.bind (some (σ ka 77)) fun y22 =>
  if a1 < 0 then (
    some σ
  ) else (
    if y22 ≤ a1 then (
      some σ
    ) else (
      if y22 ≤ 6 then (
        Option.bind (some (51 + (a1 * 4))) fun y27 =>
        fx (F_X6_closeLeg_h31 ka) z_X6_closeLeg_h31 FU σ (y22) (y27)
      ) else (
        some σ
      )
    )
  )
def f_X10_cut (σ : St) (a1 : Int32) : Option (Int32 × St) :=
  Option.bind (f_X6_hasLeg 14 σ (a1)) fun q13 =>
  if q13.1 = 0 then (
    some ((-1000001), q13.2)
  ) else (
    Option.bind (f_X6_legCount 14 q13.2) fun q16 =>
    if q16.1 = 1 then (
      some ((-1000002), q16.2)
    ) else (
      Option.bind (f_X4_keep q16.2) fun q19 =>
      Option.bind (f_X6_closeLeg 14 q19 (a1)) fun q21 =>
      Option.bind (f_X6_legCount 14 q21) fun q23 =>
      some (q23.1, q23.2)
    )
  )
def f_X10_thing (σ : St) (a1 : Int32) (a2 : Int32) : Option (Int32 × St) :=
  Option.bind (f_X6_hasThing 14 σ (a1)) fun q9 =>
  if q9.1 = 0 then (
    some ((-1000001), q9.2)
  ) else (
    Option.bind (f_X10_isWithin q9.2 (a2) (0) (4)) fun q12 =>
    if q12.1 = 0 then (
      some ((-1000001), q12.2)
    ) else (
      Option.bind (f_X6_thingCell 14 q12.2 (a1) (a2)) fun q15 =>
      some (q15.1, q15.2)
    )
  )
def f_X10_leg (σ : St) (a1 : Int32) (a2 : Int32) : Option (Int32 × St) :=
  Option.bind (f_X6_hasLeg 14 σ (a1)) fun q9 =>
  if q9.1 = 0 then (
    some ((-1000001), q9.2)
  ) else (
    Option.bind (f_X10_isWithin q9.2 (a2) (0) (3)) fun q12 =>
    if q12.1 = 0 then (
      some ((-1000001), q12.2)
    ) else (
      Option.bind (f_X6_legCell 14 q12.2 (a1) (a2)) fun q15 =>
      some (q15.1, q15.2)
    )
  )
def f_X1_heightAt_p54 (σ : St) (x1 : Int32) (x4 : Int32) (t0 : Int32) : Option (Int32 × St) :=
  Option.bind (f_X6_heightCell 14 σ (t0)) fun q11 =>
  some (x4 + (((q11.1 - x4) * (x1 - x1 / 10 * 10)) / 10), q11.2)
def f_X1_heightAt (σ : St) (a1 : Int32) : Option (Int32 × St) :=
  Option.bind (f_X6_heightCount 14 σ) fun q13 =>
  if q13.1 < 1 then (
    some (0, q13.2)
  ) else (
    if 0 ≤ a1 then (
      if q13.1 = 0 then none else
      Option.bind (some ((a1 / 10) - (a1 / 10) / q13.1 * q13.1)) fun y18 =>
      Option.bind (f_X6_heightCell 14 q13.2 (y18)) fun q20 =>
      if q13.1 ≤ (y18 + 1) then (
        f_X1_heightAt_p54 q20.2 (a1) (q20.1) (0)
      ) else (
        f_X1_heightAt_p54 q20.2 (a1) (q20.1) (y18 + 1)
      )
    ) else (
      some (0, q13.2)
    )
  )
def f_X10_height (σ : St) (a1 : Int32) : Option (Int32 × St) :=
  Option.bind (f_X6_isTold 14 σ) fun q9 =>
  if q9.1 = 0 then (
    some ((-1000002), q9.2)
  ) else (
    Option.bind (f_X10_isWithin q9.2 (a1) (0) (9999)) fun q12 =>
    if q12.1 = 0 then (
      some ((-1000001), q12.2)
    ) else (
      Option.bind (f_X1_heightAt q12.2 (a1)) fun q15 =>
      some (q15.1, q15.2)
    )
  )
def f_X1_isCharted (σ : St) (a1 : Int32) (a2 : Int32) : Option (Int32 × St) :=
  if a1 < 0 then (
    some (0, σ)
  ) else (
    if 60 < a1 then (
      some (0, σ)
    ) else (
      if a2 < 0 then (
        some (0, σ)
      ) else (
        if 60 < a2 then (
          some (0, σ)
        ) else (
          some (1, σ)
        )
      )
    )
  )
def f_X6_thingCount (ka : Nat) (σ : St) : Option (Int32 × St) :=
  some (σ ka 76, σ)
def f_X1_liesIn (σ : St) (a1 : Int32) (a2 : Int32) (a3 : Int32) : Option (Int32 × St) :=
  Option.bind (f_X6_thingCell 14 σ (a1) (0)) fun q14 =>
  if 4 ≤ q14.1 then (
    Option.bind (f_X6_thingCell 14 q14.2 (a1) (1)) fun q17 =>
    Option.bind (some (a2 - q17.1)) fun y19 =>
    Option.bind (f_X6_thingCell 14 q17.2 (a1) (2)) fun q21 =>
    Option.bind (some (a3 - q21.1)) fun y23 =>
    Option.bind (f_X6_thingCell 14 q21.2 (a1) (3)) fun q25 =>
    if q14.1 = 6 then (
      if q25.1 < (if 0 ≤ y19 then y19 else 0 - y19) then (
        some (0, q25.2)
      ) else (
        if q25.1 < (if 0 ≤ y23 then y23 else 0 - y23) then (
          some (0, q25.2)
        ) else (
          some (1, q25.2)
        )
      )
    ) else (
      if (q25.1 * q25.1) < ((y19 * y19) + (y23 * y23)) then (
        some (0, q25.2)
      ) else (
        some (1, q25.2)
      )
    )
  ) else (
    some (0, q14.2)
  )
def f_X1_depthOf (σ : St) (a1 : Int32) : Option (Int32 × St) :=
  Option.bind (f_X6_thingCell 14 σ (a1) (4)) fun q6 =>
  Option.bind (f_X6_thingCell 14 q6.2 (a1) (0)) fun q8 =>
  if q8.1 = 5 then (
    some (-q6.1, q8.2)
  ) else (
    some (q6.1, q8.2)
  )
def f_X1_depthAt_p40 (k6 : St → Int32 → Int32 → Int32 → Int32 → Option (Int32 × St)) (σ : St) (x1 : Int32) (x2 : Int32) (x3 : Int32) (x4 : Int32) : Option (Int32 × St) :=
  Option.bind (some (x4 + 1)) fun y11 =>
  k6 σ (x1) (x2) (x3) (y11)
def F_X1_depthAt_h6 (k6 : St → Int32 → Int32 → Int32 → Int32 → Option (Int32 × St)) (σ : St) (x1 : Int32) (x2 : Int32) (x3 : Int32) (x4 : Int32) : Option (Int32 × St) :=
  Option.bind (f_X6_thingCount 14 σ) fun q13 =>
  if q13.1 ≤ x4 then (
    some (x3, q13.2)
  ) else (
    Option.bind (f_X1_liesIn q13.2 (x4) (x1) (x2)) fun q16 =>
    if q16.1 = 0 then (
      f_X1_depthAt_p40 k6 q16.2 (x1) (x2) (x3) (x4)
    ) else (
      Option.bind (f_X1_depthOf q16.2 (x4)) fun q19 =>
      Option.bind (some (if q19.1 < x3 then q19.1 else x3)) fun y21 =>
      f_X1_depthAt_p40 k6 q19.2 (x1) (x2) (y21) (x4)
    )
  )
def z_X1_depthAt_h6 : St → Int32 → Int32 → Int32 → Int32 → Option (Int32 × St) := fun _ _ _ _ _ => none
def f_X1_depthAt (σ : St) (a1 : Int32) (a2 : Int32) : Option (Int32 × St) :=
  fx (F_X1_depthAt_h6) z_X1_depthAt_h6 FU σ (a1) (a2) (40) (0)
def f_X1_firstShoalAt_p46 (k10 : St → Int32 → Int32 → Int32 → Int32 → Option (Int32 × St)) (σ : St) (x1 : Int32) (x2 : Int32) (x3 : Int32) (x4 : Int32) : Option (Int32 × St) :=
  Option.bind (some (x4 + 1)) fun y14 =>
  k10 σ (x1) (x2) (x3) (y14)
def F_X1_firstShoalAt_h10 (k10 : St → Int32 → Int32 → Int32 → Int32 → Option (Int32 × St)) (σ : St) (x1 : Int32) (x2 : Int32) (x3 : Int32) (x4 : Int32) : Option (Int32 × St) :=
  Option.bind (f_X6_thingCount 14 σ) fun q16 =>
  if q16.1 ≤ x4 then (
    some ((-1000000), q16.2)
  ) else (
    Option.bind (f_X1_liesIn q16.2 (x4) (x1) (x2)) fun q19 =>
    if q19.1 = 0 then (
      f_X1_firstShoalAt_p46 k10 q19.2 (x1) (x2) (x3) (x4)
    ) else (
      Option.bind (f_X1_depthOf q19.2 (x4)) fun q22 =>
      if q22.1 = x3 then (
        some (x4, q22.2)
      ) else (
        f_X1_firstShoalAt_p46 k10 q22.2 (x1) (x2) (x3) (x4)
      )
    )
  )
def z_X1_firstShoalAt_h10 : St → Int32 → Int32 → Int32 → Int32 → Option (Int32 × St) := fun _ _ _ _ _ => none
def f_X1_firstShoalAt (σ : St) (a1 : Int32) (a2 : Int32) : Option (Int32 × St) :=
  Option.bind (f_X1_depthAt σ (a1) (a2)) fun q25 =>
  fx (F_X1_firstShoalAt_h10) z_X1_firstShoalAt_h10 FU q25.2 (a1) (a2) (q25.1) (0)
def f_X10_water (σ : St) (a1 : Int32) (a2 : Int32) (a3 : Int32) : Option (Int32 × St) :=
  Option.bind (f_X6_isTold 14 σ) fun q15 =>
  if q15.1 = 0 then (
    some ((-1000002), q15.2)
  ) else (
    Option.bind (f_X1_isCharted q15.2 (a1) (a2)) fun q18 =>
    if q18.1 = 0 then (
      some ((-1000001), q18.2)
    ) else (
      Option.bind (f_X10_isWithin q18.2 (a3) (0) (1)) fun q21 =>
      if q21.1 = 0 then (
        some ((-1000001), q21.2)
      ) else (
        if a3 = 0 then (
          Option.bind (f_X1_depthAt q21.2 (a1) (a2)) fun q27 =>
          some (q27.1, q27.2)
        ) else (
          Option.bind (f_X1_firstShoalAt q21.2 (a1) (a2)) fun q25 =>
          some (q25.1, q25.2)
        )
      )
    )
  )
def f_X6_isMark (ka : Nat) (σ : St) (a1 : Int32) : Option (Int32 × St) :=
  Option.bind (f_X6_hasThing ka σ (a1)) fun q7 =>
  if q7.1 = 0 then (
    some (0, q7.2)
  ) else (
    Option.bind (f_X6_thingCell ka q7.2 (a1) (0)) fun q10 =>
    if 3 < q10.1 then (
      some (0, q10.2)
    ) else (
      some (1, q10.2)
    )
  )
def f_X1_markX_p20 (σ : St) (x1 : Int32) (t0 : Int32) : Option (Int32 × St) :=
  Option.bind (f_X6_thingCell 14 σ (x1) (1)) fun q6 =>
  some (q6.1 + t0, q6.2)
def f_X1_markX (σ : St) (a1 : Int32) (a2 : Int32) : Option (Int32 × St) :=
  Option.bind (f_X6_thingCell 14 σ (a1) (0)) fun q8 =>
  if q8.1 = 3 then (
    f_X1_markX_p20 q8.2 (a1) (a2 / 4)
  ) else (
    f_X1_markX_p20 q8.2 (a1) (0)
  )
def f_X10_mark (σ : St) (a1 : Int32) (a2 : Int32) (a3 : Int32) : Option (Int32 × St) :=
  Option.bind (f_X6_hasThing 14 σ (a1)) fun q20 =>
  if q20.1 = 0 then (
    some ((-1000001), q20.2)
  ) else (
    Option.bind (f_X10_isWithin q20.2 (a2) (0) (9999)) fun q23 =>
    if q23.1 = 0 then (
      some ((-1000001), q23.2)
    ) else (
      Option.bind (f_X10_isWithin q23.2 (a3) (0) (1)) fun q26 =>
      if q26.1 = 0 then (
        some ((-1000001), q26.2)
      ) else (
        Option.bind (f_X6_isMark 14 q26.2 (a1)) fun q29 =>
        if q29.1 = 0 then (
          some ((-1000002), q29.2)
        ) else (
          if a3 = 0 then (
            Option.bind (f_X1_heightAt q29.2 (a2)) fun q35 =>
            Option.bind (f_X1_markX q35.2 (a1) (q35.1)) fun q37 =>
            some (q37.1, q37.2)
          ) else (
            Option.bind (f_X6_thingCell 14 q29.2 (a1) (2)) fun q33 =>
            some (q33.1, q33.2)
          )
        )
      )
    )
  )
def f_X2_isInSector_p157 (σ : St) (x5 : Int32) (t0 : Int32) : Option (Int32 × St) :=
  if t0 = x5 then (
    some (0, σ)
  ) else (
    some (1, σ)
  )
def f_X2_isInSector_p156 (σ : St) (x5 : Int32) : Option (Int32 × St) :=
  f_X2_isInSector_p157 σ (x5) (0)
def f_X2_isInSector_p152 (σ : St) (x5 : Int32) : Option (Int32 × St) :=
  f_X2_isInSector_p157 σ (x5) (1)
def f_X2_isInSector_p135 (σ : St) (x5 : Int32) (x8 : Int32) (x9 : Int32) (t0 : Int32) : Option (Int32 × St) :=
  if t0 = 0 then (
    if x8 ≤ 0 then (
      f_X2_isInSector_p156 σ (x5)
    ) else (
      if x9 ≤ 0 then (
        f_X2_isInSector_p156 σ (x5)
      ) else (
        f_X2_isInSector_p152 σ (x5)
      )
    )
  ) else (
    f_X2_isInSector_p152 σ (x5)
  )
def f_X2_isInSector_p134 (σ : St) (x5 : Int32) (x8 : Int32) (x9 : Int32) : Option (Int32 × St) :=
  f_X2_isInSector_p135 σ (x5) (x8) (x9) (0)
def f_X2_isInSector_p62 (σ : St) (x2 : Int32) (x3 : Int32) (x5 : Int32) (x6 : Int32) (t0 : Int32) : Option (Int32 × St) :=
  Option.bind (some (t0 &&& 15)) fun y23 =>
  if 0 ≤ (x6 : Int32).toInt ∧ (x6 : Int32).toInt < 16 then (
  if 0 ≤ (x6 : Int32).toInt ∧ (x6 : Int32).toInt < 16 then (
  Option.bind (some (((g_north.getD (x6).toNatClampNeg 0) * x2) - ((g_east.getD (x6).toNatClampNeg 0) * x3))) fun y27 =>
  if 0 ≤ (y23 : Int32).toInt ∧ (y23 : Int32).toInt < 16 then (
  if 0 ≤ (y23 : Int32).toInt ∧ (y23 : Int32).toInt < 16 then (
  Option.bind (some ((x3 * (g_east.getD (y23).toNatClampNeg 0)) - (x2 * (g_north.getD (y23).toNatClampNeg 0)))) fun y31 =>
  if y27 = 0 then (
    if 0 ≤ (x6 : Int32).toInt ∧ (x6 : Int32).toInt < 16 then (
    if 0 ≤ (x6 : Int32).toInt ∧ (x6 : Int32).toInt < 16 then (
    if (((g_east.getD (x6).toNatClampNeg 0) * x2) + ((g_north.getD (x6).toNatClampNeg 0) * x3)) ≤ 0 then (
      f_X2_isInSector_p134 σ (x5) (y27) (y31)
    ) else (
      f_X2_isInSector_p135 σ (x5) (y27) (y31) (1)
    )
    ) else none
    ) else none
  ) else (
    f_X2_isInSector_p134 σ (x5) (y27) (y31)
  )
  ) else none
  ) else none
  ) else none
  ) else none
def f_X2_isInSector_p47 (σ : St) (x0 : Int32) (x1 : Int32) (x2 : Int32) (x3 : Int32) (x5 : Int32) (t0 : Int32) : Option (Int32 × St) :=
  Option.bind (some (t0 &&& 15)) fun y37 =>
  if x5 = 0 then (
    f_X2_isInSector_p62 σ (x2) (x3) (x5) (y37) (x1)
  ) else (
    f_X2_isInSector_p62 σ (x2) (x3) (x5) (y37) (x0)
  )
def f_X2_isInSector_p35 (σ : St) (x0 : Int32) (x1 : Int32) (x2 : Int32) (x3 : Int32) (t0 : Int32) : Option (Int32 × St) :=
  if t0 = 0 then (
    f_X2_isInSector_p47 σ (x0) (x1) (x2) (x3) (t0) (x0)
  ) else (
    f_X2_isInSector_p47 σ (x0) (x1) (x2) (x3) (t0) (x1)
  )
def f_X2_isInSector_p23 (σ : St) (x0 : Int32) (x1 : Int32) (x2 : Int32) (x3 : Int32) (x4 : Int32) : Option (Int32 × St) :=
  if x4 ≤ 8 then (
    f_X2_isInSector_p35 σ (x0) (x1) (x2) (x3) (0)
  ) else (
    f_X2_isInSector_p35 σ (x0) (x1) (x2) (x3) (1)
  )
def f_X2_isInSector (σ : St) (a1 : Int32) (a2 : Int32) (a3 : Int32) (a4 : Int32) : Option (Int32 × St) :=
  Option.bind (some ((a2 - a1) &&& 15)) fun y42 =>
  if y42 = 0 then (
    some (1, σ)
  ) else (
    if a3 = 0 then (
      if a4 = 0 then (
        some (1, σ)
      ) else (
        f_X2_isInSector_p23 σ (a1) (a2) (a3) (a4) (y42)
      )
    ) else (
      f_X2_isInSector_p23 σ (a1) (a2) (a3) (a4) (y42)
    )
  )
def f_X1_isInSight (σ : St) (a1 : Int32) (a2 : Int32) (a3 : Int32) (a4 : Int32) (a5 : Int32) : Option (Int32 × St) :=
  if ((a5 >>> (a1 &&& 31)) &&& 1) = 0 then (
    Option.bind (f_X1_markX σ (a1) (a4)) fun q21 =>
    Option.bind (some (a2 - q21.1)) fun y23 =>
    Option.bind (f_X6_thingCell 14 q21.2 (a1) (2)) fun q25 =>
    Option.bind (some (a3 - q25.1)) fun y27 =>
    Option.bind (some ((y23 * y23) + (y27 * y27))) fun y29 =>
    Option.bind (f_X6_thingCell 14 q25.2 (a1) (0)) fun q31 =>
    if q31.1 = 1 then (
      if 400 < y29 then (
        some (0, q31.2)
      ) else (
        some (1, q31.2)
      )
    ) else (
    if q31.1 = 2 then (
      Option.bind (f_X6_thingCell 14 q31.2 (a1) (3)) fun q35 =>
      Option.bind (f_X6_thingCell 14 q35.2 (a1) (4)) fun q37 =>
      Option.bind (f_X2_isInSector q37.2 (q35.1) (q37.1) (y23) (y27)) fun q39 =>
      if q39.1 = 0 ∨ q39.1 = 1 then some (q39.1, q39.2) else none
    ) else (
    if q31.1 = 3 then (
      if 100 < y29 then (
        some (0, q31.2)
      ) else (
        some (1, q31.2)
      )
    ) else (
      some (0, q31.2)
    )))
  ) else (
    some (0, σ)
  )
def f_X10_seen (σ : St) (a1 : Int32) (a2 : Int32) (a3 : Int32) (a4 : Int32) : Option (Int32 × St) :=
  Option.bind (f_X6_hasThing 14 σ (a1)) fun q18 =>
  if q18.1 = 0 then (
    some ((-1000001), q18.2)
  ) else (
    Option.bind (f_X1_isCharted q18.2 (a2) (a3)) fun q21 =>
    if q21.1 = 0 then (
      some ((-1000001), q21.2)
    ) else (
      Option.bind (f_X10_isWithin q21.2 (a4) (0) (9999)) fun q24 =>
      if q24.1 = 0 then (
        some ((-1000001), q24.2)
      ) else (
        Option.bind (f_X6_isMark 14 q24.2 (a1)) fun q27 =>
        if q27.1 = 0 then (
          some ((-1000002), q27.2)
        ) else (
          Option.bind (f_X1_heightAt q27.2 (a4)) fun q30 =>
          Option.bind (f_X1_isInSight q30.2 (a1) (a2) (a3) (q30.1) (0)) fun q32 =>
          if q32.1 = 0 then (
            some (0, q32.2)
          ) else (
            some (1, q32.2)
          )
        )
      )
    )
  )
def f_X10_isPair (σ : St) (a1 : Int32) (a2 : Int32) : Option (Int32 × St) :=
  Option.bind (f_X6_hasThing 14 σ (a1)) fun q8 =>
  if q8.1 = 0 then (
    some (0, q8.2)
  ) else (
    Option.bind (f_X6_hasThing 14 q8.2 (a2)) fun q11 =>
    if q11.1 = 0 then (
      some (0, q11.2)
    ) else (
      if a1 = a2 then (
        some (0, q11.2)
      ) else (
        some (1, q11.2)
      )
    )
  )
def f_X1_isOnePlace (σ : St) (a1 : Int32) (a2 : Int32) : Option (Int32 × St) :=
  Option.bind (f_X6_thingCell 14 σ (a1) (1)) fun q11 =>
  Option.bind (f_X6_thingCell 14 q11.2 (a2) (1)) fun q13 =>
  if q11.1 = q13.1 then (
    Option.bind (f_X6_thingCell 14 q13.2 (a1) (2)) fun q16 =>
    Option.bind (f_X6_thingCell 14 q16.2 (a2) (2)) fun q18 =>
    if q16.1 = q18.1 then (
      some (1, q18.2)
    ) else (
      some (0, q18.2)
    )
  ) else (
    some (0, q13.2)
  )
def f_X1_leftOfLine (σ : St) (a1 : Int32) (a2 : Int32) (a3 : Int32) (a4 : Int32) : Option (Int32 × St) :=
  Option.bind (f_X6_thingCell 14 σ (a1) (1)) fun q9 =>
  Option.bind (f_X6_thingCell 14 q9.2 (a1) (2)) fun q11 =>
  Option.bind (f_X6_thingCell 14 q11.2 (a2) (1)) fun q13 =>
  Option.bind (some (q13.1 - q9.1)) fun y15 =>
  Option.bind (f_X6_thingCell 14 q13.2 (a2) (2)) fun q17 =>
  Option.bind (some (q17.1 - q11.1)) fun y19 =>
  some ((y15 * (a4 - q11.1)) - (y19 * (a3 - q9.1)), q17.2)
def f_J6_signum_0f7a4 (σ : St) (a1 : Int32) : Option (Int32 × St) :=
  some ((a1 >>> (31 &&& 31)) ||| (((-a1).toUInt32 >>> ((31 : Int32).toUInt32 &&& Int32.toUInt32 31)).toInt32), σ)
def f_X10_line (σ : St) (a1 : Int32) (a2 : Int32) (a3 : Int32) (a4 : Int32) : Option (Int32 × St) :=
  Option.bind (f_X10_isPair σ (a1) (a2)) fun q14 =>
  if q14.1 = 0 then (
    some ((-1000001), q14.2)
  ) else (
    Option.bind (f_X1_isCharted q14.2 (a3) (a4)) fun q17 =>
    if q17.1 = 0 then (
      some ((-1000001), q17.2)
    ) else (
      Option.bind (f_X1_isOnePlace q17.2 (a1) (a2)) fun q20 =>
      if q20.1 = 0 then (
        Option.bind (f_X1_leftOfLine q20.2 (a1) (a2) (a3) (a4)) fun q23 =>
        Option.bind (f_J6_signum_0f7a4 q23.2 (q23.1)) fun q25 =>
        some (q25.1, q25.2)
      ) else (
        some ((-1000002), q20.2)
      )
    )
  )
def f_X1_sideOfShoal_p157 (σ : St) (x6 : Int32) (x8 : Int32) : Option (Int32 × St) :=
  if x8 = 0 then (
    some (0, σ)
  ) else (
    Option.bind (f_J6_signum_0f7a4 σ (x6)) fun q26 =>
    some (q26.1, q26.2)
  )
def f_X1_sideOfShoal_p155 (σ : St) (x6 : Int32) (t0 : Int32) : Option (Int32 × St) :=
  f_X1_sideOfShoal_p157 σ (x6) (t0)
def f_X1_sideOfShoal_p120 (σ : St) (x6 : Int32) (t0 : Int32) : Option (Int32 × St) :=
  f_X1_sideOfShoal_p157 σ (x6) (t0)
def f_X1_sideOfShoal (σ : St) (a1 : Int32) (a2 : Int32) (a3 : Int32) : Option (Int32 × St) :=
  Option.bind (f_X6_thingCell 14 σ (a2) (1)) fun q28 =>
  Option.bind (f_X6_thingCell 14 q28.2 (a1) (1)) fun q30 =>
  Option.bind (some (q28.1 - q30.1)) fun y32 =>
  Option.bind (f_X6_thingCell 14 q30.2 (a2) (2)) fun q34 =>
  Option.bind (f_X6_thingCell 14 q34.2 (a1) (2)) fun q36 =>
  Option.bind (some (q34.1 - q36.1)) fun y38 =>
  Option.bind (f_X6_thingCell 14 q36.2 (a3) (1)) fun q40 =>
  Option.bind (f_X6_thingCell 14 q40.2 (a3) (2)) fun q42 =>
  Option.bind (f_X1_leftOfLine q42.2 (a1) (a2) (q40.1) (q42.1)) fun q44 =>
  Option.bind (f_X6_thingCell 14 q44.2 (a3) (3)) fun q46 =>
  Option.bind (f_X6_thingCell 14 q46.2 (a3) (0)) fun q48 =>
  if q48.1 = 6 then (
    if (if 0 ≤ q44.1 then q44.1 else 0 - q44.1) ≤ (q46.1 * ((if 0 ≤ y32 then y32 else 0 - y32) + (if 0 ≤ y38 then y38 else 0 - y38))) then (
      f_X1_sideOfShoal_p120 q48.2 (q44.1) (0)
    ) else (
      f_X1_sideOfShoal_p120 q48.2 (q44.1) (1)
    )
  ) else (
    if (q44.1 * q44.1) ≤ ((q46.1 * q46.1) * ((y32 * y32) + (y38 * y38))) then (
      f_X1_sideOfShoal_p155 q48.2 (q44.1) (0)
    ) else (
      f_X1_sideOfShoal_p155 q48.2 (q44.1) (1)
    )
  )
def f_X1_shoalsOnSide_p53 (k6 : St → Int32 → Int32 → Int32 → Int32 → Int32 → Option (Int32 × St)) (σ : St) (x1 : Int32) (x2 : Int32) (x3 : Int32) (x4 : Int32) (x5 : Int32) : Option (Int32 × St) :=
  Option.bind (some (x5 + 1)) fun y12 =>
  k6 σ (x1) (x2) (x3) (x4) (y12)
def F_X1_shoalsOnSide_h6 (k6 : St → Int32 → Int32 → Int32 → Int32 → Int32 → Option (Int32 × St)) (σ : St) (x1 : Int32) (x2 : Int32) (x3 : Int32) (x4 : Int32) (x5 : Int32) : Option (Int32 × St) :=
  Option.bind (f_X6_thingCount 14 σ) fun q14 =>
  if q14.1 ≤ x5 then (
    some (x4, q14.2)
  ) else (
    Option.bind (f_X6_thingCell 14 q14.2 (x5) (0)) fun q17 =>
    if q17.1 < 4 then (
      f_X1_shoalsOnSide_p53 k6 q17.2 (x1) (x2) (x3) (x4) (x5)
    ) else (
      Option.bind (f_X1_sideOfShoal q17.2 (x1) (x2) (x5)) fun q20 =>
      if q20.1 = x3 then (
        Option.bind (some (x4 ||| (1 <<< (x5 &&& 31)))) fun y23 =>
        f_X1_shoalsOnSide_p53 k6 q20.2 (x1) (x2) (x3) (y23) (x5)
      ) else (
        f_X1_shoalsOnSide_p53 k6 q20.2 (x1) (x2) (x3) (x4) (x5)
      )
    )
  )
def z_X1_shoalsOnSide_h6 : St → Int32 → Int32 → Int32 → Int32 → Int32 → Option (Int32 × St) := fun _ _ _ _ _ _ => none
def f_X1_shoalsOnSide (σ : St) (a1 : Int32) (a2 : Int32) (a3 : Int32) : Option (Int32 × St) :=
  fx (F_X1_shoalsOnSide_h6) z_X1_shoalsOnSide_h6 FU σ (a1) (a2) (a3) (0) (0)
def f_X10_lines_p54 (σ : St) (x1 : Int32) (x2 : Int32) (t0 : Int32) : Option (Int32 × St) :=
  Option.bind (f_X1_shoalsOnSide σ (x1) (x2) (t0)) fun q14 =>
  some (q14.1, q14.2)
def f_X10_lines (σ : St) (a1 : Int32) (a2 : Int32) (a3 : Int32) : Option (Int32 × St) :=
  Option.bind (f_X10_isPair σ (a1) (a2)) fun q16 =>
  if q16.1 = 0 then (
    some ((-1000001), q16.2)
  ) else (
    Option.bind (f_X10_isWithin q16.2 (a3) (0) (2)) fun q19 =>
    if q19.1 = 0 then (
      some ((-1000001), q19.2)
    ) else (
      Option.bind (f_X1_isOnePlace q19.2 (a1) (a2)) fun q22 =>
      if q22.1 = 0 then (
        if a3 = 0 then (
          f_X10_lines_p54 q22.2 (a1) (a2) (1)
        ) else (
          if a3 = 1 then (
            f_X10_lines_p54 q22.2 (a1) (a2) ((-1))
          ) else (
            f_X10_lines_p54 q22.2 (a1) (a2) (0)
          )
        )
      ) else (
        some ((-1000002), q22.2)
      )
    )
  )
def f_X10_isStart (σ : St) (a1 : Int32) : Option (Int32 × St) :=
  Option.bind (f_X10_isWithin σ (a1) (0) (99)) fun q4 =>
  if q4.1 = 0 ∨ q4.1 = 1 then some (q4.1, q4.2) else none
def f_X8_noteTrack (σ : St) (a1 : Int32) : Option (St) :=
  if (σ 8 3) < 0 then (
    some σ
  ) else (
    if 360 < (σ 8 3) then (
      some σ
    ) else (
      if 0 ≤ (σ 8 3 : Int32).toInt ∧ (σ 8 3 : Int32).toInt < 361 then (
      Option.bind (some (g_u2 σ 19 ((σ 8 3).toNatClampNeg) (σ 8 4))) fun σ15 =>
      if 0 ≤ (σ15 8 3 : Int32).toInt ∧ (σ15 8 3 : Int32).toInt < 361 then (
      Option.bind (some (g_u2 σ15 20 ((σ15 8 3).toNatClampNeg) (σ15 8 5))) fun σ18 =>
      if 0 ≤ (σ18 8 3 : Int32).toInt ∧ (σ18 8 3 : Int32).toInt < 361 then (
      Option.bind (some (g_u2 σ18 21 ((σ18 8 3).toNatClampNeg) (a1))) fun σ21 =>
      some σ21
      ) else none
      ) else none
      ) else none
    )
  )
def f_X8_noteMinutes (σ : St) (a1 : Int32) (a2 : Int32) : Option (St) :=
  if a1 < 0 then (
    some σ
  ) else (
    if 6 ≤ a1 then (
      some σ
    ) else (
      if 0 ≤ (a1 : Int32).toInt ∧ (a1 : Int32).toInt < 6 then (
      Option.bind (some (g_u2 σ 22 ((a1).toNatClampNeg) (a2))) fun σ9 =>
      some σ9
      ) else none
    )
  )
def f_X9_takeUp_p115 (σ : St) : Option (Int32 × St) :=
  if (σ 12 3) = 2 then (
    Option.bind (f_X6_isMark 14 σ (σ 12 5)) fun q31 =>
    if q31.1 = 0 then (
      some (q31.2 12 5, q31.2)
    ) else (
      some ((-1000000), q31.2)
    )
  ) else (
    some ((-1000000), σ)
  )
def f_X9_takeUp (σ : St) (a1 : Int32) (a2 : Int32) (a3 : Int32) : Option (Int32 × St) :=
  Option.bind (some (g_u2 σ 12 2 (a3))) fun σ34 =>
  Option.bind (some (g_u2 σ34 12 6 (a2))) fun σ36 =>
  Option.bind (f_X6_legCell 14 σ36 (a1) (1)) fun q38 =>
  Option.bind (some (g_u2 q38.2 12 3 (q38.1))) fun σ40 =>
  Option.bind (f_X6_legCell 14 σ40 (a1) (2)) fun q42 =>
  Option.bind (some (g_u2 q42.2 12 4 (q42.1))) fun σ44 =>
  Option.bind (f_X6_legCell 14 σ44 (a1) (3)) fun q46 =>
  Option.bind (some (g_u2 q46.2 12 5 (q46.1))) fun σ48 =>
  if (σ48 12 3) = 0 then (
    some ((-1000000), σ48)
  ) else (
    if (σ48 12 3) = 4 then (
      some ((-1000000), σ48)
    ) else (
      Option.bind (f_X6_isMark 14 σ48 (σ48 12 4)) fun q52 =>
      if q52.1 = 0 then (
        some (q52.2 12 4, q52.2)
      ) else (
        if (q52.2 12 3) = 3 then (
          Option.bind (f_X6_thingCell 14 q52.2 (q52.2 12 4) (0)) fun q56 =>
          if q56.1 = 2 then (
            f_X9_takeUp_p115 q56.2
          ) else (
            some (q56.2 12 4, q56.2)
          )
        ) else (
          f_X9_takeUp_p115 q52.2
        )
      )
    )
  )
def f_X9_turnOfMarks (σ : St) (a1 : Int32) (a2 : Int32) (a3 : Int32) : Option (Int32 × St) :=
  Option.bind (f_X1_markX σ (σ 12 4) (a3)) fun q9 =>
  Option.bind (some (q9.1 - a1)) fun y11 =>
  Option.bind (f_X6_thingCell 14 q9.2 (q9.2 12 4) (2)) fun q13 =>
  Option.bind (some (q13.1 - a2)) fun y15 =>
  Option.bind (f_X1_markX q13.2 (q13.2 12 5) (a3)) fun q17 =>
  Option.bind (some (q17.1 - a1)) fun y19 =>
  Option.bind (f_X6_thingCell 14 q17.2 (q17.2 12 5) (2)) fun q21 =>
  Option.bind (some (q21.1 - a2)) fun y23 =>
  some ((y11 * y23) - (y15 * y19), q21.2)
def f_X9_begin_p58 (σ : St) (t0 : Int32) : Option (St) :=
  Option.bind (some (g_u2 σ 12 8 (t0))) fun σ13 =>
  some σ13
def f_X9_begin_p35 (σ : St) (x1 : Int32) (x2 : Int32) (x3 : Int32) (t0 : Int32) : Option (St) :=
  if t0 = 0 ∨ t0 = 1 then (
  Option.bind (some (g_u2 σ 12 7 (t0))) fun σ16 =>
  if (σ16 12 3) = 2 then (
    Option.bind (f_X9_turnOfMarks σ16 (x1) (x2) (x3)) fun q19 =>
    f_X9_begin_p58 q19.2 (q19.1)
  ) else (
    f_X9_begin_p58 σ16 (0)
  )
  ) else none
def f_X9_begin_p34 (σ : St) (x1 : Int32) (x2 : Int32) (x3 : Int32) : Option (St) :=
  f_X9_begin_p35 σ (x1) (x2) (x3) (0)
def f_X9_begin (σ : St) (a1 : Int32) (a2 : Int32) (a3 : Int32) : Option (St) :=
  if (σ 12 3) = 3 then (
    Option.bind (f_X1_isInSight σ (σ 12 4) (a1) (a2) (a3) (σ 12 2)) fun q22 =>
    if q22.1 = 0 then (
      f_X9_begin_p34 q22.2 (a1) (a2) (a3)
    ) else (
      f_X9_begin_p35 q22.2 (a1) (a2) (a3) (1)
    )
  ) else (
    f_X9_begin_p34 σ (a1) (a2) (a3)
  )
def f_X2_eastOf (σ : St) (a1 : Int32) : Option (Int32 × St) :=
  if 0 ≤ (a1 &&& 15 : Int32).toInt ∧ (a1 &&& 15 : Int32).toInt < 16 then (
  some (g_east.getD (a1 &&& 15).toNatClampNeg 0, σ)
  ) else none
def f_X2_northOf (σ : St) (a1 : Int32) : Option (Int32 × St) :=
  if 0 ≤ (a1 &&& 15 : Int32).toInt ∧ (a1 &&& 15 : Int32).toInt < 16 then (
  some (g_north.getD (a1 &&& 15).toNatClampNeg 0, σ)
  ) else none
def f_X8_noteKeel_p17 (σ : St) (x1 : Int32) : Option (St) :=
  Option.bind (some (g_u2 σ 8 10 (x1))) fun σ7 =>
  Option.bind (some (g_u2 σ7 8 11 (σ7 8 3))) fun σ9 =>
  some σ9
def f_X8_noteKeel (σ : St) (a1 : Int32) : Option (St) :=
  if (σ 8 11) = (-1000000) then (
    f_X8_noteKeel_p17 σ (a1)
  ) else (
    if (σ 8 10) ≤ a1 then (
      some σ
    ) else (
      f_X8_noteKeel_p17 σ (a1)
    )
  )
def f_X9_isAbeam (σ : St) (a1 : Int32) (a2 : Int32) (a3 : Int32) : Option (Int32 × St) :=
  Option.bind (f_X1_markX σ (σ 12 4) (a3)) fun q10 =>
  Option.bind (some (q10.1 - a1)) fun y12 =>
  Option.bind (f_X6_thingCell 14 q10.2 (q10.2 12 4) (2)) fun q14 =>
  Option.bind (some (q14.1 - a2)) fun y16 =>
  Option.bind (f_X2_eastOf q14.2 (q14.2 12 6)) fun q18 =>
  Option.bind (f_X2_northOf q18.2 (q18.2 12 6)) fun q20 =>
  if 0 < ((q18.1 * y12) + (q20.1 * y16)) then (
    some (0, q20.2)
  ) else (
    some (1, q20.2)
  )
def f_X9_isCrossed_p15 (σ : St) (x1 : Int32) : Option (Int32 × St) :=
  if x1 ≤ 0 then (
    some (0, σ)
  ) else (
    if 0 ≤ (σ 12 8) then (
      some (0, σ)
    ) else (
      some (1, σ)
    )
  )
def f_X9_isCrossed (σ : St) (a1 : Int32) : Option (Int32 × St) :=
  if a1 = 0 then (
    some (1, σ)
  ) else (
    if 0 ≤ a1 then (
      f_X9_isCrossed_p15 σ (a1)
    ) else (
      if 0 < (σ 12 8) then (
        some (1, σ)
      ) else (
        f_X9_isCrossed_p15 σ (a1)
      )
    )
  )
def f_X9_hasCome (σ : St) (a1 : Int32) (a2 : Int32) (a3 : Int32) (a4 : Int32) (a5 : Int32) : Option (Int32 × St) :=
  if (σ 12 3) = 0 then (
    if a1 < (σ 12 4) then (
      some (0, σ)
    ) else (
      some (1, σ)
    )
  ) else (
  if (σ 12 3) = 1 then (
    Option.bind (f_X1_isInSight σ (σ 12 4) (a2) (a3) (a4) (σ 12 2)) fun q29 =>
    if q29.1 = 0 then (
      some (0, q29.2)
    ) else (
      Option.bind (f_X9_isAbeam q29.2 (a2) (a3) (a4)) fun q32 =>
      if q32.1 = 0 then (
        some (0, q32.2)
      ) else (
        some (1, q32.2)
      )
    )
  ) else (
  if (σ 12 3) = 2 then (
    Option.bind (f_X1_isInSight σ (σ 12 4) (a2) (a3) (a4) (σ 12 2)) fun q36 =>
    if q36.1 = 0 then (
      some (0, q36.2)
    ) else (
      Option.bind (f_X1_isInSight q36.2 (q36.2 12 5) (a2) (a3) (a4) (q36.2 12 2)) fun q39 =>
      if q39.1 = 0 then (
        some (0, q39.2)
      ) else (
        Option.bind (f_X9_turnOfMarks q39.2 (a2) (a3) (a4)) fun q42 =>
        Option.bind (f_X9_isCrossed q42.2 (q42.1)) fun q44 =>
        if q44.1 = 0 then (
          some (0, q44.2)
        ) else (
          some (1, q44.2)
        )
      )
    )
  ) else (
  if (σ 12 3) = 3 then (
    Option.bind (f_X1_isInSight σ (σ 12 4) (a2) (a3) (a4) (σ 12 2)) fun q48 =>
    if q48.1 = (q48.2 12 7) then (
      some (0, q48.2)
    ) else (
      some (1, q48.2)
    )
  ) else (
    if (σ 12 4) < a5 then (
      some (0, σ)
    ) else (
      some (1, σ)
    )
  ))))
def F_X8_goLeg_h33 (k33 : St → Int32 → Int32 → Int32 → Option (St)) (σ : St) (x1 : Int32) (x2 : Int32) (x3 : Int32) : Option (St) :=
  if 60 < x3 then (
    Option.bind (some (g_u2 σ 8 8 (5))) fun σ44 =>
    some σ44
  ) else (
    Option.bind (f_X2_eastOf σ (x2)) fun q46 =>
    Option.bind (some (g_u2 q46.2 8 4 ((σ 8 4) + q46.1))) fun σ48 =>
    Option.bind (f_X2_northOf σ48 (x2)) fun q50 =>
    Option.bind (some (g_u2 q50.2 8 5 ((σ48 8 5) + q50.1))) fun σ52 =>
    Option.bind (some (g_u2 σ52 8 3 ((σ52 8 3) + 1))) fun σ54 =>
    Option.bind (f_X8_noteTrack σ54 (x1)) fun q56 =>
    Option.bind (f_X8_noteMinutes q56 (x1) (x3)) fun q58 =>
    Option.bind (f_X1_isCharted q58 (q58 8 4) (q58 8 5)) fun q60 =>
    if q60.1 = 0 then (
      Option.bind (some (g_u2 q60.2 8 8 (3))) fun σ81 =>
      some σ81
    ) else (
      Option.bind (f_X1_heightAt q60.2 ((q60.2 8 1) + (q60.2 8 3))) fun q63 =>
      Option.bind (f_X1_depthAt q63.2 (q63.2 8 4) (q63.2 8 5)) fun q65 =>
      Option.bind (some (q65.1 + q63.1)) fun y67 =>
      Option.bind (f_X8_noteKeel q65.2 (y67 - (q65.2 8 2))) fun q69 =>
      if (q69 8 2) ≤ y67 then (
        Option.bind (f_X9_hasCome q69 (x3) (q69 8 4) (q69 8 5) (q63.1) (y67)) fun q72 =>
        if q72.1 = 0 then (
          Option.bind (some (x3 + 1)) fun y75 =>
          k33 q72.2 (x1) (x2) (y75)
        ) else (
          Option.bind (some (g_u2 q72.2 8 7 (x1 + 1))) fun σ77 =>
          some σ77
        )
      ) else (
        Option.bind (some (g_u2 q69 8 8 (4))) fun σ79 =>
        some σ79
      )
    )
  )
def z_X8_goLeg_h33 : St → Int32 → Int32 → Int32 → Option (St) := fun _ _ _ _ => none
def f_X8_goLeg (σ : St) (a1 : Int32) (a2 : Int32) : Option (St) :=
  Option.bind (f_X1_heightAt σ ((σ 8 1) + (σ 8 3))) fun q83 =>
  Option.bind (f_X9_begin q83.2 (σ 8 4) (σ 8 5) (q83.1)) fun q85 =>
  fx (F_X8_goLeg_h33) z_X8_goLeg_h33 FU q85 (a1) (a2) (1)
def f_X8_harbourSquare (σ : St) : Option (Int32 × St) :=
  Option.bind (f_X6_shipCell 14 σ (3)) fun q5 =>
  Option.bind (some ((σ 8 4) - q5.1)) fun y7 =>
  Option.bind (f_X6_shipCell 14 q5.2 (4)) fun q9 =>
  Option.bind (some ((q5.2 8 5) - q9.1)) fun y11 =>
  some ((y7 * y7) + (y11 * y11), q9.2)
def f_X8_make_p212 (σ : St) (t0 : Int32) : Option (St) :=
  Option.bind (some (g_u2 σ 8 8 (t0))) fun σ57 =>
  some σ57
def f_X8_make_p188 (σ : St) : Option (St) :=
  if (σ 8 8) = (-1) then (
    Option.bind (f_X8_harbourSquare σ) fun q60 =>
    if 9 < q60.1 then (
      f_X8_make_p212 q60.2 (10)
    ) else (
      f_X8_make_p212 q60.2 (0)
    )
  ) else (
    some σ
  )
def f_X8_make_p182 (k81 : St → Int32 → Int32 → Int32 → Int32 → Option (St)) (σ : St) (x3 : Int32) (x4 : Int32) (x5 : Int32) (x6 : Int32) : Option (St) :=
  Option.bind (some (x6 + 1)) fun y63 =>
  k81 σ (x3) (x4) (x5) (y63)
def f_X8_make_p123 (k81 : St → Int32 → Int32 → Int32 → Int32 → Option (St)) (σ : St) (x3 : Int32) (x4 : Int32) (x5 : Int32) (x6 : Int32) (t0 : Int32) : Option (St) :=
  Option.bind (some (g_u2 σ 8 6 (x6 + 1))) fun σ65 =>
  Option.bind (f_X8_noteMinutes σ65 (x6) (0)) fun q67 =>
  Option.bind (f_X9_takeUp q67 (x6) (t0) (x3)) fun q69 =>
  Option.bind (some (g_u2 q69.2 8 9 (q69.1))) fun σ71 =>
  if (σ71 8 9) = (-1000000) then (
    Option.bind (f_X8_goLeg σ71 (x6) (t0)) fun q74 =>
    f_X8_make_p182 k81 q74 (x3) (x4) (x5) (x6)
  ) else (
    Option.bind (some (g_u2 σ71 8 8 (9))) fun σ76 =>
    f_X8_make_p182 k81 σ76 (x3) (x4) (x5) (x6)
  )
def F_X8_make_h81 (k81 : St → Int32 → Int32 → Int32 → Int32 → Option (St)) (σ : St) (x3 : Int32) (x4 : Int32) (x5 : Int32) (x6 : Int32) : Option (St) :=
  Option.bind (f_X6_legCount 14 σ) fun q78 =>
  if q78.1 ≤ x6 then (
    f_X8_make_p188 q78.2
  ) else (
    if (q78.2 8 8) = (-1) then (
      if x6 = x4 then (
        f_X8_make_p123 k81 q78.2 (x3) (x4) (x5) (x6) (x5)
      ) else (
        Option.bind (f_X6_legCell 14 q78.2 (x6) (0)) fun q83 =>
        f_X8_make_p123 k81 q83.2 (x3) (x4) (x5) (x6) (q83.1)
      )
    ) else (
      f_X8_make_p188 q78.2
    )
  )
def z_X8_make_h81 : St → Int32 → Int32 → Int32 → Int32 → Option (St) := fun _ _ _ _ _ => none
def f_X8_make (σ : St) (a1 : Int32) (a2 : Int32) (a3 : Int32) (a4 : Int32) (a5 : Int32) : Option (St) :=
  Option.bind (some (g_u2 σ 8 1 (a1))) fun σ85 =>
  Option.bind (some (g_u2 σ85 8 2 (a2))) fun σ87 =>
  Option.bind (some (g_u2 σ87 8 3 (0))) fun σ89 =>
  Option.bind (f_X6_shipCell 14 σ89 (1)) fun q91 =>
  Option.bind (some (g_u2 q91.2 8 4 (q91.1))) fun σ93 =>
  Option.bind (f_X6_shipCell 14 σ93 (2)) fun q95 =>
  Option.bind (some (g_u2 q95.2 8 5 (q95.1))) fun σ97 =>
  Option.bind (some (g_u2 σ97 8 6 (0))) fun σ99 =>
  Option.bind (some (g_u2 σ99 8 7 (0))) fun σ101 =>
  Option.bind (some (g_u2 σ101 8 8 ((-1)))) fun σ103 =>
  Option.bind (some (g_u2 σ103 8 9 ((-1000000)))) fun σ105 =>
  Option.bind (some (g_u2 σ105 8 10 ((-1000000)))) fun σ107 =>
  Option.bind (some (g_u2 σ107 8 11 ((-1000000)))) fun σ109 =>
  Option.bind (f_X8_noteTrack σ109 ((-1000000))) fun q111 =>
  fx (F_X8_make_h81) z_X8_make_h81 FU q111 (a3) (a4) (a5) (0)
def f_X10_makeVoyage (σ : St) (a1 : Int32) : Option (St) :=
  Option.bind (f_X6_shipCell 14 σ (0)) fun q5 =>
  Option.bind (f_X8_make q5.2 (a1) (q5.1) (0) ((-1)) (0)) fun q7 =>
  some q7
def f_X8_arrives (σ : St) : Option (Int32 × St) :=
  if (σ 8 8) = 0 then (
    some (1, σ)
  ) else (
    some (0, σ)
  )
def f_X10_sail (σ : St) (a1 : Int32) (a2 : Int32) : Option (Int32 × St) :=
  Option.bind (f_X6_isTold 14 σ) fun q21 =>
  if q21.1 = 0 then (
    some ((-1000002), q21.2)
  ) else (
    Option.bind (f_X10_isStart q21.2 (a1)) fun q24 =>
    if q24.1 = 0 then (
      some ((-1000001), q24.2)
    ) else (
      Option.bind (f_X10_isWithin q24.2 (a2) (0) (6)) fun q27 =>
      if q27.1 = 0 then (
        some ((-1000001), q27.2)
      ) else (
        Option.bind (f_X10_makeVoyage q27.2 (a1)) fun q30 =>
        if a2 = 0 then (
          some (q30 8 3, q30)
        ) else (
        if a2 = 1 then (
          some (q30 8 4, q30)
        ) else (
        if a2 = 2 then (
          some (q30 8 5, q30)
        ) else (
        if a2 = 3 then (
          some (q30 8 7, q30)
        ) else (
        if a2 = 4 then (
          Option.bind (f_X8_arrives q30) fun q36 =>
          if q36.1 = 0 then (
            some (0, q36.2)
          ) else (
            some (1, q36.2)
          )
        ) else (
        if a2 = 5 then (
          some (q30 8 10, q30)
        ) else (
          some (q30 8 11, q30)
        ))))))
      )
    )
  )
def f_X8_trackCell (σ : St) (a1 : Int32) (a2 : Int32) : Option (Int32 × St) :=
  if a1 < 0 then (
    some ((-1000000), σ)
  ) else (
    if (σ 8 3) < a1 then (
      some ((-1000000), σ)
    ) else (
      if a1 ≤ 360 then (
        if a2 = 0 then (
          if 0 ≤ (a1 : Int32).toInt ∧ (a1 : Int32).toInt < 361 then (
          some (σ 19 (a1).toNatClampNeg, σ)
          ) else none
        ) else (
          if a2 = 1 then (
            if 0 ≤ (a1 : Int32).toInt ∧ (a1 : Int32).toInt < 361 then (
            some (σ 20 (a1).toNatClampNeg, σ)
            ) else none
          ) else (
            if 0 ≤ (a1 : Int32).toInt ∧ (a1 : Int32).toInt < 361 then (
            some (σ 21 (a1).toNatClampNeg, σ)
            ) else none
          )
        )
      ) else (
        some ((-1000000), σ)
      )
    )
  )
def f_X10_track (σ : St) (a1 : Int32) (a2 : Int32) (a3 : Int32) : Option (Int32 × St) :=
  Option.bind (f_X6_isTold 14 σ) fun q15 =>
  if q15.1 = 0 then (
    some ((-1000002), q15.2)
  ) else (
    Option.bind (f_X10_isStart q15.2 (a1)) fun q18 =>
    if q18.1 = 0 then (
      some ((-1000001), q18.2)
    ) else (
      if a2 < 0 then (
        some ((-1000001), q18.2)
      ) else (
        Option.bind (f_X10_isWithin q18.2 (a3) (0) (2)) fun q22 =>
        if q22.1 = 0 then (
          some ((-1000001), q22.2)
        ) else (
          Option.bind (f_X10_makeVoyage q22.2 (a1)) fun q25 =>
          Option.bind (f_X8_trackCell q25 (a2) (a3)) fun q27 =>
          some (q27.1, q27.2)
        )
      )
    )
  )
def f_X0_addCause (σ : St) (a1 : Int32) (a2 : Int32) : Option (St) :=
  if (σ 9 6) < 0 then (
    some σ
  ) else (
    if 4 ≤ (σ 9 6) then (
      some σ
    ) else (
      if 0 ≤ (σ 9 6 : Int32).toInt ∧ (σ 9 6 : Int32).toInt < 4 then (
      Option.bind (some (g_u2 σ 23 ((σ 9 6).toNatClampNeg) (a1))) fun σ14 =>
      if 0 ≤ (σ14 9 6 : Int32).toInt ∧ (σ14 9 6 : Int32).toInt < 4 then (
      Option.bind (some (g_u2 σ14 24 ((σ14 9 6).toNatClampNeg) (a2))) fun σ17 =>
      Option.bind (some (g_u2 σ17 9 6 ((σ17 9 6) + 1))) fun σ19 =>
      some σ19
      ) else none
      ) else none
    )
  )
def f_X9_untilSort (σ : St) : Option (Int32 × St) :=
  some (σ 12 3, σ)
def f_X9_firstUnseen_p19 (σ : St) (x1 : Int32) (x2 : Int32) (x3 : Int32) : Option (Int32 × St) :=
  Option.bind (f_X1_isInSight σ (σ 12 4) (x1) (x2) (x3) (σ 12 2)) fun q10 =>
  if q10.1 = 0 then (
    some (q10.2 12 4, q10.2)
  ) else (
    if (q10.2 12 3) = 2 then (
      Option.bind (f_X1_isInSight q10.2 (q10.2 12 5) (x1) (x2) (x3) (q10.2 12 2)) fun q14 =>
      if q14.1 = 0 then (
        some (q14.2 12 5, q14.2)
      ) else (
        some ((-1000000), q14.2)
      )
    ) else (
      some ((-1000000), q10.2)
    )
  )
def f_X9_firstUnseen (σ : St) (a1 : Int32) (a2 : Int32) (a3 : Int32) : Option (Int32 × St) :=
  if (σ 12 3) = 1 then (
    f_X9_firstUnseen_p19 σ (a1) (a2) (a3)
  ) else (
    if (σ 12 3) = 2 then (
      f_X9_firstUnseen_p19 σ (a1) (a2) (a3)
    ) else (
      some ((-1000000), σ)
    )
  )
def F_X1_greatestHeight_h4 (k4 : St → Int32 → Int32 → Option (Int32 × St)) (σ : St) (x1 : Int32) (x2 : Int32) : Option (Int32 × St) :=
  Option.bind (f_X6_heightCount 14 σ) fun q8 =>
  if q8.1 ≤ x2 then (
    some (x1, q8.2)
  ) else (
    Option.bind (f_X6_heightCell 14 q8.2 (x2)) fun q11 =>
    Option.bind (some (if x1 < q11.1 then q11.1 else x1)) fun y13 =>
    Option.bind (some (x2 + 1)) fun y15 =>
    k4 q11.2 (y13) (y15)
  )
def z_X1_greatestHeight_h4 : St → Int32 → Int32 → Option (Int32 × St) := fun _ _ _ => none
def f_X1_greatestHeight (σ : St) : Option (Int32 × St) :=
  fx (F_X1_greatestHeight_h4) z_X1_greatestHeight_h4 FU σ (0) (0)
def f_X0_addLackOfWater (σ : St) (a1 : Int32) : Option (St) :=
  Option.bind (f_X1_depthAt σ (σ 8 4) (σ 8 5)) fun q10 =>
  Option.bind (some ((σ 8 2) - q10.1)) fun y12 =>
  Option.bind (f_X1_greatestHeight q10.2) fun q14 =>
  Option.bind (some (y12 - q14.1)) fun y16 =>
  if 0 < y16 then (
    Option.bind (f_X0_addCause q14.2 (7) (y16)) fun q19 =>
    some q19
  ) else (
    Option.bind (f_X0_addCause q14.2 (6) (y12 - a1)) fun q21 =>
    some q21
  )
def f_X0_sideOff (σ : St) : Option (Int32 × St) :=
  if 0 ≤ (σ 8 4) then (
    if (σ 8 4) ≤ 60 then (
      if 0 ≤ (σ 8 5) then (
        some (3, σ)
      ) else (
        some (2, σ)
      )
    ) else (
      some (1, σ)
    )
  ) else (
    some (0, σ)
  )
def f_X0_findCausesInLeg (σ : St) : Option (St) :=
  Option.bind (f_X1_heightAt σ ((σ 8 1) + (σ 8 3))) fun q24 =>
  if (q24.2 8 8) = 3 then (
    Option.bind (f_X0_sideOff q24.2) fun q43 =>
    Option.bind (f_X0_addCause q43.2 (3) (q43.1)) fun q45 =>
    some q45
  ) else (
    if (q24.2 8 8) = 4 then (
      Option.bind (f_X1_firstShoalAt q24.2 (q24.2 8 4) (q24.2 8 5)) fun q37 =>
      Option.bind (f_X0_addCause q37.2 (4) (q37.1)) fun q39 =>
      Option.bind (f_X0_addLackOfWater q39 (q24.1)) fun q41 =>
      some q41
    ) else (
      Option.bind (f_X9_untilSort q24.2) fun q28 =>
      Option.bind (f_X0_addCause q28.2 (5) (q28.1)) fun q30 =>
      Option.bind (f_X9_firstUnseen q30 (q30 8 4) (q30 8 5) (q24.1)) fun q32 =>
      if q32.1 = (-1000000) then (
        some q32.2
      ) else (
        Option.bind (f_X0_addCause q32.2 (8) (q32.1)) fun q35 =>
        some q35
      )
    )
  )
def f_X0_findCauses (σ : St) : Option (St) :=
  Option.bind (some (g_u2 σ 9 6 (0))) fun σ24 =>
  if (σ24 8 8) = 0 then (
    some σ24
  ) else (
  if (σ24 8 8) = 9 then (
    Option.bind (f_X0_addCause σ24 (1) ((σ24 8 6) - 1)) fun q27 =>
    Option.bind (f_X0_addCause q27 (9) (q27 8 9)) fun q29 =>
    some q29
  ) else (
  if (σ24 8 8) = 10 then (
    Option.bind (f_X6_legCount 14 σ24) fun q32 =>
    Option.bind (f_X0_addCause q32.2 (1) (q32.1)) fun q34 =>
    Option.bind (f_X8_harbourSquare q34) fun q36 =>
    Option.bind (f_X0_addCause q36.2 (10) (q36.1)) fun q38 =>
    some q38
  ) else (
    Option.bind (f_X0_addCause σ24 (1) ((σ24 8 6) - 1)) fun q41 =>
    Option.bind (f_X0_addCause q41 (2) (q41 8 3)) fun q43 =>
    Option.bind (f_X0_findCausesInLeg q43) fun q45 =>
    some q45
  )))
def f_X0_numberOf (σ : St) (a1 : Int32) : Option (Int32 × St) :=
  if a1 < 0 then (
    some ((-1000000), σ)
  ) else (
    if (σ 9 6) ≤ a1 then (
      some ((-1000000), σ)
    ) else (
      if 4 ≤ a1 then (
        some ((-1000000), σ)
      ) else (
        if 0 ≤ (a1 : Int32).toInt ∧ (a1 : Int32).toInt < 4 then (
        some (σ 24 (a1).toNatClampNeg, σ)
        ) else none
      )
    )
  )
def f_X0_kindOf (σ : St) (a1 : Int32) : Option (Int32 × St) :=
  if a1 < 0 then (
    some ((-1000000), σ)
  ) else (
    if (σ 9 6) ≤ a1 then (
      some ((-1000000), σ)
    ) else (
      if 4 ≤ a1 then (
        some ((-1000000), σ)
      ) else (
        if 0 ≤ (a1 : Int32).toInt ∧ (a1 : Int32).toInt < 4 then (
        some (σ 23 (a1).toNatClampNeg, σ)
        ) else none
      )
    )
  )
def f_X10_why (σ : St) (a1 : Int32) (a2 : Int32) (a3 : Int32) : Option (Int32 × St) :=
  Option.bind (f_X6_isTold 14 σ) fun q20 =>
  if q20.1 = 0 then (
    some ((-1000002), q20.2)
  ) else (
    Option.bind (f_X10_isStart q20.2 (a1)) fun q23 =>
    if q23.1 = 0 then (
      some ((-1000001), q23.2)
    ) else (
      if a2 < 0 then (
        some ((-1000001), q23.2)
      ) else (
        Option.bind (f_X10_isWithin q23.2 (a3) (0) (1)) fun q27 =>
        if q27.1 = 0 then (
          some ((-1000001), q27.2)
        ) else (
          Option.bind (f_X10_makeVoyage q27.2 (a1)) fun q30 =>
          Option.bind (f_X0_findCauses q30) fun q32 =>
          if a3 = 0 then (
            Option.bind (f_X0_kindOf q32 (a2)) fun q37 =>
            some (q37.1, q37.2)
          ) else (
            Option.bind (f_X0_numberOf q32 (a2)) fun q35 =>
            some (q35.1, q35.2)
          )
        )
      )
    )
  )
def f_X0_writeSign (σ : St) (a1 : Int32) : Option (St) :=
  if (σ 9 7) < 0 then (
    some σ
  ) else (
    if 64 ≤ (σ 9 7) then (
      some σ
    ) else (
      if 0 ≤ (σ 9 7 : Int32).toInt ∧ (σ 9 7 : Int32).toInt < 64 then (
      Option.bind (some (g_u2 σ 25 ((σ 9 7).toNatClampNeg) (a1))) fun σ11 =>
      Option.bind (some (g_u2 σ11 9 7 ((σ11 9 7) + 1))) fun σ13 =>
      some σ13
      ) else none
    )
  )
def F_X0_writeGreat_h2 (k2 : St → Nat → Int32 → Option (St)) (σ : St) (x1 : Nat) (x2 : Int32) : Option (St) :=
  if (x1 : Nat) < 18 then (
  Option.bind (f_J0_length_8abf5 σ (x1)) fun q12 =>
  if q12.1 ≤ x2 then (
    some q12.2
  ) else (
    if (x1 : Nat) < 18 then (
    Option.bind (f_J0_charAt_5068e q12.2 (x1) (x2)) fun q16 =>
    Option.bind (f_X0_writeSign q16.2 (q16.1 + (-32))) fun q19 =>
    Option.bind (some (x2 + 1)) fun y21 =>
    k2 q19 (x1) (y21)
    ) else none
  )
  ) else none
def z_X0_writeGreat_h2 : St → Nat → Int32 → Option (St) := fun _ _ _ => none
def f_X0_writeGreat (σ : St) (a1 : Nat) : Option (St) :=
  fx (F_X0_writeGreat_h2) z_X0_writeGreat_h2 FU σ (a1) (0)
def f_X8_minutesOf (σ : St) (a1 : Int32) : Option (Int32 × St) :=
  if a1 < 0 then (
    some (0, σ)
  ) else (
    if 6 ≤ a1 then (
      some (0, σ)
    ) else (
      if 0 ≤ (a1 : Int32).toInt ∧ (a1 : Int32).toInt < 6 then (
      some (σ 22 (a1).toNatClampNeg, σ)
      ) else none
    )
  )
def f_X0_writeFigures_p20 (σ : St) (x1 : Int32) : Option (St) :=
  Option.bind (f_X0_writeSign σ (48 + (x1 - x1 / 10 * 10))) fun q6 =>
  some q6
def f_X0_writeFigures (σ : St) (a1 : Int32) : Option (St) :=
  if a1 < 10 then (
    f_X0_writeFigures_p20 σ (a1)
  ) else (
    Option.bind (f_X0_writeSign σ (48 + ((a1 / 10) - (a1 / 10) / 10 * 10))) fun q9 =>
    f_X0_writeFigures_p20 q9 (a1)
  )
def f_X0_writeLog_p99 (k81 : St → Int32 → Option (St)) (σ : St) (x1 : Int32) : Option (St) :=
  Option.bind (f_X0_kindOf σ (x1)) fun q33 =>
  Option.bind (f_X0_writeFigures q33.2 (q33.1)) fun q35 =>
  Option.bind (some (x1 + 1)) fun y37 =>
  k81 q35 (y37)
def F_X0_writeLog_h81 (k81 : St → Int32 → Option (St)) (σ : St) (x1 : Int32) : Option (St) :=
  if (σ 9 6) ≤ x1 then (
    some σ
  ) else (
    if x1 ≤ 0 then (
      f_X0_writeLog_p99 k81 σ (x1)
    ) else (
      Option.bind (f_X0_writeSign σ (44)) fun q41 =>
      f_X0_writeLog_p99 k81 q41 (x1)
    )
  )
def z_X0_writeLog_h81 : St → Int32 → Option (St) := fun _ _ => none
def f_X0_writeLog_p76 (σ : St) (t0 : Int32) : Option (St) :=
  Option.bind (f_X0_writeSign σ (t0)) fun q43 =>
  fx (F_X0_writeLog_h81) z_X0_writeLog_h81 FU q43 (0)
def F_X0_writeLog_h7 (k7 : St → Int32 → Option (St)) (σ : St) (x1 : Int32) : Option (St) :=
  if (σ 8 6) ≤ x1 then (
    Option.bind (f_X8_arrives σ) fun q46 =>
    if q46.1 = 0 then (
      f_X0_writeLog_p76 q46.2 (33)
    ) else (
      f_X0_writeLog_p76 q46.2 (46)
    )
  ) else (
    Option.bind (f_X6_legCell 14 σ (x1) (0)) fun q49 =>
    Option.bind (f_X2_nameOf q49.2 (q49.1)) fun q51 =>
    Option.bind (f_X0_writeGreat q51.2 (q51.1)) fun q53 =>
    Option.bind (f_X8_minutesOf q53 (x1)) fun q55 =>
    Option.bind (f_X0_writeFigures q55.2 (q55.1)) fun q57 =>
    Option.bind (f_X0_writeSign q57 (59)) fun q59 =>
    Option.bind (some (x1 + 1)) fun y61 =>
    k7 q59 (y61)
  )
def z_X0_writeLog_h7 : St → Int32 → Option (St) := fun _ _ => none
def f_X0_writeLog (σ : St) : Option (St) :=
  Option.bind (some (g_u2 σ 9 7 (0))) fun σ63 =>
  fx (F_X0_writeLog_h7) z_X0_writeLog_h7 FU σ63 (0)
def f_X0_signAt (σ : St) (a1 : Int32) : Option (Int32 × St) :=
  if a1 < 0 then (
    some ((-1000000), σ)
  ) else (
    if (σ 9 7) ≤ a1 then (
      some ((-1000000), σ)
    ) else (
      if 64 ≤ a1 then (
        some ((-1000000), σ)
      ) else (
        if 0 ≤ (a1 : Int32).toInt ∧ (a1 : Int32).toInt < 64 then (
        some (σ 25 (a1).toNatClampNeg, σ)
        ) else none
      )
    )
  )
def f_X10_sign (σ : St) (a1 : Int32) (a2 : Int32) : Option (Int32 × St) :=
  Option.bind (f_X6_isTold 14 σ) fun q16 =>
  if q16.1 = 0 then (
    some ((-1000002), q16.2)
  ) else (
    Option.bind (f_X10_isStart q16.2 (a1)) fun q19 =>
    if q19.1 = 0 then (
      some ((-1000001), q19.2)
    ) else (
      if 0 ≤ a2 then (
        Option.bind (f_X10_makeVoyage q19.2 (a1)) fun q23 =>
        Option.bind (f_X0_findCauses q23) fun q25 =>
        Option.bind (f_X0_writeLog q25) fun q27 =>
        Option.bind (f_X0_signAt q27 (a2)) fun q29 =>
        some (q29.1, q29.2)
      ) else (
        some ((-1000001), q19.2)
      )
    )
  )
def f_X3_startsThatArrive_p45 (k4 : St → Int32 → Int32 → Option (Int32 × St)) (σ : St) (x1 : Int32) (x2 : Int32) : Option (Int32 × St) :=
  Option.bind (some (x2 + 1)) fun y11 =>
  k4 σ (x1) (y11)
def F_X3_startsThatArrive_h4 (k4 : St → Int32 → Int32 → Option (Int32 × St)) (σ : St) (x1 : Int32) (x2 : Int32) : Option (Int32 × St) :=
  if 30 ≤ x2 then (
    some (x1, σ)
  ) else (
    Option.bind (f_X6_shipCell 14 σ (0)) fun q14 =>
    Option.bind (f_X8_make q14.2 (x2) (q14.1) (0) ((-1)) (0)) fun q16 =>
    Option.bind (f_X8_arrives q16) fun q18 =>
    if q18.1 = 0 then (
      f_X3_startsThatArrive_p45 k4 q18.2 (x1) (x2)
    ) else (
      Option.bind (some (x1 ||| (1 <<< (x2 &&& 31)))) fun y21 =>
      f_X3_startsThatArrive_p45 k4 q18.2 (y21) (x2)
    )
  )
def z_X3_startsThatArrive_h4 : St → Int32 → Int32 → Option (Int32 × St) := fun _ _ _ => none
def f_X3_startsThatArrive (σ : St) : Option (Int32 × St) :=
  fx (F_X3_startsThatArrive_h4) z_X3_startsThatArrive_h4 FU σ (0) (0)
def f_X10_times (σ : St) : Option (Int32 × St) :=
  Option.bind (f_X6_isTold 14 σ) fun q6 =>
  if q6.1 = 0 then (
    some ((-1000002), q6.2)
  ) else (
    Option.bind (f_X3_startsThatArrive q6.2) fun q9 =>
    some (q9.1, q9.2)
  )
def f_X3_greatestDraught (σ : St) (a1 : Int32) : Option (Int32 × St) :=
  Option.bind (f_X8_make σ (a1) (0) (0) ((-1)) (0)) fun q6 =>
  Option.bind (f_X8_arrives q6) fun q8 =>
  if q8.1 = 0 then (
    some ((-1000000), q8.2)
  ) else (
    some (if 20 < (q8.2 8 10) then 20 else (q8.2 8 10), q8.2)
  )
def f_X10_deepest (σ : St) (a1 : Int32) : Option (Int32 × St) :=
  Option.bind (f_X6_isTold 14 σ) fun q9 =>
  if q9.1 = 0 then (
    some ((-1000002), q9.2)
  ) else (
    Option.bind (f_X10_isStart q9.2 (a1)) fun q12 =>
    if q12.1 = 0 then (
      some ((-1000001), q12.2)
    ) else (
      Option.bind (f_X3_greatestDraught q12.2 (a1)) fun q15 =>
      some (q15.1, q15.2)
    )
  )
def f_X3_coursesThatArrive_p49 (k5 : St → Int32 → Int32 → Int32 → Int32 → Option (Int32 × St)) (σ : St) (x1 : Int32) (x2 : Int32) (x3 : Int32) (x4 : Int32) : Option (Int32 × St) :=
  Option.bind (some (x4 + 1)) fun y11 =>
  k5 σ (x1) (x2) (x3) (y11)
def F_X3_coursesThatArrive_h5 (k5 : St → Int32 → Int32 → Int32 → Int32 → Option (Int32 × St)) (σ : St) (x1 : Int32) (x2 : Int32) (x3 : Int32) (x4 : Int32) : Option (Int32 × St) :=
  if 16 ≤ x4 then (
    some (x3, σ)
  ) else (
    Option.bind (f_X6_shipCell 14 σ (0)) fun q14 =>
    Option.bind (f_X8_make q14.2 (x2) (q14.1) (0) (x1) (x4)) fun q16 =>
    Option.bind (f_X8_arrives q16) fun q18 =>
    if q18.1 = 0 then (
      f_X3_coursesThatArrive_p49 k5 q18.2 (x1) (x2) (x3) (x4)
    ) else (
      Option.bind (some (x3 ||| (1 <<< (x4 &&& 31)))) fun y21 =>
      f_X3_coursesThatArrive_p49 k5 q18.2 (x1) (x2) (y21) (x4)
    )
  )
def z_X3_coursesThatArrive_h5 : St → Int32 → Int32 → Int32 → Int32 → Option (Int32 × St) := fun _ _ _ _ _ => none
def f_X3_coursesThatArrive (σ : St) (a1 : Int32) (a2 : Int32) : Option (Int32 × St) :=
  fx (F_X3_coursesThatArrive_h5) z_X3_coursesThatArrive_h5 FU σ (a1) (a2) (0) (0)
def f_X10_courses (σ : St) (a1 : Int32) (a2 : Int32) : Option (Int32 × St) :=
  Option.bind (f_X6_hasLeg 14 σ (a1)) fun q9 =>
  if q9.1 = 0 then (
    some ((-1000001), q9.2)
  ) else (
    Option.bind (f_X10_isStart q9.2 (a2)) fun q12 =>
    if q12.1 = 0 then (
      some ((-1000001), q12.2)
    ) else (
      Option.bind (f_X3_coursesThatArrive q12.2 (a1) (a2)) fun q15 =>
      some (q15.1, q15.2)
    )
  )
def f_X3_marksThatMatter_p176 (k59 : St → Int32 → Int32 → Int32 → Int32 → Int32 → Int32 → Int32 → Option (Int32 × St)) (σ : St) (x1 : Int32) (x2 : Int32) (x3 : Int32) (x4 : Int32) (x5 : Int32) (x6 : Int32) (x7 : Int32) : Option (Int32 × St) :=
  Option.bind (some (x7 + 1)) fun y26 =>
  k59 σ (x1) (x2) (x3) (x4) (x5) (x6) (y26)
def f_X3_marksThatMatter_p173 (k59 : St → Int32 → Int32 → Int32 → Int32 → Int32 → Int32 → Int32 → Option (Int32 × St)) (σ : St) (x1 : Int32) (x2 : Int32) (x3 : Int32) (x4 : Int32) (x5 : Int32) (x7 : Int32) (t0 : Int32) (t1 : Int32) : Option (Int32 × St) :=
  Option.bind (some (t1 ||| t0)) fun y28 =>
  f_X3_marksThatMatter_p176 k59 σ (x1) (x2) (x3) (x4) (x5) (y28) (x7)
def f_X3_marksThatMatter_p156 (k59 : St → Int32 → Int32 → Int32 → Int32 → Int32 → Int32 → Int32 → Option (Int32 × St)) (σ : St) (x1 : Int32) (x2 : Int32) (x3 : Int32) (x4 : Int32) (x5 : Int32) (x6 : Int32) (x7 : Int32) (t0 : Int32) : Option (Int32 × St) :=
  if t0 = 0 then (
    f_X3_marksThatMatter_p173 k59 σ (x1) (x2) (x3) (x4) (x5) (x7) (1 <<< (x7 &&& 31)) (x6)
  ) else (
    f_X3_marksThatMatter_p173 k59 σ (x1) (x2) (x3) (x4) (x5) (x7) (0) (x6)
  )
def f_X3_marksThatMatter_p155 (k59 : St → Int32 → Int32 → Int32 → Int32 → Int32 → Int32 → Int32 → Option (Int32 × St)) (σ : St) (x1 : Int32) (x2 : Int32) (x3 : Int32) (x4 : Int32) (x5 : Int32) (x6 : Int32) (x7 : Int32) : Option (Int32 × St) :=
  f_X3_marksThatMatter_p156 k59 σ (x1) (x2) (x3) (x4) (x5) (x6) (x7) (0)
def F_X3_marksThatMatter_h59 (k59 : St → Int32 → Int32 → Int32 → Int32 → Int32 → Int32 → Int32 → Option (Int32 × St)) (σ : St) (x1 : Int32) (x2 : Int32) (x3 : Int32) (x4 : Int32) (x5 : Int32) (x6 : Int32) (x7 : Int32) : Option (Int32 × St) :=
  Option.bind (f_X6_thingCount 14 σ) fun q31 =>
  if q31.1 ≤ x7 then (
    some (x6, q31.2)
  ) else (
    Option.bind (f_X6_isMark 14 q31.2 (x7)) fun q34 =>
    if q34.1 = 0 then (
      f_X3_marksThatMatter_p176 k59 q34.2 (x1) (x2) (x3) (x4) (x5) (x6) (x7)
    ) else (
      Option.bind (f_X6_shipCell 14 q34.2 (0)) fun q37 =>
      Option.bind (f_X8_make q37.2 (x1) (q37.1) (1 <<< (x7 &&& 31)) ((-1)) (0)) fun q39 =>
      Option.bind (f_X8_arrives q39) fun q41 =>
      if q41.1 = x2 then (
        if (q41.2 8 3) = x3 then (
          if (q41.2 8 4) = x4 then (
            if (q41.2 8 5) = x5 then (
              f_X3_marksThatMatter_p156 k59 q41.2 (x1) (x2) (x3) (x4) (x5) (x6) (x7) (1)
            ) else (
              f_X3_marksThatMatter_p155 k59 q41.2 (x1) (x2) (x3) (x4) (x5) (x6) (x7)
            )
          ) else (
            f_X3_marksThatMatter_p155 k59 q41.2 (x1) (x2) (x3) (x4) (x5) (x6) (x7)
          )
        ) else (
          f_X3_marksThatMatter_p155 k59 q41.2 (x1) (x2) (x3) (x4) (x5) (x6) (x7)
        )
      ) else (
        f_X3_marksThatMatter_p155 k59 q41.2 (x1) (x2) (x3) (x4) (x5) (x6) (x7)
      )
    )
  )
def z_X3_marksThatMatter_h59 : St → Int32 → Int32 → Int32 → Int32 → Int32 → Int32 → Int32 → Option (Int32 × St) := fun _ _ _ _ _ _ _ _ => none
def f_X3_marksThatMatter (σ : St) (a1 : Int32) : Option (Int32 × St) :=
  Option.bind (f_X6_shipCell 14 σ (0)) fun q47 =>
  Option.bind (f_X8_make q47.2 (a1) (q47.1) (0) ((-1)) (0)) fun q49 =>
  Option.bind (f_X8_arrives q49) fun q51 =>
  Option.bind (some (q51.2 8 3)) fun y53 =>
  Option.bind (some (q51.2 8 4)) fun y55 =>
  Option.bind (some (q51.2 8 5)) fun y57 =>
  fx (F_X3_marksThatMatter_h59) z_X3_marksThatMatter_h59 FU q51.2 (a1) (q51.1) (y53) (y55) (y57) (0) (0)
def f_X10_needed (σ : St) (a1 : Int32) : Option (Int32 × St) :=
  Option.bind (f_X6_isTold 14 σ) fun q9 =>
  if q9.1 = 0 then (
    some ((-1000002), q9.2)
  ) else (
    Option.bind (f_X10_isStart q9.2 (a1)) fun q12 =>
    if q12.1 = 0 then (
      some ((-1000001), q12.2)
    ) else (
      Option.bind (f_X3_marksThatMatter q12.2 (a1)) fun q15 =>
      some (q15.1, q15.2)
    )
  )
def f_X1_squareFrom (σ : St) (a1 : Int32) (a2 : Int32) (a3 : Int32) : Option (Int32 × St) :=
  Option.bind (f_X6_thingCell 14 σ (a1) (1)) fun q5 =>
  Option.bind (some (a2 - q5.1)) fun y7 =>
  Option.bind (f_X6_thingCell 14 q5.2 (a1) (2)) fun q9 =>
  Option.bind (some (a3 - q9.1)) fun y11 =>
  some ((y7 * y7) + (y11 * y11), q9.2)
def F_X3_leastSquare_h25 (k25 : St → Int32 → Int32 → Int32 → Option (Int32 × St)) (σ : St) (x1 : Int32) (x3 : Int32) (x4 : Int32) : Option (Int32 × St) :=
  if (σ 8 3) < x4 then (
    some (x3, σ)
  ) else (
    Option.bind (f_X8_trackCell σ (x4) (0)) fun q15 =>
    Option.bind (f_X8_trackCell q15.2 (x4) (1)) fun q17 =>
    Option.bind (f_X1_squareFrom q17.2 (x1) (q15.1) (q17.1)) fun q19 =>
    Option.bind (some (if q19.1 < x3 then q19.1 else x3)) fun y21 =>
    Option.bind (some (x4 + 1)) fun y23 =>
    k25 q19.2 (x1) (y21) (y23)
  )
def z_X3_leastSquare_h25 : St → Int32 → Int32 → Int32 → Option (Int32 × St) := fun _ _ _ _ => none
def f_X3_leastSquare (σ : St) (a1 : Int32) (a2 : Int32) : Option (Int32 × St) :=
  Option.bind (f_X6_shipCell 14 σ (0)) fun q25 =>
  Option.bind (f_X8_make q25.2 (a2) (q25.1) (0) ((-1)) (0)) fun q27 =>
  fx (F_X3_leastSquare_h25) z_X3_leastSquare_h25 FU q27 (a1) (2147483647) (0)
def f_X10_near (σ : St) (a1 : Int32) (a2 : Int32) : Option (Int32 × St) :=
  Option.bind (f_X6_hasThing 14 σ (a1)) fun q9 =>
  if q9.1 = 0 then (
    some ((-1000001), q9.2)
  ) else (
    Option.bind (f_X10_isStart q9.2 (a2)) fun q12 =>
    if q12.1 = 0 then (
      some ((-1000001), q12.2)
    ) else (
      Option.bind (f_X3_leastSquare q12.2 (a1) (a2)) fun q15 =>
      some (q15.1, q15.2)
    )
  )
def f_X3_markBit (σ : St) (a1 : Int32) : Option (Int32 × St) :=
  Option.bind (f_X6_isMark 14 σ (a1)) fun q4 =>
  if q4.1 = 0 then (
    some (0, q4.2)
  ) else (
    some (1 <<< (a1 &&& 31), q4.2)
  )
def f_X3_marksAwaited_p89 (k4 : St → Int32 → Int32 → Option (Int32 × St)) (σ : St) (x1 : Int32) (x2 : Int32) : Option (Int32 × St) :=
  Option.bind (some (x2 + 1)) fun y21 =>
  k4 σ (x1) (y21)
def f_X3_marksAwaited_p68 (k4 : St → Int32 → Int32 → Option (Int32 × St)) (σ : St) (x1 : Int32) (x2 : Int32) (x3 : Int32) : Option (Int32 × St) :=
  if x3 = 2 then (
    Option.bind (f_X6_legCell 14 σ (x2) (3)) fun q24 =>
    Option.bind (f_X3_markBit q24.2 (q24.1)) fun q26 =>
    Option.bind (some (x1 ||| q26.1)) fun y28 =>
    f_X3_marksAwaited_p89 k4 q26.2 (y28) (x2)
  ) else (
    f_X3_marksAwaited_p89 k4 σ (x1) (x2)
  )
def f_X3_marksAwaited_p45 (k4 : St → Int32 → Int32 → Option (Int32 × St)) (σ : St) (x1 : Int32) (x2 : Int32) (x3 : Int32) (t0 : Int32) : Option (Int32 × St) :=
  if t0 = 0 then (
    f_X3_marksAwaited_p68 k4 σ (x1) (x2) (x3)
  ) else (
    Option.bind (f_X6_legCell 14 σ (x2) (2)) fun q31 =>
    Option.bind (f_X3_markBit q31.2 (q31.1)) fun q33 =>
    Option.bind (some (x1 ||| q33.1)) fun y35 =>
    f_X3_marksAwaited_p68 k4 q33.2 (y35) (x2) (x3)
  )
def f_X3_marksAwaited_p40 (k4 : St → Int32 → Int32 → Option (Int32 × St)) (σ : St) (x1 : Int32) (x2 : Int32) (x3 : Int32) : Option (Int32 × St) :=
  f_X3_marksAwaited_p45 k4 σ (x1) (x2) (x3) (1)
def F_X3_marksAwaited_h4 (k4 : St → Int32 → Int32 → Option (Int32 × St)) (σ : St) (x1 : Int32) (x2 : Int32) : Option (Int32 × St) :=
  Option.bind (f_X6_legCount 14 σ) fun q37 =>
  if q37.1 ≤ x2 then (
    some (x1, q37.2)
  ) else (
    Option.bind (f_X6_legCell 14 q37.2 (x2) (1)) fun q40 =>
    if q40.1 = 1 then (
      f_X3_marksAwaited_p40 k4 q40.2 (x1) (x2) (q40.1)
    ) else (
      if q40.1 = 2 then (
        f_X3_marksAwaited_p40 k4 q40.2 (x1) (x2) (q40.1)
      ) else (
        if q40.1 = 3 then (
          f_X3_marksAwaited_p40 k4 q40.2 (x1) (x2) (q40.1)
        ) else (
          f_X3_marksAwaited_p45 k4 q40.2 (x1) (x2) (q40.1) (0)
        )
      )
    )
  )
def z_X3_marksAwaited_h4 : St → Int32 → Int32 → Option (Int32 × St) := fun _ _ _ => none
def f_X3_marksAwaited (σ : St) : Option (Int32 × St) :=
  fx (F_X3_marksAwaited_h4) z_X3_marksAwaited_h4 FU σ (0) (0)
def f_J6_bitCount_0f7a4 (σ : St) (a1 : Int32) : Option (Int32 × St) :=
  Option.bind (some (a1 - ((((a1).toUInt32 >>> ((1 : Int32).toUInt32 &&& Int32.toUInt32 31)).toInt32) &&& 1431655765))) fun y1 =>
  Option.bind (some ((y1 &&& 858993459) + ((((y1).toUInt32 >>> ((2 : Int32).toUInt32 &&& Int32.toUInt32 31)).toInt32) &&& 858993459))) fun y3 =>
  Option.bind (some ((y3 + (((y3).toUInt32 >>> ((4 : Int32).toUInt32 &&& Int32.toUInt32 31)).toInt32)) &&& 252645135)) fun y5 =>
  Option.bind (some (y5 + (((y5).toUInt32 >>> ((8 : Int32).toUInt32 &&& Int32.toUInt32 31)).toInt32))) fun y7 =>
  Option.bind (some (y7 + (((y7).toUInt32 >>> ((16 : Int32).toUInt32 &&& Int32.toUInt32 31)).toInt32))) fun y9 =>
  some (y9 &&& 63, σ)
def f_X3_sharedWithCases_p23 (k3 : St → Int32 → Int32 → Option (Int32 × St)) (σ : St) (x0 : Int32) (x1 : Int32) : Option (Int32 × St) :=
  Option.bind (some (x1 + (-1))) fun y8 =>
  k3 σ (x0) (y8)
def F_X3_sharedWithCases_h3 (k3 : St → Int32 → Int32 → Option (Int32 × St)) (σ : St) (x0 : Int32) (x1 : Int32) : Option (Int32 × St) :=
  if x1 ≤ 1 then (
    some (1, σ)
  ) else (
    if x1 = 0 then none else
    if (10 - 10 / x1 * x1) = 0 then (
      if x1 = 0 then none else
      if (x0 - x0 / x1 * x1) = 0 then (
        some (x1, σ)
      ) else (
        f_X3_sharedWithCases_p23 k3 σ (x0) (x1)
      )
    ) else (
      f_X3_sharedWithCases_p23 k3 σ (x0) (x1)
    )
  )
def z_X3_sharedWithCases_h3 : St → Int32 → Int32 → Option (Int32 × St) := fun _ _ _ => none
def f_X3_sharedWithCases (σ : St) (a1 : Int32) : Option (Int32 × St) :=
  fx (F_X3_sharedWithCases_h3) z_X3_sharedWithCases_h3 FU σ (a1) (10)
def F_X3_weighArrival_h77 (k77 : Lm → St → Int32 → Int32 → Int32 → Int32 → Option (Lm × St)) (lam : Lm) (σ : St) (x3 : Int32) (x4 : Int32) (x5 : Int32) (x6 : Int32) : Option (Lm × St) :=
  if x3 ≤ x6 then (
    some (lam, σ)
  ) else (
    if x5 = 0 then none else
    Option.bind (some (vp_updL lam 0 ((lam 0) * ((x4 / x5 : Int32).toInt64)))) fun lam30 =>
    if x5 = 0 then none else
    Option.bind (some (vp_updL lam30 1 ((lam30 1) * ((10 / x5 : Int32).toInt64)))) fun lam33 =>
    Option.bind (some (x6 + 1)) fun y35 =>
    k77 lam33 σ (x3) (x4) (x5) (y35)
  )
def z_X3_weighArrival_h77 : Lm → St → Int32 → Int32 → Int32 → Int32 → Option (Lm × St) := fun _ _ _ _ _ _ => none
def f_X3_weighArrival_p35 (lam : Lm) (σ : St) (x2 : Int32) (t0 : Int64) : Option (Lm × St) :=
  Option.bind (some (vp_updL lam 0 (t0))) fun lam37 =>
  Option.bind (some (vp_updL lam37 1 (1))) fun lam39 =>
  if (lg_cmp (lam39 0) (0)) = 0 then (
    some (lam39, σ)
  ) else (
    Option.bind (f_X3_marksAwaited σ) fun q42 =>
    Option.bind (f_J6_bitCount_0f7a4 q42.2 (q42.1)) fun q44 =>
    Option.bind (some (10 - x2)) fun y46 =>
    Option.bind (f_X3_sharedWithCases q44.2 (y46)) fun q48 =>
    fx (F_X3_weighArrival_h77) z_X3_weighArrival_h77 FU lam39 q48.2 (q44.1) (y46) (q48.1) (0)
  )
def f_X3_weighArrival (lam : Lm) (σ : St) (a1 : Int32) (a2 : Int32) : Option (Lm × St) :=
  Option.bind (f_X6_shipCell 14 σ (0)) fun q50 =>
  Option.bind (f_X8_make q50.2 (a1) (q50.1) (0) ((-1)) (0)) fun q52 =>
  Option.bind (f_X8_arrives q52) fun q54 =>
  if q54.1 = 0 then (
    f_X3_weighArrival_p35 lam q54.2 (a2) (0)
  ) else (
    f_X3_weighArrival_p35 lam q54.2 (a2) (1)
  )
def f_X10_out (lam : Lm) (σ : St) (a1 : Int32) (a2 : Int32) (a3 : Int32) : Option (Int64 × Lm × St) :=
  Option.bind (f_X6_isTold 14 σ) fun q21 =>
  if q21.1 = 0 then (
    some ((-1000002), lam, q21.2)
  ) else (
    Option.bind (f_X10_isStart q21.2 (a1)) fun q24 =>
    if q24.1 = 0 then (
      some ((-1000001), lam, q24.2)
    ) else (
      Option.bind (f_X10_isWithin q24.2 (a2) (0) (10)) fun q27 =>
      if q27.1 = 0 then (
        some ((-1000001), lam, q27.2)
      ) else (
        Option.bind (f_X10_isWithin q27.2 (a3) (0) (1)) fun q30 =>
        if q30.1 = 0 then (
          some ((-1000001), lam, q30.2)
        ) else (
          Option.bind (f_X3_marksAwaited q30.2) fun q33 =>
          Option.bind (f_J6_bitCount_0f7a4 q33.2 (q33.1)) fun q35 =>
          if q35.1 ≤ 6 then (
            Option.bind (f_X3_weighArrival lam q35.2 (a1) (a2)) fun q38 =>
            if a3 = 0 then (
              some (q38.1 0, q38.1, q38.2)
            ) else (
              some (q38.1 1, q38.1, q38.2)
            )
          ) else (
            some ((-1000003), lam, q35.2)
          )
        )
      )
    )
  )
def f_X3_drawVoyages_p86 (k16 : St → Int32 → Int64 → Int32 → Option (St)) (σ : St) (x1 : Int32) (x3 : Int64) (x5 : Int32) (t0 : Int32) (t1 : Int32) : Option (St) :=
  Option.bind (some (g_u2 σ 10 2 (t1 + t0))) fun σ17 =>
  Option.bind (some (g_u2 σ17 10 3 ((σ17 10 3) + (σ17 8 3)))) fun σ19 =>
  Option.bind (some (x5 + 1)) fun y21 =>
  k16 σ19 (x1) (x3) (y21)
def F_X3_drawVoyages_h16 (k16 : St → Int32 → Int64 → Int32 → Option (St)) (σ : St) (x1 : Int32) (x3 : Int64) (x5 : Int32) : Option (St) :=
  if x1 ≤ x5 then (
    some σ
  ) else (
    Option.bind (some ((x3 * 16807) - (x3 * 16807) / 2147483647 * 2147483647)) fun y24 =>
    Option.bind (some ((y24 - y24 / 100 * 100 : Int64).toInt32)) fun y26 =>
    Option.bind (some (((y24 / 128) - (y24 / 128) / 21 * 21 : Int64).toInt32)) fun y28 =>
    Option.bind (f_X8_make σ (y26) (y28) (0) ((-1)) (0)) fun q30 =>
    Option.bind (f_X8_arrives q30) fun q32 =>
    if q32.1 = 0 then (
      f_X3_drawVoyages_p86 k16 q32.2 (x1) (y24) (x5) (0) (q30 10 2)
    ) else (
      f_X3_drawVoyages_p86 k16 q32.2 (x1) (y24) (x5) (1) (q30 10 2)
    )
  )
def z_X3_drawVoyages_h16 : St → Int32 → Int64 → Int32 → Option (St) := fun _ _ _ _ => none
def f_X3_drawVoyages (σ : St) (a1 : Int32) (a2 : Int32) : Option (St) :=
  Option.bind (some ((a2 : Int32).toInt64)) fun y35 =>
  Option.bind (some (g_u2 σ 10 2 (0))) fun σ37 =>
  Option.bind (some (g_u2 σ37 10 3 (0))) fun σ39 =>
  fx (F_X3_drawVoyages_h16) z_X3_drawVoyages_h16 FU σ39 (a1) (y35) (0)
def f_X10_drawn (σ : St) (a1 : Int32) (a2 : Int32) (a3 : Int32) : Option (Int32 × St) :=
  Option.bind (f_X6_isTold 14 σ) fun q16 =>
  if q16.1 = 0 then (
    some ((-1000002), q16.2)
  ) else (
    Option.bind (f_X10_isWithin q16.2 (a1) (0) (12)) fun q19 =>
    if q19.1 = 0 then (
      some ((-1000001), q19.2)
    ) else (
      Option.bind (f_X10_isWithin q19.2 (a2) (1) (999999)) fun q22 =>
      if q22.1 = 0 then (
        some ((-1000001), q22.2)
      ) else (
        Option.bind (f_X10_isWithin q22.2 (a3) (0) (1)) fun q25 =>
        if q25.1 = 0 then (
          some ((-1000001), q25.2)
        ) else (
          Option.bind (f_X3_drawVoyages q25.2 (a1) (a2)) fun q28 =>
          if a3 = 0 then (
            some (q28 10 2, q28)
          ) else (
            some (q28 10 3, q28)
          )
        )
      )
    )
  )
def f_X10_imageOf (σ : St) (a1 : Int32) : Option (Nat × St) :=
  if a1 = 0 then (
    some ((5 : Nat), σ)
  ) else (
    some ((6 : Nat), σ)
  )
def f_X10_image (σ : St) (a1 : Int32) : Option (Int32 × St) :=
  Option.bind (f_X10_isWithin σ (a1) (0) (1)) fun q15 =>
  if q15.1 = 0 then (
    some ((-1000001), q15.2)
  ) else (
    Option.bind (f_X6_isTold 14 q15.2) fun q18 =>
    if q18.1 = 0 then (
      some ((-1000002), q18.2)
    ) else (
      Option.bind (f_X10_imageOf q18.2 (a1)) fun q21 =>
      if q21.1 = 5 then (
        Option.bind (f_X6_copyFrom 15 14 q21.2) fun q23 =>
        some (1, q23)
      ) else if q21.1 = 6 then (
        Option.bind (f_X6_copyFrom 16 14 q21.2) fun q25 =>
        some (1, q25)
      ) else none
    )
  )
def f_X10_restore (σ : St) (a1 : Int32) : Option (Int32 × St) :=
  Option.bind (f_X10_isWithin σ (a1) (0) (1)) fun q38 =>
  if q38.1 = 0 then (
    some ((-1000001), q38.2)
  ) else (
    Option.bind (f_X10_imageOf q38.2 (a1)) fun q41 =>
    if q41.1 = 5 then (
      Option.bind (f_X6_isTold 15 q41.2) fun q43 =>
      if q43.1 = 0 then (
        some ((-1000002), q43.2)
      ) else (
        Option.bind (f_X10_imageOf q43.2 (a1)) fun q46 =>
        if q46.1 = 5 then (
          Option.bind (f_X6_copyFrom 14 15 q46.2) fun q48 =>
          Option.bind (f_X4_forget q48) fun q50 =>
          some (1, q50)
        ) else if q46.1 = 6 then (
          Option.bind (f_X6_copyFrom 14 16 q46.2) fun q52 =>
          Option.bind (f_X4_forget q52) fun q54 =>
          some (1, q54)
        ) else none
      )
    ) else if q41.1 = 6 then (
      Option.bind (f_X6_isTold 16 q41.2) fun q58 =>
      if q58.1 = 0 then (
        some ((-1000002), q58.2)
      ) else (
        Option.bind (f_X10_imageOf q58.2 (a1)) fun q61 =>
        if q61.1 = 5 then (
          Option.bind (f_X6_copyFrom 14 15 q61.2) fun q63 =>
          Option.bind (f_X4_forget q63) fun q65 =>
          some (1, q65)
        ) else if q61.1 = 6 then (
          Option.bind (f_X6_copyFrom 14 16 q61.2) fun q67 =>
          Option.bind (f_X4_forget q67) fun q69 =>
          some (1, q69)
        ) else none
      )
    ) else none
  )
def f_X6_markCount_p21 (ka : Nat) (k4 : St → Int32 → Int32 → Option (Int32 × St)) (σ : St) (x1 : Int32) (x2 : Int32) : Option (Int32 × St) :=
  Option.bind (some (x2 + 1)) fun y9 =>
  k4 σ (x1) (y9)
def F_X6_markCount_h4 (ka : Nat) (k4 : St → Int32 → Int32 → Option (Int32 × St)) (σ : St) (x1 : Int32) (x2 : Int32) : Option (Int32 × St) :=
  if 8 ≤ x2 then (
    some (x1, σ)
  ) else (
    Option.bind (f_X6_isMark ka σ (x2)) fun q12 =>
    if q12.1 = 0 then (
      f_X6_markCount_p21 ka k4 q12.2 (x1) (x2)
    ) else (
      Option.bind (some (x1 + 1)) fun y15 =>
      f_X6_markCount_p21 ka k4 q12.2 (y15) (x2)
    )
  )
def z_X6_markCount_h4 : St → Int32 → Int32 → Option (Int32 × St) := fun _ _ _ => none
def f_X6_markCount (ka : Nat) (σ : St) : Option (Int32 × St) :=
  fx (F_X6_markCount_h4 ka) z_X6_markCount_h4 FU σ (0) (0)
def f_X7_size (σ : St) : Option (Int32 × St) :=
  some (σ 1 1, σ)
def f_X10_count (σ : St) (a1 : Int32) : Option (Int32 × St) :=
  if a1 = 0 then (
    Option.bind (f_X6_thingCount 14 σ) fun q24 =>
    some (q24.1, q24.2)
  ) else (
  if a1 = 1 then (
    Option.bind (f_X6_markCount 14 σ) fun q27 =>
    some (q27.1, q27.2)
  ) else (
  if a1 = 2 then (
    Option.bind (f_X6_thingCount 14 σ) fun q30 =>
    Option.bind (f_X6_markCount 14 q30.2) fun q32 =>
    some (q30.1 - q32.1, q32.2)
  ) else (
  if a1 = 3 then (
    Option.bind (f_X6_legCount 14 σ) fun q35 =>
    some (q35.1, q35.2)
  ) else (
  if a1 = 4 then (
    Option.bind (f_X6_heightCount 14 σ) fun q38 =>
    some (q38.1, q38.2)
  ) else (
  if a1 = 5 then (
    Option.bind (f_X4_size σ) fun q41 =>
    some (q41.1, q41.2)
  ) else (
  if a1 = 6 then (
    Option.bind (f_X7_size σ) fun q44 =>
    some (q44.1, q44.2)
  ) else (
    some ((-1000001), σ)
  )))))))
def f_X11_in (σ : St) (a1 : Int64) (a2 : Int64) (a3 : Int64) : Option (Int32 × St) :=
  if (lg_cmp (a1) (a2)) < 0 then (
    some (0, σ)
  ) else (
    if 0 < (lg_cmp (a1) (a3)) then (
      some (0, σ)
    ) else (
      some (1, σ)
    )
  )
def f_X11_has (σ : St) (a1 : Int32) (a2 : Int32) : Option (Int32 × St) :=
  if ((a1 >>> (a2 &&& 31)) &&& 1) = 1 then (
    some (1, σ)
  ) else (
    some (0, σ)
  )
def F_X11_copy_h2 (k2 : St → Int32 → Int32 → Int32 → Option (St)) (σ : St) (x1 : Int32) (x2 : Int32) (x3 : Int32) : Option (St) :=
  if 79 ≤ x3 then (
    some σ
  ) else (
    if 0 ≤ (x1 + x3 : Int32).toInt ∧ (x1 + x3 : Int32).toInt < 1817 then (
    if 0 ≤ (x2 + x3 : Int32).toInt ∧ (x2 + x3 : Int32).toInt < 1817 then (
    Option.bind (some (g_u2 σ 27 ((x2 + x3).toNatClampNeg) (σ 27 (x1 + x3).toNatClampNeg))) fun σ11 =>
    Option.bind (some (x3 + 1)) fun y13 =>
    k2 σ11 (x1) (x2) (y13)
    ) else none
    ) else none
  )
def z_X11_copy_h2 : St → Int32 → Int32 → Int32 → Option (St) := fun _ _ _ _ => none
def f_X11_copy (σ : St) (a1 : Int32) (a2 : Int32) : Option (St) :=
  fx (F_X11_copy_h2) z_X11_copy_h2 FU σ (a1) (a2) (0)
def f_X11_minds_p54 (σ : St) : Option (St) :=
  Option.bind (f_X11_copy σ (0) (237 + (79 * (σ 26 2)))) fun q15 =>
  Option.bind (some (g_u2 q15 26 2 ((q15 26 2) + 1))) fun σ17 =>
  some σ17
def F_X11_minds_h11 (k11 : St → Int32 → Option (St)) (σ : St) (x1 : Int32) : Option (St) :=
  if 1501 ≤ x1 then (
    Option.bind (some (g_u2 σ 26 2 ((σ 26 2) - 1))) fun σ20 =>
    f_X11_minds_p54 σ20
  ) else (
    if 0 ≤ (316 + x1 : Int32).toInt ∧ (316 + x1 : Int32).toInt < 1817 then (
    if 0 ≤ (237 + x1 : Int32).toInt ∧ (237 + x1 : Int32).toInt < 1817 then (
    Option.bind (some (g_u2 σ 27 ((237 + x1).toNatClampNeg) (σ 27 (316 + x1).toNatClampNeg))) fun σ24 =>
    Option.bind (some (x1 + 1)) fun y26 =>
    k11 σ24 (y26)
    ) else none
    ) else none
  )
def z_X11_minds_h11 : St → Int32 → Option (St) := fun _ _ => none
def f_X11_minds (σ : St) : Option (St) :=
  if (σ 26 2) = 20 then (
    fx (F_X11_minds_h11) z_X11_minds_h11 FU σ (0)
  ) else (
    f_X11_minds_p54 σ
  )
def f_X11_isFigure (σ : St) (a1 : Int32) : Option (Int32 × St) :=
  Option.bind (f_X11_in σ ((a1 : Int32).toInt64) (48) (57)) fun q4 =>
  if q4.1 = 0 ∨ q4.1 = 1 then some (q4.1, q4.2) else none
def f_X11_take_p186 (σ : St) (t0 : Int32) : Option (St) :=
  Option.bind (some (g_u2 σ 26 11 (t0))) fun σ31 =>
  some σ31
def f_X11_take_p169 (σ : St) (x2 : Int32) : Option (St) :=
  if 1000 ≤ x2 then (
    f_X11_take_p186 σ (0)
  ) else (
    f_X11_take_p186 σ (1000 + x2)
  )
def f_X11_take_p155 (k93 : St → Int32 → Option (St)) (σ : St) (t0 : Int32) : Option (St) :=
  Option.bind (some (g_u2 σ 26 9 ((σ 26 9) + 1))) fun σ34 =>
  k93 σ34 (t0)
def F_X11_take_h93 (k93 : St → Int32 → Option (St)) (σ : St) (x2 : Int32) : Option (St) :=
  if (σ 26 4) ≤ (σ 26 9) then (
    f_X11_take_p169 σ (x2)
  ) else (
    if 0 ≤ (σ 26 9 : Int32).toInt ∧ (σ 26 9 : Int32).toInt < 160 then (
    Option.bind (f_X11_isFigure σ (σ 29 (σ 26 9).toNatClampNeg)) fun q38 =>
    if q38.1 = 0 then (
      f_X11_take_p169 q38.2 (x2)
    ) else (
      if (q38.2 26 9) = ((q38.2 26 10) + 1) then (
        if 0 ≤ (q38.2 26 9 : Int32).toInt ∧ (q38.2 26 9 : Int32).toInt < 160 then (
        f_X11_take_p155 k93 q38.2 (((10 * x2) + (q38.2 29 (q38.2 26 9).toNatClampNeg)) - 48)
        ) else none
      ) else (
        f_X11_take_p155 k93 q38.2 (1000)
      )
    )
    ) else none
  )
def z_X11_take_h93 : St → Int32 → Option (St) := fun _ _ => none
def f_X11_take_p78 (σ : St) (x1 : Int32) (t0 : Int32) : Option (St) :=
  Option.bind (some (g_u2 σ 26 11 (t0))) fun σ43 =>
  Option.bind (f_X11_isFigure σ43 (x1)) fun q45 =>
  if q45.1 = 0 then (
    some q45.2
  ) else (
    Option.bind (some (x1 - 48)) fun y48 =>
    fx (F_X11_take_h93) z_X11_take_h93 FU q45.2 (y48)
  )
def f_X11_take_p73 (σ : St) (x1 : Int32) : Option (St) :=
  f_X11_take_p78 σ (x1) (x1)
def f_X11_take (σ : St) : Option (St) :=
  Option.bind (some (g_u2 σ 26 10 (σ 26 9))) fun σ50 =>
  if (σ50 26 9) = (σ50 26 4) then (
    Option.bind (some (g_u2 σ50 26 11 ((-1000000)))) fun σ63 =>
    some σ63
  ) else (
    if 0 ≤ (σ50 26 9 : Int32).toInt ∧ (σ50 26 9 : Int32).toInt < 160 then (
    Option.bind (some (σ50 29 (σ50 26 9).toNatClampNeg)) fun y54 =>
    Option.bind (some (g_u2 σ50 26 9 ((σ50 26 9) + 1))) fun σ56 =>
    Option.bind (f_X11_in σ56 ((y54 : Int32).toInt64) (97) (122)) fun q58 =>
    if q58.1 = 0 then (
      if y54 = 44 then (
        f_X11_take_p73 q58.2 (y54)
      ) else (
        if y54 = 59 then (
          f_X11_take_p73 q58.2 (y54)
        ) else (
          f_X11_take_p78 q58.2 (y54) (0)
        )
      )
    ) else (
      f_X11_take_p73 q58.2 (y54)
    )
    ) else none
  )
def f_X11_isWell (σ : St) : Option (Int32 × St) :=
  if (σ 26 12) = 0 then (
    some (1, σ)
  ) else (
    some (0, σ)
  )
def f_X11_wants_p20 (σ : St) (t0 : Int32) : Option (St) :=
  Option.bind (some (g_u2 σ 26 12 (t0))) fun σ5 =>
  some σ5
def f_X11_wants_p16 (σ : St) : Option (St) :=
  f_X11_wants_p20 σ (σ 26 12)
def f_X11_wants (σ : St) (a1 : Int32) (a2 : Int32) : Option (St) :=
  if (σ 26 12) = 0 then (
    if a1 = 0 then (
      f_X11_wants_p20 σ (a2)
    ) else (
      f_X11_wants_p16 σ
    )
  ) else (
    f_X11_wants_p16 σ
  )
def f_X11_reads_p25 (σ : St) : Option (St) :=
  Option.bind (f_X11_isWell σ) fun q12 =>
  if q12.1 = 0 then (
    some q12.2
  ) else (
    Option.bind (f_X11_take q12.2) fun q15 =>
    some q15
  )
def f_X11_reads_p21 (σ : St) (t0 : Int32) : Option (St) :=
  Option.bind (f_X11_wants σ (t0) (1)) fun q17 =>
  f_X11_reads_p25 q17
def f_X11_reads (σ : St) (a1 : Int32) : Option (St) :=
  Option.bind (f_X11_isWell σ) fun q19 =>
  if q19.1 = 0 then (
    f_X11_reads_p25 q19.2
  ) else (
    if (q19.2 26 11) = a1 then (
      f_X11_reads_p21 q19.2 (1)
    ) else (
      f_X11_reads_p21 q19.2 (0)
    )
  )
def f_X11_number_p48 (σ : St) (x1 : Int32) : Option (St) :=
  Option.bind (f_X11_isWell σ) fun q19 =>
  if q19.1 = 0 then (
    some q19.2
  ) else (
    if 0 ≤ (x1 : Int32).toInt ∧ (x1 : Int32).toInt < 79 then (
    Option.bind (some (g_u2 q19.2 32 ((x1).toNatClampNeg) ((q19.2 26 11) - 1000))) fun σ23 =>
    Option.bind (f_X11_take σ23) fun q25 =>
    some q25
    ) else none
  )
def f_X11_number_p23 (σ : St) (x1 : Int32) (x2 : Int32) (x3 : Int32) (t0 : Int32) : Option (St) :=
  Option.bind (f_X11_wants σ (t0) (1)) fun q27 =>
  Option.bind (f_X11_in q27 (((q27 26 11) - 1000 : Int32).toInt64) ((x2 : Int32).toInt64) ((x3 : Int32).toInt64)) fun q29 =>
  Option.bind (f_X11_wants q29.2 (q29.1) (2)) fun q31 =>
  f_X11_number_p48 q31 (x1)
def f_X11_number (σ : St) (a1 : Int32) (a2 : Int32) (a3 : Int32) : Option (St) :=
  Option.bind (f_X11_isWell σ) fun q33 =>
  if q33.1 = 0 then (
    f_X11_number_p48 q33.2 (a1)
  ) else (
    if (q33.2 26 11) < 1000 then (
      f_X11_number_p23 q33.2 (a1) (a2) (a3) (0)
    ) else (
      f_X11_number_p23 q33.2 (a1) (a2) (a3) (1)
    )
  )
def f_X11_readsShip (σ : St) : Option (St) :=
  Option.bind (f_X11_reads σ (104)) fun q15 =>
  Option.bind (f_X11_number q15 (1) (0) (20)) fun q17 =>
  Option.bind (f_X11_reads q17 (44)) fun q19 =>
  Option.bind (f_X11_number q19 (2) (0) (60)) fun q21 =>
  Option.bind (f_X11_reads q21 (44)) fun q23 =>
  Option.bind (f_X11_number q23 (3) (0) (60)) fun q25 =>
  Option.bind (f_X11_reads q25 (59)) fun q27 =>
  some q27
def f_X11_readsTide_p86 (σ : St) : Option (St) :=
  Option.bind (f_X11_reads σ (59)) fun q20 =>
  some q20
def F_X11_readsTide_h23 (k23 : St → Option (St)) (σ : St) : Option (St) :=
  Option.bind (f_X11_isWell σ) fun q22 =>
  if q22.1 = 0 then (
    f_X11_readsTide_p86 q22.2
  ) else (
    if (q22.2 26 11) = 44 then (
      if 6 ≤ (q22.2 32 6) then (
        f_X11_readsTide_p86 q22.2
      ) else (
        Option.bind (f_X11_take q22.2) fun q27 =>
        Option.bind (f_X11_number q27 (7 + (q27 32 6)) (0) (20)) fun q29 =>
        Option.bind (some (g_u2 q29 32 6 ((q29 32 6) + 1))) fun σ31 =>
        k23 σ31
      )
    ) else (
      f_X11_readsTide_p86 q22.2
    )
  )
def z_X11_readsTide_h23 : St → Option (St) := fun _ => none
def f_X11_readsTide (σ : St) : Option (St) :=
  Option.bind (f_X11_reads σ (116)) fun q33 =>
  Option.bind (f_X11_number q33 (7) (0) (20)) fun q35 =>
  Option.bind (some (g_u2 q35 32 6 (1))) fun σ37 =>
  fx (F_X11_readsTide_h23) z_X11_readsTide_h23 FU σ37
def f_X11_sortOf (σ : St) (a1 : Int32) : Option (Int32 × St) :=
  if a1 = 98 then (
    some (1, σ)
  ) else (
  if a1 = 99 then (
    some (0, σ)
  ) else (
  if a1 = 100 then (
    some (0, σ)
  ) else (
  if a1 = 101 then (
    some (0, σ)
  ) else (
  if a1 = 102 then (
    some (0, σ)
  ) else (
  if a1 = 103 then (
    some (0, σ)
  ) else (
  if a1 = 104 then (
    some (0, σ)
  ) else (
  if a1 = 105 then (
    some (0, σ)
  ) else (
  if a1 = 106 then (
    some (0, σ)
  ) else (
  if a1 = 107 then (
    some (6, σ)
  ) else (
  if a1 = 108 then (
    some (2, σ)
  ) else (
  if a1 = 109 then (
    some (0, σ)
  ) else (
  if a1 = 110 then (
    some (0, σ)
  ) else (
  if a1 = 111 then (
    some (0, σ)
  ) else (
  if a1 = 112 then (
    some (0, σ)
  ) else (
  if a1 = 113 then (
    some (0, σ)
  ) else (
  if a1 = 114 then (
    some (5, σ)
  ) else (
  if a1 = 115 then (
    some (4, σ)
  ) else (
  if a1 = 116 then (
    some (0, σ)
  ) else (
  if a1 = 117 then (
    some (3, σ)
  ) else (
    some (0, σ)
  ))))))))))))))))))))
def f_X11_readsThing_p18 (σ : St) (t0 : Int32) : Option (St) :=
  Option.bind (f_X11_wants σ (t0) (3)) fun q32 =>
  Option.bind (f_X11_isWell q32) fun q34 =>
  if q34.1 = 0 then (
    some q34.2
  ) else (
    Option.bind (some (14 + (5 * (q34.2 32 13)))) fun y37 =>
    Option.bind (f_X11_sortOf q34.2 (q34.2 26 11)) fun q39 =>
    if 0 ≤ (y37 : Int32).toInt ∧ (y37 : Int32).toInt < 79 then (
    Option.bind (some (g_u2 q39.2 32 ((y37).toNatClampNeg) (q39.1))) fun σ42 =>
    Option.bind (f_X11_take σ42) fun q44 =>
    Option.bind (f_X11_number q44 (y37 + 1) (0) (60)) fun q46 =>
    Option.bind (f_X11_reads q46 (44)) fun q48 =>
    Option.bind (f_X11_number q48 (y37 + 2) (0) (60)) fun q50 =>
    Option.bind (f_X11_reads q50 (44)) fun q52 =>
    Option.bind (f_X11_number q52 (y37 + 3) (0) (15)) fun q54 =>
    Option.bind (f_X11_reads q54 (44)) fun q56 =>
    Option.bind (f_X11_number q56 (y37 + 4) (0) (20)) fun q58 =>
    Option.bind (f_X11_reads q58 (59)) fun q60 =>
    Option.bind (some (g_u2 q60 32 13 ((q60 32 13) + 1))) fun σ62 =>
    some σ62
    ) else none
  )
def f_X11_readsThing (σ : St) : Option (St) :=
  if 8 ≤ (σ 32 13) then (
    f_X11_readsThing_p18 σ (0)
  ) else (
    f_X11_readsThing_p18 σ (1)
  )
def f_X11_untilOf (σ : St) (a1 : Int32) : Option (Int32 × St) :=
  if a1 = 97 then (
    some (1, σ)
  ) else (
  if a1 = 98 then (
    some ((-1000000), σ)
  ) else (
  if a1 = 99 then (
    some ((-1000000), σ)
  ) else (
  if a1 = 100 then (
    some (4, σ)
  ) else (
  if a1 = 101 then (
    some (3, σ)
  ) else (
  if a1 = 102 then (
    some ((-1000000), σ)
  ) else (
  if a1 = 103 then (
    some ((-1000000), σ)
  ) else (
  if a1 = 104 then (
    some ((-1000000), σ)
  ) else (
  if a1 = 105 then (
    some (2, σ)
  ) else (
  if a1 = 106 then (
    some ((-1000000), σ)
  ) else (
  if a1 = 107 then (
    some ((-1000000), σ)
  ) else (
  if a1 = 108 then (
    some ((-1000000), σ)
  ) else (
  if a1 = 109 then (
    some (0, σ)
  ) else (
    some ((-1000000), σ)
  )))))))))))))
def f_X11_readsUntil_p96 (σ : St) (x1 : Int32) (x2 : Int32) (t0 : Int32) (t1 : Int32) (t2 : Int32) : Option (St) :=
  Option.bind (f_X11_number σ (t2) (t1) (t0)) fun q32 =>
  if x2 = 2 then (
    Option.bind (f_X11_reads q32 (44)) fun q35 =>
    Option.bind (f_X11_number q35 (x1 + 3) (0) (7)) fun q37 =>
    some q37
  ) else (
    some q32
  )
def f_X11_readsUntil_p89 (σ : St) (x1 : Int32) (x2 : Int32) (t0 : Int32) (t1 : Int32) : Option (St) :=
  f_X11_readsUntil_p96 σ (x1) (x2) (60) (t0) (t1)
def f_X11_readsUntil_p80 (σ : St) (x1 : Int32) (x2 : Int32) (t0 : Int32) (t1 : Int32) : Option (St) :=
  if x2 = 0 then (
    f_X11_readsUntil_p89 σ (x1) (x2) (t0) (t1)
  ) else (
    if x2 = 4 then (
      f_X11_readsUntil_p89 σ (x1) (x2) (t0) (t1)
    ) else (
      f_X11_readsUntil_p96 σ (x1) (x2) (7) (t0) (t1)
    )
  )
def f_X11_readsUntil_p29 (σ : St) (x1 : Int32) : Option (St) :=
  Option.bind (f_X11_isWell σ) fun q41 =>
  if q41.1 = 0 then (
    some q41.2
  ) else (
    Option.bind (f_X11_untilOf q41.2 (q41.2 26 11)) fun q44 =>
    if 0 ≤ (x1 + 1 : Int32).toInt ∧ (x1 + 1 : Int32).toInt < 79 then (
    Option.bind (some (g_u2 q44.2 32 ((x1 + 1).toNatClampNeg) (q44.1))) fun σ47 =>
    if 0 ≤ (x1 + 3 : Int32).toInt ∧ (x1 + 3 : Int32).toInt < 79 then (
    Option.bind (some (g_u2 σ47 32 ((x1 + 3).toNatClampNeg) ((-1000000)))) fun σ50 =>
    Option.bind (f_X11_take σ50) fun q52 =>
    if q44.1 = 0 then (
      f_X11_readsUntil_p80 q52 (x1) (q44.1) (1) (x1 + 2)
    ) else (
      f_X11_readsUntil_p80 q52 (x1) (q44.1) (0) (x1 + 2)
    )
    ) else none
    ) else none
  )
def f_X11_readsUntil_p25 (σ : St) (x1 : Int32) (t0 : Int32) : Option (St) :=
  Option.bind (f_X11_wants σ (t0) (1)) fun q55 =>
  f_X11_readsUntil_p29 q55 (x1)
def f_X11_readsUntil (σ : St) (a1 : Int32) : Option (St) :=
  Option.bind (f_X11_isWell σ) fun q57 =>
  if q57.1 = 0 then (
    f_X11_readsUntil_p29 q57.2 (a1)
  ) else (
    Option.bind (f_X11_untilOf q57.2 (q57.2 26 11)) fun q60 =>
    if q60.1 = (-1000000) then (
      f_X11_readsUntil_p25 q60.2 (a1) (0)
    ) else (
      f_X11_readsUntil_p25 q60.2 (a1) (1)
    )
  )
def f_X11_readsLeg_p48 (σ : St) : Option (St) :=
  Option.bind (f_X11_isWell σ) fun q23 =>
  if q23.1 = 0 then (
    some q23.2
  ) else (
    Option.bind (some (55 + (4 * (q23.2 32 54)))) fun y26 =>
    Option.bind (f_X11_take q23.2) fun q28 =>
    Option.bind (f_X11_number q28 (y26) (0) (15)) fun q30 =>
    Option.bind (f_X11_readsUntil q30 (y26)) fun q32 =>
    Option.bind (f_X11_reads q32 (59)) fun q34 =>
    Option.bind (some (g_u2 q34 32 54 ((q34 32 54) + 1))) fun σ36 =>
    some σ36
  )
def f_X11_readsLeg_p44 (σ : St) (t0 : Int32) : Option (St) :=
  Option.bind (f_X11_wants σ (t0) (3)) fun q38 =>
  f_X11_readsLeg_p48 q38
def f_X11_readsLeg_p22 (σ : St) (t0 : Int32) : Option (St) :=
  Option.bind (f_X11_wants σ (t0) (1)) fun q40 =>
  if 6 ≤ (q40 32 54) then (
    f_X11_readsLeg_p44 q40 (0)
  ) else (
    f_X11_readsLeg_p44 q40 (1)
  )
def f_X11_readsLeg (σ : St) : Option (St) :=
  Option.bind (f_X11_isWell σ) fun q43 =>
  if q43.1 = 0 then (
    f_X11_readsLeg_p48 q43.2
  ) else (
    if (q43.2 26 11) = 103 then (
      f_X11_readsLeg_p22 q43.2 (1)
    ) else (
      f_X11_readsLeg_p22 q43.2 (0)
    )
  )
def F_X11_readsAll_h105 (k105 : St → Option (St)) (σ : St) : Option (St) :=
  Option.bind (f_X11_isWell σ) fun q43 =>
  if q43.1 = 0 then (
    some q43.2
  ) else (
    if (q43.2 26 11) = (-1000000) then (
      some q43.2
    ) else (
      Option.bind (f_X11_readsLeg q43.2) fun q47 =>
      k105 q47
    )
  )
def z_X11_readsAll_h105 : St → Option (St) := fun _ => none
def f_X11_readsAll_p101 (σ : St) : Option (St) :=
  Option.bind (f_X11_readsLeg σ) fun q49 =>
  fx (F_X11_readsAll_h105) z_X11_readsAll_h105 FU q49
def F_X11_readsAll_h77 (k77 : St → Option (St)) (σ : St) : Option (St) :=
  Option.bind (f_X11_isWell σ) fun q51 =>
  if q51.1 = 0 then (
    f_X11_readsAll_p101 q51.2
  ) else (
    Option.bind (f_X11_sortOf q51.2 (q51.2 26 11)) fun q54 =>
    if q54.1 ≤ 0 then (
      f_X11_readsAll_p101 q54.2
    ) else (
      Option.bind (f_X11_readsThing q54.2) fun q57 =>
      k77 q57
    )
  )
def z_X11_readsAll_h77 : St → Option (St) := fun _ => none
def F_X11_readsAll_h2 (k2 : St → Int32 → Option (St)) (σ : St) (x1 : Int32) : Option (St) :=
  if 79 ≤ x1 then (
    Option.bind (some (g_u2 σ 26 9 (0))) fun σ60 =>
    Option.bind (some (g_u2 σ60 26 12 (0))) fun σ62 =>
    Option.bind (f_X11_take σ62) fun q64 =>
    Option.bind (f_X11_readsShip q64) fun q66 =>
    Option.bind (f_X11_readsTide q66) fun q68 =>
    Option.bind (f_X11_reads q68 (122)) fun q70 =>
    Option.bind (f_X11_number q70 (4) (0) (60)) fun q72 =>
    Option.bind (f_X11_reads q72 (44)) fun q74 =>
    Option.bind (f_X11_number q74 (5) (0) (60)) fun q76 =>
    Option.bind (f_X11_reads q76 (59)) fun q78 =>
    fx (F_X11_readsAll_h77) z_X11_readsAll_h77 FU q78
  ) else (
    if 0 ≤ (x1 : Int32).toInt ∧ (x1 : Int32).toInt < 79 then (
    Option.bind (some (g_u2 σ 32 ((x1).toNatClampNeg) (0))) fun σ81 =>
    Option.bind (some (x1 + 1)) fun y83 =>
    k2 σ81 (y83)
    ) else none
  )
def z_X11_readsAll_h2 : St → Int32 → Option (St) := fun _ _ => none
def f_X11_readsAll (σ : St) : Option (St) :=
  fx (F_X11_readsAll_h2) z_X11_readsAll_h2 FU σ (0)
def f_X11_feed (σ : St) (a1 : Int32) : Option (Int32 × St) :=
  Option.bind (f_X11_in σ ((a1 : Int32).toInt64) (0) (255)) fun q10 =>
  if q10.1 = 0 then (
    some ((-1000001), q10.2)
  ) else (
    if (q10.2 26 4) = 160 then (
      some ((-1000003), q10.2)
    ) else (
      if 0 ≤ (q10.2 26 4 : Int32).toInt ∧ (q10.2 26 4 : Int32).toInt < 160 then (
      Option.bind (some (g_u2 q10.2 29 ((q10.2 26 4).toNatClampNeg) (a1))) fun σ15 =>
      Option.bind (some (g_u2 σ15 26 4 ((σ15 26 4) + 1))) fun σ17 =>
      some (σ17 26 4, σ17)
      ) else none
    )
  )
def F_X11_sheet_h41 (k41 : St → Int32 → Option (Int32 × St)) (σ : St) (x1 : Int32) : Option (Int32 × St) :=
  if 79 ≤ x1 then (
    Option.bind (some (g_u2 σ 26 2 (0))) fun σ22 =>
    some (σ22 27 54, σ22)
  ) else (
    if 0 ≤ (x1 : Int32).toInt ∧ (x1 : Int32).toInt < 79 then (
    if 0 ≤ (x1 : Int32).toInt ∧ (x1 : Int32).toInt < 1817 then (
    Option.bind (some (g_u2 σ 27 ((x1).toNatClampNeg) (σ 32 (x1).toNatClampNeg))) fun σ26 =>
    Option.bind (some (x1 + 1)) fun y28 =>
    k41 σ26 (y28)
    ) else none
    ) else none
  )
def z_X11_sheet_h41 : St → Int32 → Option (Int32 × St) := fun _ _ => none
def f_X11_sheet (σ : St) : Option (Int32 × St) :=
  Option.bind (f_X11_readsAll σ) fun q30 =>
  Option.bind (some (g_u2 q30 26 4 (0))) fun σ32 =>
  Option.bind (f_X11_isWell σ32) fun q34 =>
  if q34.1 = 0 then (
    Option.bind (some (g_u2 q34.2 26 5 (q34.2 26 12))) fun σ39 =>
    some ((-1000100) - (σ39 26 10), σ39)
  ) else (
    Option.bind (some (g_u2 q34.2 32 0 (1))) fun σ37 =>
    fx (F_X11_sheet_h41) z_X11_sheet_h41 FU σ37 (0)
  )
def f_X11_fault (σ : St) : Option (Int32 × St) :=
  some (σ 26 5, σ)
def f_X11_nameAt_p140 (σ : St) (x1 : Int32) (x2 : Int32) (x3 : Int32) (t0 : Int32) : Option (Int32 × St) :=
  if x1 = 0 then (
    if t0 = 0 then (
      some (x3, σ)
    ) else (
      some (x2, σ)
    )
  ) else (
    if x1 = 1 then (
      some (x2, σ)
    ) else (
      if x1 = 2 then (
        some (x3, σ)
      ) else (
        some ((-1000000), σ)
      )
    )
  )
def f_X11_nameAt_p135 (σ : St) (x1 : Int32) (x2 : Int32) (x3 : Int32) : Option (Int32 × St) :=
  f_X11_nameAt_p140 σ (x1) (x2) (x3) (1)
def f_X11_nameAt_p65 (σ : St) (x0 : Int32) (x1 : Int32) (x2 : Int32) (x3 : Int32) (t0 : Int32) : Option (Int32 × St) :=
  if (x0 - x0 / 4 * 4) = 0 then (
    if x1 = 0 then (
      some (t0, σ)
    ) else (
      some ((-1000000), σ)
    )
  ) else (
    if (x0 - x0 / 4 * 4) = 2 then (
      if x1 = 0 then (
        some (x2, σ)
      ) else (
        if x1 = 1 then (
          some (x3, σ)
        ) else (
          some ((-1000000), σ)
        )
      )
    ) else (
      if x0 = 1 then (
        f_X11_nameAt_p135 σ (x1) (x2) (x3)
      ) else (
        if x0 = 15 then (
          f_X11_nameAt_p135 σ (x1) (x2) (x3)
        ) else (
          if x0 = 7 then (
            f_X11_nameAt_p135 σ (x1) (x2) (x3)
          ) else (
            if x0 = 9 then (
              f_X11_nameAt_p135 σ (x1) (x2) (x3)
            ) else (
              f_X11_nameAt_p140 σ (x1) (x2) (x3) (0)
            )
          )
        )
      )
    )
  )
def f_X11_nameAt_p32 (σ : St) (x0 : Int32) (x1 : Int32) (x2 : Int32) (t0 : Int32) : Option (Int32 × St) :=
  if x0 = 0 then (
    f_X11_nameAt_p65 σ (x0) (x1) (x2) (t0) (110)
  ) else (
    if x0 = 4 then (
      f_X11_nameAt_p65 σ (x0) (x1) (x2) (t0) (101)
    ) else (
      if x0 = 8 then (
        f_X11_nameAt_p65 σ (x0) (x1) (x2) (t0) (115)
      ) else (
        f_X11_nameAt_p65 σ (x0) (x1) (x2) (t0) (119)
      )
    )
  )
def f_X11_nameAt_p18 (σ : St) (x0 : Int32) (x1 : Int32) (t0 : Int32) : Option (Int32 × St) :=
  if 8 ≤ x0 then (
    f_X11_nameAt_p32 σ (x0) (x1) (t0) (119)
  ) else (
    f_X11_nameAt_p32 σ (x0) (x1) (t0) (101)
  )
def f_X11_nameAt_p11 (σ : St) (x0 : Int32) (x1 : Int32) : Option (Int32 × St) :=
  f_X11_nameAt_p18 σ (x0) (x1) (110)
def f_X11_nameAt (σ : St) (a1 : Int32) (a2 : Int32) : Option (Int32 × St) :=
  if a1 < 4 then (
    f_X11_nameAt_p11 σ (a1) (a2)
  ) else (
    if a1 ≤ 12 then (
      f_X11_nameAt_p18 σ (a1) (a2) (115)
    ) else (
      f_X11_nameAt_p11 σ (a1) (a2)
    )
  )
def f_X11_course_p84 (k12 : St → Int32 → Int32 → Option (Int32 × St)) (σ : St) (x1 : Int32) (x2 : Int32) (x3 : Int32) : Option (Int32 × St) :=
  if x3 = 0 then (
    Option.bind (some (x2 + 1)) fun y21 =>
    k12 σ (x1) (y21)
  ) else (
    some (x2, σ)
  )
def f_X11_course_p77 (k12 : St → Int32 → Int32 → Option (Int32 × St)) (k46 : St → Int32 → Int32 → Int32 → Int32 → Option (Int32 × St)) (σ : St) (x1 : Int32) (x2 : Int32) (x4 : Int32) (t0 : Int32) : Option (Int32 × St) :=
  Option.bind (some (x4 + 1)) fun y23 =>
  k46 σ (x1) (x2) (t0) (y23)
def F_X11_course_h46 (k12 : St → Int32 → Int32 → Option (Int32 × St)) (k46 : St → Int32 → Int32 → Int32 → Int32 → Option (Int32 × St)) (σ : St) (x1 : Int32) (x2 : Int32) (x3 : Int32) (x4 : Int32) : Option (Int32 × St) :=
  if x1 ≤ x4 then (
    f_X11_course_p84 k12 σ (x1) (x2) (x3)
  ) else (
    if x3 = 0 then (
      f_X11_course_p84 k12 σ (x1) (x2) (x3)
    ) else (
      Option.bind (f_X11_nameAt σ (x2) (x4)) fun q27 =>
      if 0 ≤ (x4 : Int32).toInt ∧ (x4 : Int32).toInt < 160 then (
      if q27.1 = (q27.2 29 (x4).toNatClampNeg) then (
        f_X11_course_p77 k12 k46 q27.2 (x1) (x2) (x4) (1)
      ) else (
        f_X11_course_p77 k12 k46 q27.2 (x1) (x2) (x4) (0)
      )
      ) else none
    )
  )
def z_X11_course_h46 : St → Int32 → Int32 → Int32 → Int32 → Option (Int32 × St) := fun _ _ _ _ _ => none
def f_X11_course_p42 (k12 : St → Int32 → Int32 → Option (Int32 × St)) (σ : St) (x1 : Int32) (x2 : Int32) (t0 : Int32) : Option (Int32 × St) :=
  fx (F_X11_course_h46 k12) z_X11_course_h46 FU σ (x1) (x2) (t0) (0)
def f_X11_course_p41 (k12 : St → Int32 → Int32 → Option (Int32 × St)) (σ : St) (x1 : Int32) (x2 : Int32) : Option (Int32 × St) :=
  f_X11_course_p42 k12 σ (x1) (x2) (0)
def F_X11_course_h12 (k12 : St → Int32 → Int32 → Option (Int32 × St)) (σ : St) (x1 : Int32) (x2 : Int32) : Option (Int32 × St) :=
  if 16 ≤ x2 then (
    some ((-1000000), σ)
  ) else (
    if x1 ≤ 0 then (
      f_X11_course_p41 k12 σ (x1) (x2)
    ) else (
      if 4 ≤ x1 then (
        f_X11_course_p41 k12 σ (x1) (x2)
      ) else (
        Option.bind (f_X11_nameAt σ (x2) (x1)) fun q34 =>
        if q34.1 = (-1000000) then (
          f_X11_course_p42 k12 q34.2 (x1) (x2) (1)
        ) else (
          f_X11_course_p41 k12 q34.2 (x1) (x2)
        )
      )
    )
  )
def z_X11_course_h12 : St → Int32 → Int32 → Option (Int32 × St) := fun _ _ _ => none
def f_X11_course (σ : St) : Option (Int32 × St) :=
  Option.bind (some (σ 26 4)) fun y37 =>
  Option.bind (some (g_u2 σ 26 4 (0))) fun σ39 =>
  fx (F_X11_course_h12) z_X11_course_h12 FU σ39 (y37) (0)
def f_X11_undo (σ : St) : Option (Int32 × St) :=
  if (σ 26 2) = 0 then (
    some ((-1000002), σ)
  ) else (
    Option.bind (some (g_u2 σ 26 2 ((σ 26 2) - 1))) fun σ7 =>
    Option.bind (f_X11_copy σ7 (237 + (79 * (σ7 26 2))) (0)) fun q9 =>
    some (q9 26 2, q9)
  )
def f_X11_isSheet (σ : St) : Option (Int32 × St) :=
  if (σ 27 0) = 1 then (
    some (1, σ)
  ) else (
    some (0, σ)
  )
def f_X11_isThing (σ : St) (a1 : Int32) : Option (Int32 × St) :=
  Option.bind (f_X11_in σ ((a1 : Int32).toInt64) (0) (((σ 27 13) - 1 : Int32).toInt64)) fun q4 =>
  if q4.1 = 0 ∨ q4.1 = 1 then some (q4.1, q4.2) else none
def f_X11_isLeg (σ : St) (a1 : Int32) : Option (Int32 × St) :=
  Option.bind (f_X11_in σ ((a1 : Int32).toInt64) (0) (((σ 27 54) - 1 : Int32).toInt64)) fun q4 =>
  if q4.1 = 0 ∨ q4.1 = 1 then some (q4.1, q4.2) else none
def f_X11_of (σ : St) (a1 : Int32) (a2 : Int32) : Option (Int32 × St) :=
  if 0 ≤ ((14 + (5 * a1)) + a2 : Int32).toInt ∧ ((14 + (5 * a1)) + a2 : Int32).toInt < 1817 then (
  some (σ 27 ((14 + (5 * a1)) + a2).toNatClampNeg, σ)
  ) else none
def f_X11_acts (σ : St) (a1 : Int32) (a2 : Int32) : Option (Int32 × St) :=
  if 0 ≤ (a1 : Int32).toInt ∧ (a1 : Int32).toInt < 1817 then (
  Option.bind (some (σ 27 (a1).toNatClampNeg)) fun y8 =>
  Option.bind (f_X11_minds σ) fun q10 =>
  if 0 ≤ (a1 : Int32).toInt ∧ (a1 : Int32).toInt < 1817 then (
  Option.bind (some (g_u2 q10 27 ((a1).toNatClampNeg) (a2))) fun σ13 =>
  some (y8, σ13)
  ) else none
  ) else none
def f_X11_measure_p48 (σ : St) (x1 : Int32) (x2 : Int32) (x3 : Int32) (t0 : Int64) (t1 : Int64) (t2 : Int64) : Option (Int32 × St) :=
  Option.bind (f_X11_in σ (t2) (t1) (t0)) fun q14 =>
  if q14.1 = 0 then (
    some ((-1000001), q14.2)
  ) else (
    Option.bind (f_X11_acts q14.2 (((14 + (5 * x1)) + 1) + x2) (x3)) fun q17 =>
    some (q17.1, q17.2)
  )
def f_X11_measure (σ : St) (a1 : Int32) (a2 : Int32) (a3 : Int32) : Option (Int32 × St) :=
  Option.bind (f_X11_isThing σ (a1)) fun q19 =>
  if q19.1 = 0 then (
    some ((-1000001), q19.2)
  ) else (
    Option.bind (f_X11_in q19.2 ((a2 : Int32).toInt64) (0) (3)) fun q22 =>
    if q22.1 = 0 then (
      some ((-1000001), q22.2)
    ) else (
      if 2 ≤ a2 then (
        if a2 = 2 then (
          f_X11_measure_p48 q22.2 (a1) (a2) (a3) (15) (0) ((a3 : Int32).toInt64)
        ) else (
          f_X11_measure_p48 q22.2 (a1) (a2) (a3) (20) (0) ((a3 : Int32).toInt64)
        )
      ) else (
        f_X11_measure_p48 q22.2 (a1) (a2) (a3) (60) (0) ((a3 : Int32).toInt64)
      )
    )
  )
def f_X11_become (σ : St) (a1 : Int32) (a2 : Int32) : Option (Int32 × St) :=
  Option.bind (f_X11_isThing σ (a1)) fun q12 =>
  if q12.1 = 0 then (
    some ((-1000001), q12.2)
  ) else (
    Option.bind (f_X11_in q12.2 ((a2 : Int32).toInt64) (1) (6)) fun q15 =>
    if q15.1 = 0 then (
      some ((-1000001), q15.2)
    ) else (
      Option.bind (f_X11_of q15.2 (a1) (0)) fun q18 =>
      if q18.1 = a2 then (
        some ((-1000002), q18.2)
      ) else (
        Option.bind (f_X11_acts q18.2 (14 + (5 * a1)) (a2)) fun q21 =>
        some (q21.1, q21.2)
      )
    )
  )
def f_X11_ship_p38 (σ : St) (x1 : Int32) (x2 : Int32) (t0 : Int64) (t1 : Int64) (t2 : Int64) : Option (Int32 × St) :=
  Option.bind (f_X11_in σ (t2) (t1) (t0)) fun q13 =>
  if q13.1 = 0 then (
    some ((-1000001), q13.2)
  ) else (
    Option.bind (f_X11_acts q13.2 (1 + x1) (x2)) fun q16 =>
    some (q16.1, q16.2)
  )
def f_X11_ship (σ : St) (a1 : Int32) (a2 : Int32) : Option (Int32 × St) :=
  Option.bind (f_X11_isSheet σ) fun q18 =>
  if q18.1 = 0 then (
    some ((-1000002), q18.2)
  ) else (
    Option.bind (f_X11_in q18.2 ((a1 : Int32).toInt64) (0) (4)) fun q21 =>
    if q21.1 = 0 then (
      some ((-1000001), q21.2)
    ) else (
      if a1 = 0 then (
        f_X11_ship_p38 q21.2 (a1) (a2) (20) (0) ((a2 : Int32).toInt64)
      ) else (
        f_X11_ship_p38 q21.2 (a1) (a2) (60) (0) ((a2 : Int32).toInt64)
      )
    )
  )
def f_X11_tide (σ : St) (a1 : Int32) (a2 : Int32) : Option (Int32 × St) :=
  Option.bind (f_X11_in σ ((a1 : Int32).toInt64) (0) (((σ 27 6) - 1 : Int32).toInt64)) fun q9 =>
  if q9.1 = 0 then (
    some ((-1000001), q9.2)
  ) else (
    Option.bind (f_X11_in q9.2 ((a2 : Int32).toInt64) (0) (20)) fun q12 =>
    if q12.1 = 0 then (
      some ((-1000001), q12.2)
    ) else (
      Option.bind (f_X11_acts q12.2 (7 + a1) (a2)) fun q15 =>
      some (q15.1, q15.2)
    )
  )
def f_X11_steer (σ : St) (a1 : Int32) (a2 : Int32) : Option (Int32 × St) :=
  Option.bind (f_X11_isLeg σ (a1)) fun q9 =>
  if q9.1 = 0 then (
    some ((-1000001), q9.2)
  ) else (
    Option.bind (f_X11_in q9.2 ((a2 : Int32).toInt64) (0) (15)) fun q12 =>
    if q12.1 = 0 then (
      some ((-1000001), q12.2)
    ) else (
      Option.bind (f_X11_acts q12.2 (55 + (4 * a1)) (a2)) fun q15 =>
      some (q15.1, q15.2)
    )
  )
def f_X11_isUntil_p52 (σ : St) (x0 : Int32) (x2 : Int32) (t0 : Int32) : Option (Int32 × St) :=
  if t0 = 0 then (
    some (0, σ)
  ) else (
    if x0 = 2 then (
      Option.bind (f_X11_in σ ((x2 : Int32).toInt64) (0) (7)) fun q17 =>
      if q17.1 = 0 then (
        some (0, q17.2)
      ) else (
        some (1, q17.2)
      )
    ) else (
      some (1, σ)
    )
  )
def f_X11_isUntil_p51 (σ : St) (x0 : Int32) (x2 : Int32) : Option (Int32 × St) :=
  f_X11_isUntil_p52 σ (x0) (x2) (0)
def f_X11_isUntil_p41 (σ : St) (x0 : Int32) (x2 : Int32) (t0 : Int64) (t1 : Int64) (t2 : Int64) : Option (Int32 × St) :=
  Option.bind (f_X11_in σ (t2) (t1) (t0)) fun q20 =>
  if q20.1 = 0 then (
    f_X11_isUntil_p51 q20.2 (x0) (x2)
  ) else (
    f_X11_isUntil_p52 q20.2 (x0) (x2) (1)
  )
def f_X11_isUntil_p32 (σ : St) (x0 : Int32) (x2 : Int32) (t0 : Int64) (t1 : Int64) : Option (Int32 × St) :=
  f_X11_isUntil_p41 σ (x0) (x2) (60) (t0) (t1)
def f_X11_isUntil_p23 (σ : St) (x0 : Int32) (x2 : Int32) (t0 : Int64) (t1 : Int64) : Option (Int32 × St) :=
  if x0 = 0 then (
    f_X11_isUntil_p32 σ (x0) (x2) (t0) (t1)
  ) else (
    if x0 = 4 then (
      f_X11_isUntil_p32 σ (x0) (x2) (t0) (t1)
    ) else (
      f_X11_isUntil_p41 σ (x0) (x2) (7) (t0) (t1)
    )
  )
def f_X11_isUntil (σ : St) (a1 : Int32) (a2 : Int32) (a3 : Int32) : Option (Int32 × St) :=
  Option.bind (f_X11_in σ ((a1 : Int32).toInt64) (0) (4)) fun q25 =>
  if q25.1 = 0 then (
    f_X11_isUntil_p51 q25.2 (a1) (a3)
  ) else (
    if a1 = 0 then (
      f_X11_isUntil_p23 q25.2 (a1) (a3) (1) ((a2 : Int32).toInt64)
    ) else (
      f_X11_isUntil_p23 q25.2 (a1) (a3) (0) ((a2 : Int32).toInt64)
    )
  )
def f_X11_lays_p52 (σ : St) (t0 : Int32) (t1 : Int32) : Option (St) :=
  if 0 ≤ (t1 : Int32).toInt ∧ (t1 : Int32).toInt < 1817 then (
  Option.bind (some (g_u2 σ 27 ((t1).toNatClampNeg) (t0))) fun σ12 =>
  some σ12
  ) else none
def f_X11_lays (σ : St) (a1 : Int32) (a2 : Int32) (a3 : Int32) (a4 : Int32) : Option (St) :=
  if 0 ≤ ((55 + (4 * a1)) + 1 : Int32).toInt ∧ ((55 + (4 * a1)) + 1 : Int32).toInt < 1817 then (
  Option.bind (some (g_u2 σ 27 (((55 + (4 * a1)) + 1).toNatClampNeg) (a2))) fun σ15 =>
  if 0 ≤ ((55 + (4 * a1)) + 2 : Int32).toInt ∧ ((55 + (4 * a1)) + 2 : Int32).toInt < 1817 then (
  Option.bind (some (g_u2 σ15 27 (((55 + (4 * a1)) + 2).toNatClampNeg) (a3))) fun σ18 =>
  if a2 = 2 then (
    f_X11_lays_p52 σ18 (a4) ((55 + (4 * a1)) + 3)
  ) else (
    f_X11_lays_p52 σ18 ((-1000000)) ((55 + (4 * a1)) + 3)
  )
  ) else none
  ) else none
def f_X11_until (σ : St) (a1 : Int32) (a2 : Int32) (a3 : Int32) (a4 : Int32) : Option (Int32 × St) :=
  Option.bind (f_X11_isLeg σ (a1)) fun q12 =>
  if q12.1 = 0 then (
    some ((-1000001), q12.2)
  ) else (
    Option.bind (f_X11_isUntil q12.2 (a2) (a3) (a4)) fun q15 =>
    if q15.1 = 0 then (
      some ((-1000001), q15.2)
    ) else (
      if 0 ≤ ((55 + (4 * a1)) + 1 : Int32).toInt ∧ ((55 + (4 * a1)) + 1 : Int32).toInt < 1817 then (
      Option.bind (some (q15.2 27 ((55 + (4 * a1)) + 1).toNatClampNeg)) fun y19 =>
      Option.bind (f_X11_minds q15.2) fun q21 =>
      Option.bind (f_X11_lays q21 (a1) (a2) (a3) (a4)) fun q23 =>
      some (y19, q23)
      ) else none
    )
  )
def F_X11_add_h85 (k85 : St → Int32 → Int32 → Int32 → Int32 → Int32 → Int32 → Option (Int32 × St)) (σ : St) (x1 : Int32) (x2 : Int32) (x3 : Int32) (x4 : Int32) (x5 : Int32) (x6 : Int32) : Option (Int32 × St) :=
  if x6 < ((4 * x1) + 4) then (
    if 0 ≤ (55 + (4 * x1) : Int32).toInt ∧ (55 + (4 * x1) : Int32).toInt < 1817 then (
    Option.bind (some (g_u2 σ 27 ((55 + (4 * x1)).toNatClampNeg) (x2))) fun σ32 =>
    Option.bind (f_X11_lays σ32 (x1) (x3) (x4) (x5)) fun q34 =>
    Option.bind (some (g_u2 q34 27 54 ((q34 27 54) + 1))) fun σ36 =>
    some (σ36 27 54, σ36)
    ) else none
  ) else (
    if 0 ≤ ((55 + x6) - 4 : Int32).toInt ∧ ((55 + x6) - 4 : Int32).toInt < 1817 then (
    if 0 ≤ (55 + x6 : Int32).toInt ∧ (55 + x6 : Int32).toInt < 1817 then (
    Option.bind (some (g_u2 σ 27 ((55 + x6).toNatClampNeg) (σ 27 ((55 + x6) - 4).toNatClampNeg))) fun σ40 =>
    Option.bind (some (x6 + (-1))) fun y42 =>
    k85 σ40 (x1) (x2) (x3) (x4) (x5) (y42)
    ) else none
    ) else none
  )
def z_X11_add_h85 : St → Int32 → Int32 → Int32 → Int32 → Int32 → Int32 → Option (Int32 × St) := fun _ _ _ _ _ _ _ => none
def f_X11_add (σ : St) (a1 : Int32) (a2 : Int32) (a3 : Int32) (a4 : Int32) (a5 : Int32) : Option (Int32 × St) :=
  Option.bind (f_X11_isSheet σ) fun q44 =>
  if q44.1 = 0 then (
    some ((-1000002), q44.2)
  ) else (
    Option.bind (f_X11_in q44.2 ((a1 : Int32).toInt64) (0) ((q44.2 27 54 : Int32).toInt64)) fun q47 =>
    if q47.1 = 0 then (
      some ((-1000001), q47.2)
    ) else (
      Option.bind (f_X11_in q47.2 ((a2 : Int32).toInt64) (0) (15)) fun q50 =>
      if q50.1 = 0 then (
        some ((-1000001), q50.2)
      ) else (
        Option.bind (f_X11_isUntil q50.2 (a3) (a4) (a5)) fun q53 =>
        if q53.1 = 0 then (
          some ((-1000001), q53.2)
        ) else (
          if (q53.2 27 54) = 6 then (
            some ((-1000003), q53.2)
          ) else (
            Option.bind (f_X11_minds q53.2) fun q57 =>
            Option.bind (some ((4 * (q57 27 54)) + 3)) fun y59 =>
            fx (F_X11_add_h85) z_X11_add_h85 FU q57 (a1) (a2) (a3) (a4) (a5) (y59)
          )
        )
      )
    )
  )
def F_X11_cut_h44 (k44 : St → Int32 → Option (Int32 × St)) (σ : St) (x2 : Int32) : Option (Int32 × St) :=
  if (4 * (σ 27 54)) ≤ x2 then (
    some (σ 27 54, σ)
  ) else (
    if 0 ≤ ((55 + x2) + 4 : Int32).toInt ∧ ((55 + x2) + 4 : Int32).toInt < 1817 then (
    if 0 ≤ (55 + x2 : Int32).toInt ∧ (55 + x2 : Int32).toInt < 1817 then (
    Option.bind (some (g_u2 σ 27 ((55 + x2).toNatClampNeg) (σ 27 ((55 + x2) + 4).toNatClampNeg))) fun σ19 =>
    Option.bind (some (x2 + 1)) fun y21 =>
    k44 σ19 (y21)
    ) else none
    ) else none
  )
def z_X11_cut_h44 : St → Int32 → Option (Int32 × St) := fun _ _ => none
def f_X11_cut (σ : St) (a1 : Int32) : Option (Int32 × St) :=
  Option.bind (f_X11_isLeg σ (a1)) fun q23 =>
  if q23.1 = 0 then (
    some ((-1000001), q23.2)
  ) else (
    if (q23.2 27 54) = 1 then (
      some ((-1000002), q23.2)
    ) else (
      Option.bind (f_X11_minds q23.2) fun q27 =>
      Option.bind (some (g_u2 q27 27 54 ((q27 27 54) - 1))) fun σ29 =>
      Option.bind (some (4 * a1)) fun y31 =>
      fx (F_X11_cut_h44) z_X11_cut_h44 FU σ29 (y31)
    )
  )
def f_X11_thing (σ : St) (a1 : Int32) (a2 : Int32) : Option (Int32 × St) :=
  Option.bind (f_X11_isThing σ (a1)) fun q9 =>
  if q9.1 = 0 then (
    some ((-1000001), q9.2)
  ) else (
    Option.bind (f_X11_in q9.2 ((a2 : Int32).toInt64) (0) (4)) fun q12 =>
    if q12.1 = 0 then (
      some ((-1000001), q12.2)
    ) else (
      Option.bind (f_X11_of q12.2 (a1) (a2)) fun q15 =>
      some (q15.1, q15.2)
    )
  )
def f_X11_leg (σ : St) (a1 : Int32) (a2 : Int32) : Option (Int32 × St) :=
  Option.bind (f_X11_isLeg σ (a1)) fun q8 =>
  if q8.1 = 0 then (
    some ((-1000001), q8.2)
  ) else (
    Option.bind (f_X11_in q8.2 ((a2 : Int32).toInt64) (0) (3)) fun q11 =>
    if q11.1 = 0 then (
      some ((-1000001), q11.2)
    ) else (
      if 0 ≤ ((55 + (4 * a1)) + a2 : Int32).toInt ∧ ((55 + (4 * a1)) + a2 : Int32).toInt < 1817 then (
      some (q11.2 27 ((55 + (4 * a1)) + a2).toNatClampNeg, q11.2)
      ) else none
    )
  )
def f_X11_tideAt (σ : St) (a1 : Int32) : Option (Int32 × St) :=
  Option.bind (some (σ 27 6)) fun y5 =>
  if y5 = 0 then none else
  if 0 ≤ (7 + ((a1 / 10) - (a1 / 10) / y5 * y5) : Int32).toInt ∧ (7 + ((a1 / 10) - (a1 / 10) / y5 * y5) : Int32).toInt < 1817 then (
  Option.bind (some (σ 27 (7 + ((a1 / 10) - (a1 / 10) / y5 * y5)).toNatClampNeg)) fun y9 =>
  if y5 = 0 then none else
  if 0 ≤ (7 + (((a1 / 10) + 1) - ((a1 / 10) + 1) / y5 * y5) : Int32).toInt ∧ (7 + (((a1 / 10) + 1) - ((a1 / 10) + 1) / y5 * y5) : Int32).toInt < 1817 then (
  Option.bind (some (σ 27 (7 + (((a1 / 10) + 1) - ((a1 / 10) + 1) / y5 * y5)).toNatClampNeg)) fun y13 =>
  some (y9 + (((y13 - y9) * (a1 - a1 / 10 * 10)) / 10), σ)
  ) else none
  ) else none
def f_X11_square (σ : St) (a1 : Int32) (a2 : Int32) : Option (Int32 × St) :=
  some ((a1 * a1) + (a2 * a2), σ)
def f_X11_plain (σ : St) (a1 : Int32) : Option (Int32 × St) :=
  if 0 ≤ a1 then (
    some (a1, σ)
  ) else (
    some (-a1, σ)
  )
def f_X11_isMark (σ : St) (a1 : Int32) : Option (Int32 × St) :=
  Option.bind (f_X11_isThing σ (a1)) fun q7 =>
  if q7.1 = 0 then (
    some (0, q7.2)
  ) else (
    Option.bind (f_X11_of q7.2 (a1) (0)) fun q10 =>
    if 3 < q10.1 then (
      some (0, q10.2)
    ) else (
      some (1, q10.2)
    )
  )
def f_X11_isShoal (σ : St) (a1 : Int32) : Option (Int32 × St) :=
  Option.bind (f_X11_of σ (a1) (0)) fun q4 =>
  if q4.1 < 4 then (
    some (0, q4.2)
  ) else (
    some (1, q4.2)
  )
def f_X11_lies (σ : St) (a1 : Int32) (a2 : Int32) (a3 : Int32) : Option (Int32 × St) :=
  Option.bind (f_X11_of σ (a1) (1)) fun q19 =>
  Option.bind (f_X11_plain q19.2 (a2 - q19.1)) fun q21 =>
  Option.bind (f_X11_of q21.2 (a1) (2)) fun q23 =>
  Option.bind (f_X11_plain q23.2 (a3 - q23.1)) fun q25 =>
  Option.bind (f_X11_of q25.2 (a1) (3)) fun q27 =>
  Option.bind (f_X11_of q27.2 (a1) (0)) fun q29 =>
  if q29.1 = 6 then (
    if q27.1 < q21.1 then (
      some (0, q29.2)
    ) else (
      if q27.1 < q25.1 then (
        some (0, q29.2)
      ) else (
        some (1, q29.2)
      )
    )
  ) else (
    Option.bind (f_X11_square q29.2 (q21.1) (q25.1)) fun q32 =>
    if (q27.1 * q27.1) < q32.1 then (
      some (0, q32.2)
    ) else (
      some (1, q32.2)
    )
  )
def f_X11_depthOf (σ : St) (a1 : Int32) : Option (Int32 × St) :=
  Option.bind (f_X11_of σ (a1) (0)) fun q8 =>
  if q8.1 = 5 then (
    Option.bind (f_X11_of q8.2 (a1) (4)) fun q13 =>
    some (-q13.1, q13.2)
  ) else (
    Option.bind (f_X11_of q8.2 (a1) (4)) fun q11 =>
    some (q11.1, q11.2)
  )
def f_X11_shoalAt_p61 (k6 : St → Int32 → Int32 → Int32 → Int32 → Option (Int32 × St)) (σ : St) (x1 : Int32) (x2 : Int32) (x3 : Int32) (x4 : Int32) : Option (Int32 × St) :=
  Option.bind (some (x4 + 1)) fun y16 =>
  k6 σ (x1) (x2) (x3) (y16)
def f_X11_shoalAt_p58 (k6 : St → Int32 → Int32 → Int32 → Int32 → Option (Int32 × St)) (σ : St) (x1 : Int32) (x2 : Int32) (x4 : Int32) : Option (Int32 × St) :=
  f_X11_shoalAt_p61 k6 σ (x1) (x2) (x4) (x4)
def F_X11_shoalAt_h6 (k6 : St → Int32 → Int32 → Int32 → Int32 → Option (Int32 × St)) (σ : St) (x1 : Int32) (x2 : Int32) (x3 : Int32) (x4 : Int32) : Option (Int32 × St) :=
  if (σ 27 13) ≤ x4 then (
    some (x3, σ)
  ) else (
    Option.bind (f_X11_isShoal σ (x4)) fun q19 =>
    if q19.1 = 0 then (
      f_X11_shoalAt_p61 k6 q19.2 (x1) (x2) (x3) (x4)
    ) else (
      Option.bind (f_X11_lies q19.2 (x4) (x1) (x2)) fun q22 =>
      if q22.1 = 0 then (
        f_X11_shoalAt_p61 k6 q22.2 (x1) (x2) (x3) (x4)
      ) else (
        if x3 = (-1000000) then (
          f_X11_shoalAt_p58 k6 q22.2 (x1) (x2) (x4)
        ) else (
          Option.bind (f_X11_depthOf q22.2 (x4)) fun q26 =>
          Option.bind (f_X11_depthOf q26.2 (x3)) fun q28 =>
          if q28.1 ≤ q26.1 then (
            f_X11_shoalAt_p61 k6 q28.2 (x1) (x2) (x3) (x4)
          ) else (
            f_X11_shoalAt_p58 k6 q28.2 (x1) (x2) (x4)
          )
        )
      )
    )
  )
def z_X11_shoalAt_h6 : St → Int32 → Int32 → Int32 → Int32 → Option (Int32 × St) := fun _ _ _ _ _ => none
def f_X11_shoalAt (σ : St) (a1 : Int32) (a2 : Int32) : Option (Int32 × St) :=
  fx (F_X11_shoalAt_h6) z_X11_shoalAt_h6 FU σ (a1) (a2) ((-1000000)) (0)
def f_X11_charted (σ : St) (a1 : Int32) (a2 : Int32) : Option (Int32 × St) :=
  Option.bind (f_X11_shoalAt σ (a1) (a2)) fun q6 =>
  if q6.1 = (-1000000) then (
    some (40, q6.2)
  ) else (
    Option.bind (f_X11_depthOf q6.2 (q6.1)) fun q9 =>
    some (q9.1, q9.2)
  )
def f_X11_eastOf_p27 (σ : St) (t0 : Int32) (t1 : Int32) : Option (Int32 × St) :=
  some (t1 + t0, σ)
def f_X11_eastOf (σ : St) (a1 : Int32) (a2 : Int32) : Option (Int32 × St) :=
  Option.bind (f_X11_of σ (a1) (1)) fun q8 =>
  Option.bind (f_X11_of q8.2 (a1) (0)) fun q10 =>
  if q10.1 = 3 then (
    Option.bind (f_X11_tideAt q10.2 (a2)) fun q13 =>
    f_X11_eastOf_p27 q13.2 (q13.1 / 4) (q8.1)
  ) else (
    f_X11_eastOf_p27 q10.2 (0) (q8.1)
  )
def f_X11_turn_p134 (k5 : St → Int32 → Int32 → Int32 → Int32 → Option (Int32 × St)) (σ : St) (x1 : Int32) (x2 : Int32) (x4 : Int32) (t0 : Int32) : Option (Int32 × St) :=
  Option.bind (some (x4 + 1)) fun y16 =>
  k5 σ (x1) (x2) (t0) (y16)
def f_X11_turn_p133 (k5 : St → Int32 → Int32 → Int32 → Int32 → Option (Int32 × St)) (σ : St) (x1 : Int32) (x2 : Int32) (x3 : Int32) (x4 : Int32) : Option (Int32 × St) :=
  f_X11_turn_p134 k5 σ (x1) (x2) (x4) (x3)
def f_X11_turn_p109 (k5 : St → Int32 → Int32 → Int32 → Int32 → Option (Int32 × St)) (σ : St) (x1 : Int32) (x2 : Int32) (x3 : Int32) (x4 : Int32) (x6 : Int32) (x7 : Int32) (x8 : Int32) : Option (Int32 × St) :=
  if x8 = 0 then (
    f_X11_turn_p133 k5 σ (x1) (x2) (x3) (x4)
  ) else (
    if 0 ≤ x6 then (
      f_X11_turn_p133 k5 σ (x1) (x2) (x3) (x4)
    ) else (
      if x7 ≤ 0 then (
        f_X11_turn_p133 k5 σ (x1) (x2) (x3) (x4)
      ) else (
        f_X11_turn_p134 k5 σ (x1) (x2) (x4) ((2 * x4) + 1)
      )
    )
  )
def f_X11_turn_p90 (k5 : St → Int32 → Int32 → Int32 → Int32 → Option (Int32 × St)) (σ : St) (x1 : Int32) (x2 : Int32) (x3 : Int32) (x4 : Int32) (x6 : Int32) (x7 : Int32) (t0 : Int32) : Option (Int32 × St) :=
  if t0 = 0 then (
    f_X11_turn_p109 k5 σ (x1) (x2) (x3) (x4) (x6) (x7) (t0)
  ) else (
    if x6 = 0 then (
      f_X11_turn_p134 k5 σ (x1) (x2) (x4) (2 * x4)
    ) else (
      f_X11_turn_p109 k5 σ (x1) (x2) (x3) (x4) (x6) (x7) (t0)
    )
  )
def F_X11_turn_h5 (k5 : St → Int32 → Int32 → Int32 → Int32 → Option (Int32 × St)) (σ : St) (x1 : Int32) (x2 : Int32) (x3 : Int32) (x4 : Int32) : Option (Int32 × St) :=
  if 16 ≤ x4 then (
    some (x3, σ)
  ) else (
    Option.bind (some ((x4 + 1) - (x4 + 1) / 16 * 16)) fun y24 =>
    if 0 ≤ (x4 : Int32).toInt ∧ (x4 : Int32).toInt < 16 then (
    if 0 ≤ (x4 : Int32).toInt ∧ (x4 : Int32).toInt < 16 then (
    Option.bind (some (((σ 30 (x4).toNatClampNeg) * x2) - ((σ 31 (x4).toNatClampNeg) * x1))) fun y28 =>
    if 0 ≤ (y24 : Int32).toInt ∧ (y24 : Int32).toInt < 16 then (
    if 0 ≤ (y24 : Int32).toInt ∧ (y24 : Int32).toInt < 16 then (
    Option.bind (some (((σ 30 (y24).toNatClampNeg) * x2) - ((σ 31 (y24).toNatClampNeg) * x1))) fun y32 =>
    if 0 ≤ (x4 : Int32).toInt ∧ (x4 : Int32).toInt < 16 then (
    if 0 ≤ (x4 : Int32).toInt ∧ (x4 : Int32).toInt < 16 then (
    if (((σ 30 (x4).toNatClampNeg) * x1) + ((σ 31 (x4).toNatClampNeg) * x2)) ≤ 0 then (
      f_X11_turn_p90 k5 σ (x1) (x2) (x3) (x4) (y28) (y32) (0)
    ) else (
      f_X11_turn_p90 k5 σ (x1) (x2) (x3) (x4) (y28) (y32) (1)
    )
    ) else none
    ) else none
    ) else none
    ) else none
    ) else none
    ) else none
  )
def z_X11_turn_h5 : St → Int32 → Int32 → Int32 → Int32 → Option (Int32 × St) := fun _ _ _ _ _ => none
def f_X11_turn (σ : St) (a1 : Int32) (a2 : Int32) : Option (Int32 × St) :=
  fx (F_X11_turn_h5) z_X11_turn_h5 FU σ (a1) (a2) (0) (0)
def f_X11_isInSector_p58 (σ : St) (x4 : Int32) (x5 : Int32) (x6 : Int32) (x7 : Int32) : Option (Int32 × St) :=
  Option.bind (f_X11_turn σ (x4) (x5)) fun q15 =>
  if ((((2 * x7) - (2 * x6)) + 32) - (((2 * x7) - (2 * x6)) + 32) / 32 * 32) ≤ (((q15.1 - (2 * x6)) + 32) - ((q15.1 - (2 * x6)) + 32) / 32 * 32) then (
    some (0, q15.2)
  ) else (
    some (1, q15.2)
  )
def f_X11_isInSector (σ : St) (a1 : Int32) (a2 : Int32) (a3 : Int32) : Option (Int32 × St) :=
  Option.bind (f_X11_of σ (a1) (1)) fun q18 =>
  Option.bind (some (a2 - q18.1)) fun y20 =>
  Option.bind (f_X11_of q18.2 (a1) (2)) fun q22 =>
  Option.bind (some (a3 - q22.1)) fun y24 =>
  Option.bind (f_X11_of q22.2 (a1) (3)) fun q26 =>
  Option.bind (f_X11_of q26.2 (a1) (4)) fun q28 =>
  Option.bind (some (q28.1 - q28.1 / 16 * 16)) fun y30 =>
  if q26.1 = y30 then (
    some (1, q28.2)
  ) else (
    if y20 = 0 then (
      if y24 = 0 then (
        some (1, q28.2)
      ) else (
        f_X11_isInSector_p58 q28.2 (y20) (y24) (q26.1) (y30)
      )
    ) else (
      f_X11_isInSector_p58 q28.2 (y20) (y24) (q26.1) (y30)
    )
  )
def f_X11_isSeen_p75 (σ : St) (t0 : Int32) (t1 : Int32) : Option (Int32 × St) :=
  if t0 < t1 then (
    some (0, σ)
  ) else (
    some (1, σ)
  )
def f_X11_isSeen (σ : St) (a1 : Int32) (a2 : Int32) (a3 : Int32) (a4 : Int32) : Option (Int32 × St) :=
  Option.bind (f_X11_has σ (σ 26 13) (a1)) fun q21 =>
  if q21.1 = 0 then (
    Option.bind (f_X11_eastOf q21.2 (a1) (a4)) fun q24 =>
    Option.bind (f_X11_of q24.2 (a1) (2)) fun q26 =>
    Option.bind (f_X11_square q26.2 (a2 - q24.1) (a3 - q26.1)) fun q28 =>
    Option.bind (f_X11_of q28.2 (a1) (0)) fun q30 =>
    if q30.1 = 2 then (
      Option.bind (f_X11_isInSector q30.2 (a1) (a2) (a3)) fun q36 =>
      if q36.1 = 0 ∨ q36.1 = 1 then some (q36.1, q36.2) else none
    ) else (
      Option.bind (f_X11_of q30.2 (a1) (0)) fun q33 =>
      if q33.1 = 1 then (
        f_X11_isSeen_p75 q33.2 (400) (q28.1)
      ) else (
        f_X11_isSeen_p75 q33.2 (100) (q28.1)
      )
    )
  ) else (
    some (0, q21.2)
  )
def f_X11_isMinute (σ : St) (a1 : Int32) : Option (Int32 × St) :=
  Option.bind (f_X11_in σ ((a1 : Int32).toInt64) (0) (9999)) fun q4 =>
  if q4.1 = 0 ∨ q4.1 = 1 then some (q4.1, q4.2) else none
def f_X11_isPlace (σ : St) (a1 : Int32) (a2 : Int32) : Option (Int32 × St) :=
  Option.bind (f_X11_in σ ((a1 : Int32).toInt64) (0) (60)) fun q7 =>
  if q7.1 = 0 then (
    some (0, q7.2)
  ) else (
    Option.bind (f_X11_in q7.2 ((a2 : Int32).toInt64) (0) (60)) fun q10 =>
    if q10.1 = 0 then (
      some (0, q10.2)
    ) else (
      some (1, q10.2)
    )
  )
def f_X11_height (σ : St) (a1 : Int32) : Option (Int32 × St) :=
  Option.bind (f_X11_isSheet σ) fun q9 =>
  if q9.1 = 0 then (
    some ((-1000002), q9.2)
  ) else (
    Option.bind (f_X11_isMinute q9.2 (a1)) fun q12 =>
    if q12.1 = 0 then (
      some ((-1000001), q12.2)
    ) else (
      Option.bind (f_X11_tideAt q12.2 (a1)) fun q15 =>
      some (q15.1, q15.2)
    )
  )
def f_X11_water (σ : St) (a1 : Int32) (a2 : Int32) (a3 : Int32) : Option (Int32 × St) :=
  Option.bind (f_X11_isSheet σ) fun q15 =>
  if q15.1 = 0 then (
    some ((-1000002), q15.2)
  ) else (
    Option.bind (f_X11_isPlace q15.2 (a1) (a2)) fun q18 =>
    if q18.1 = 0 then (
      some ((-1000001), q18.2)
    ) else (
      Option.bind (f_X11_in q18.2 ((a3 : Int32).toInt64) (0) (1)) fun q21 =>
      if q21.1 = 0 then (
        some ((-1000001), q21.2)
      ) else (
        if a3 = 0 then (
          Option.bind (f_X11_charted q21.2 (a1) (a2)) fun q27 =>
          some (q27.1, q27.2)
        ) else (
          Option.bind (f_X11_shoalAt q21.2 (a1) (a2)) fun q25 =>
          some (q25.1, q25.2)
        )
      )
    )
  )
def f_X11_mark (σ : St) (a1 : Int32) (a2 : Int32) (a3 : Int32) : Option (Int32 × St) :=
  Option.bind (f_X11_isThing σ (a1)) fun q18 =>
  if q18.1 = 0 then (
    some ((-1000001), q18.2)
  ) else (
    Option.bind (f_X11_isMinute q18.2 (a2)) fun q21 =>
    if q21.1 = 0 then (
      some ((-1000001), q21.2)
    ) else (
      Option.bind (f_X11_in q21.2 ((a3 : Int32).toInt64) (0) (1)) fun q24 =>
      if q24.1 = 0 then (
        some ((-1000001), q24.2)
      ) else (
        Option.bind (f_X11_isMark q24.2 (a1)) fun q27 =>
        if q27.1 = 0 then (
          some ((-1000002), q27.2)
        ) else (
          if a3 = 0 then (
            Option.bind (f_X11_eastOf q27.2 (a1) (a2)) fun q33 =>
            some (q33.1, q33.2)
          ) else (
            Option.bind (f_X11_of q27.2 (a1) (2)) fun q31 =>
            some (q31.1, q31.2)
          )
        )
      )
    )
  )
def f_X11_seen (σ : St) (a1 : Int32) (a2 : Int32) (a3 : Int32) (a4 : Int32) : Option (Int32 × St) :=
  Option.bind (f_X11_isThing σ (a1)) fun q16 =>
  if q16.1 = 0 then (
    some ((-1000001), q16.2)
  ) else (
    Option.bind (f_X11_isPlace q16.2 (a2) (a3)) fun q19 =>
    if q19.1 = 0 then (
      some ((-1000001), q19.2)
    ) else (
      Option.bind (f_X11_isMinute q19.2 (a4)) fun q22 =>
      if q22.1 = 0 then (
        some ((-1000001), q22.2)
      ) else (
        Option.bind (f_X11_isMark q22.2 (a1)) fun q25 =>
        if q25.1 = 0 then (
          some ((-1000002), q25.2)
        ) else (
          Option.bind (f_X11_isSeen q25.2 (a1) (a2) (a3) (a4)) fun q28 =>
          if q28.1 = 0 then (
            some (0, q28.2)
          ) else (
            some (1, q28.2)
          )
        )
      )
    )
  )
def f_X11_areTwo (σ : St) (a1 : Int32) (a2 : Int32) : Option (Int32 × St) :=
  Option.bind (f_X11_isThing σ (a1)) fun q8 =>
  if q8.1 = 0 then (
    some (0, q8.2)
  ) else (
    Option.bind (f_X11_isThing q8.2 (a2)) fun q11 =>
    if q11.1 = 0 then (
      some (0, q11.2)
    ) else (
      if a1 = a2 then (
        some (0, q11.2)
      ) else (
        some (1, q11.2)
      )
    )
  )
def f_X11_areApart (σ : St) (a1 : Int32) (a2 : Int32) : Option (Int32 × St) :=
  Option.bind (f_X11_of σ (a1) (1)) fun q11 =>
  Option.bind (f_X11_of q11.2 (a2) (1)) fun q13 =>
  if q11.1 = q13.1 then (
    Option.bind (f_X11_of q13.2 (a1) (2)) fun q16 =>
    Option.bind (f_X11_of q16.2 (a2) (2)) fun q18 =>
    if q16.1 = q18.1 then (
      some (0, q18.2)
    ) else (
      some (1, q18.2)
    )
  ) else (
    some (1, q13.2)
  )
def f_X11_side (σ : St) (a1 : Int32) (a2 : Int32) (a3 : Int32) (a4 : Int32) : Option (Int32 × St) :=
  Option.bind (f_X11_of σ (a2) (1)) fun q13 =>
  Option.bind (f_X11_of q13.2 (a1) (1)) fun q15 =>
  Option.bind (f_X11_of q15.2 (a1) (2)) fun q17 =>
  Option.bind (f_X11_of q17.2 (a2) (2)) fun q19 =>
  Option.bind (f_X11_of q19.2 (a1) (2)) fun q21 =>
  Option.bind (f_X11_of q21.2 (a1) (1)) fun q23 =>
  some (((q13.1 - q15.1) * (a4 - q17.1)) - ((q19.1 - q21.1) * (a3 - q23.1)), q23.2)
def f_X11_signOf (σ : St) (a1 : Int32) : Option (Int32 × St) :=
  if 0 ≤ a1 then (
    if a1 ≤ 0 then (
      some (0, σ)
    ) else (
      some (1, σ)
    )
  ) else (
    some ((-1), σ)
  )
def f_X11_line (σ : St) (a1 : Int32) (a2 : Int32) (a3 : Int32) (a4 : Int32) : Option (Int32 × St) :=
  Option.bind (f_X11_areTwo σ (a1) (a2)) fun q14 =>
  if q14.1 = 0 then (
    some ((-1000001), q14.2)
  ) else (
    Option.bind (f_X11_isPlace q14.2 (a3) (a4)) fun q17 =>
    if q17.1 = 0 then (
      some ((-1000001), q17.2)
    ) else (
      Option.bind (f_X11_areApart q17.2 (a1) (a2)) fun q20 =>
      if q20.1 = 0 then (
        some ((-1000002), q20.2)
      ) else (
        Option.bind (f_X11_side q20.2 (a1) (a2) (a3) (a4)) fun q23 =>
        Option.bind (f_X11_signOf q23.2 (q23.1)) fun q25 =>
        some (q25.1, q25.2)
      )
    )
  )
def f_X11_wholly (σ : St) (a1 : Int32) (a2 : Int32) (a3 : Int32) : Option (Int32 × St) :=
  Option.bind (f_X11_of σ (a3) (1)) fun q41 =>
  Option.bind (f_X11_of q41.2 (a3) (2)) fun q43 =>
  Option.bind (f_X11_of q43.2 (a3) (3)) fun q45 =>
  Option.bind (f_X11_side q45.2 (a1) (a2) (q41.1) (q43.1)) fun q47 =>
  Option.bind (f_X11_of q47.2 (a3) (0)) fun q49 =>
  if q49.1 = 6 then (
    Option.bind (f_X11_side q49.2 (a1) (a2) (q41.1 - q45.1) (q43.1 - q45.1)) fun q65 =>
    Option.bind (f_X11_signOf q65.2 (q65.1)) fun q67 =>
    Option.bind (f_X11_side q67.2 (a1) (a2) (q41.1 - q45.1) (q43.1 + q45.1)) fun q69 =>
    Option.bind (f_X11_signOf q69.2 (q69.1)) fun q71 =>
    Option.bind (f_X11_side q71.2 (a1) (a2) (q41.1 + q45.1) (q43.1 - q45.1)) fun q73 =>
    Option.bind (f_X11_signOf q73.2 (q73.1)) fun q75 =>
    Option.bind (f_X11_side q75.2 (a1) (a2) (q41.1 + q45.1) (q43.1 + q45.1)) fun q77 =>
    Option.bind (f_X11_signOf q77.2 (q77.1)) fun q79 =>
    Option.bind (some (((q67.1 + q71.1) + q75.1) + q79.1)) fun y81 =>
    some (y81 / 4, q79.2)
  ) else (
    Option.bind (f_X11_of q49.2 (a2) (1)) fun q52 =>
    Option.bind (f_X11_of q52.2 (a1) (1)) fun q54 =>
    Option.bind (f_X11_of q54.2 (a2) (2)) fun q56 =>
    Option.bind (f_X11_of q56.2 (a1) (2)) fun q58 =>
    Option.bind (f_X11_square q58.2 (q52.1 - q54.1) (q56.1 - q58.1)) fun q60 =>
    if (q47.1 * q47.1) ≤ ((q45.1 * q45.1) * q60.1) then (
      some (0, q60.2)
    ) else (
      Option.bind (f_X11_signOf q60.2 (q47.1)) fun q63 =>
      some (q63.1, q63.2)
    )
  )
def f_X11_lines_p102 (k42 : St → Int32 → Int32 → Int32 → Int32 → Int32 → Option (Int32 × St)) (σ : St) (x1 : Int32) (x2 : Int32) (x3 : Int32) (x5 : Int32) (t0 : Int32) (t1 : Int32) : Option (Int32 × St) :=
  Option.bind (some (t1 ||| t0)) fun y21 =>
  Option.bind (some (x5 + 1)) fun y23 =>
  k42 σ (x1) (x2) (x3) (y21) (y23)
def f_X11_lines_p101 (k42 : St → Int32 → Int32 → Int32 → Int32 → Int32 → Option (Int32 × St)) (σ : St) (x1 : Int32) (x2 : Int32) (x3 : Int32) (x5 : Int32) (t0 : Int32) : Option (Int32 × St) :=
  f_X11_lines_p102 k42 σ (x1) (x2) (x3) (x5) (0) (t0)
def f_X11_lines_p91 (k42 : St → Int32 → Int32 → Int32 → Int32 → Int32 → Option (Int32 × St)) (σ : St) (x1 : Int32) (x2 : Int32) (x3 : Int32) (x5 : Int32) (t0 : Int32) (t1 : Int32) (t2 : Int32) : Option (Int32 × St) :=
  if t1 = t0 then (
    f_X11_lines_p102 k42 σ (x1) (x2) (x3) (x5) (1 <<< (x5 &&& 31)) (t2)
  ) else (
    f_X11_lines_p101 k42 σ (x1) (x2) (x3) (x5) (t2)
  )
def F_X11_lines_h42 (k42 : St → Int32 → Int32 → Int32 → Int32 → Int32 → Option (Int32 × St)) (σ : St) (x1 : Int32) (x2 : Int32) (x3 : Int32) (x4 : Int32) (x5 : Int32) : Option (Int32 × St) :=
  if (σ 27 13) ≤ x5 then (
    some (x4, σ)
  ) else (
    Option.bind (f_X11_isShoal σ (x5)) fun q27 =>
    if q27.1 = 0 then (
      f_X11_lines_p101 k42 q27.2 (x1) (x2) (x3) (x5) (x4)
    ) else (
      Option.bind (f_X11_wholly q27.2 (x1) (x2) (x5)) fun q30 =>
      if x3 = 0 then (
        f_X11_lines_p91 k42 q30.2 (x1) (x2) (x3) (x5) (1) (q30.1) (x4)
      ) else (
        if x3 = 1 then (
          f_X11_lines_p91 k42 q30.2 (x1) (x2) (x3) (x5) ((-1)) (q30.1) (x4)
        ) else (
          f_X11_lines_p91 k42 q30.2 (x1) (x2) (x3) (x5) (0) (q30.1) (x4)
        )
      )
    )
  )
def z_X11_lines_h42 : St → Int32 → Int32 → Int32 → Int32 → Int32 → Option (Int32 × St) := fun _ _ _ _ _ _ => none
def f_X11_lines (σ : St) (a1 : Int32) (a2 : Int32) (a3 : Int32) : Option (Int32 × St) :=
  Option.bind (f_X11_areTwo σ (a1) (a2)) fun q34 =>
  if q34.1 = 0 then (
    some ((-1000001), q34.2)
  ) else (
    Option.bind (f_X11_in q34.2 ((a3 : Int32).toInt64) (0) (2)) fun q37 =>
    if q37.1 = 0 then (
      some ((-1000001), q37.2)
    ) else (
      Option.bind (f_X11_areApart q37.2 (a1) (a2)) fun q40 =>
      if q40.1 = 0 then (
        some ((-1000002), q40.2)
      ) else (
        fx (F_X11_lines_h42) z_X11_lines_h42 FU q40.2 (a1) (a2) (a3) (0) (0)
      )
    )
  )
def f_X11_by (σ : St) (a1 : Int32) (a2 : Int32) : Option (St) :=
  if 0 ≤ (σ 26 23 : Int32).toInt ∧ (σ 26 23 : Int32).toInt < 4 then (
  Option.bind (some (g_u2 σ 37 ((σ 26 23).toNatClampNeg) (a1))) fun σ10 =>
  if 0 ≤ (σ10 26 23 : Int32).toInt ∧ (σ10 26 23 : Int32).toInt < 4 then (
  Option.bind (some (g_u2 σ10 38 ((σ10 26 23).toNatClampNeg) (a2))) fun σ13 =>
  Option.bind (some (g_u2 σ13 26 23 ((σ13 26 23) + 1))) fun σ15 =>
  some σ15
  ) else none
  ) else none
def f_X11_legOf (σ : St) (a1 : Int32) (a2 : Int32) : Option (Int32 × St) :=
  if 0 ≤ ((55 + (4 * a1)) + a2 : Int32).toInt ∧ ((55 + (4 * a1)) + a2 : Int32).toInt < 1817 then (
  some (σ 27 ((55 + (4 * a1)) + a2).toNatClampNeg, σ)
  ) else none
def f_X11_mistaken_p59 (σ : St) (x2 : Int32) (x4 : Int32) : Option (Int32 × St) :=
  if x2 = 2 then (
    Option.bind (f_X11_isMark σ (x4)) fun q21 =>
    if q21.1 = 0 then (
      some (x4, q21.2)
    ) else (
      some ((-1000000), q21.2)
    )
  ) else (
    some ((-1000000), σ)
  )
def f_X11_mistaken_p57 (σ : St) (x3 : Int32) : Option (Int32 × St) :=
  some (x3, σ)
def f_X11_mistaken (σ : St) (a1 : Int32) : Option (Int32 × St) :=
  Option.bind (f_X11_legOf σ (a1) (1)) fun q24 =>
  if q24.1 = 0 then (
    some ((-1000000), q24.2)
  ) else (
    if q24.1 = 4 then (
      some ((-1000000), q24.2)
    ) else (
      Option.bind (f_X11_legOf q24.2 (a1) (2)) fun q28 =>
      Option.bind (f_X11_legOf q28.2 (a1) (3)) fun q30 =>
      Option.bind (f_X11_isMark q30.2 (q28.1)) fun q32 =>
      if q32.1 = 0 then (
        f_X11_mistaken_p57 q32.2 (q28.1)
      ) else (
        if q24.1 = 3 then (
          Option.bind (f_X11_of q32.2 (q28.1) (0)) fun q36 =>
          if q36.1 = 2 then (
            f_X11_mistaken_p59 q36.2 (q24.1) (q30.1)
          ) else (
            f_X11_mistaken_p57 q36.2 (q28.1)
          )
        ) else (
          f_X11_mistaken_p59 q32.2 (q24.1) (q30.1)
        )
      )
    )
  )
def f_X11_lineOf (σ : St) (a1 : Int32) (a2 : Int32) (a3 : Int32) (a4 : Int32) (a5 : Int32) : Option (Int32 × St) :=
  Option.bind (f_X11_eastOf σ (a1) (a5)) fun q9 =>
  Option.bind (f_X11_of q9.2 (a2) (2)) fun q11 =>
  Option.bind (f_X11_of q11.2 (a1) (2)) fun q13 =>
  Option.bind (f_X11_eastOf q13.2 (a2) (a5)) fun q15 =>
  some (((q9.1 - a3) * (q11.1 - a4)) - ((q13.1 - a4) * (q15.1 - a3)), q15.2)
def f_X11_comes (σ : St) (a1 : Int32) (a2 : Int32) (a3 : Int32) (a4 : Int32) : Option (Int32 × St) :=
  Option.bind (f_X11_legOf σ (a1) (2)) fun q56 =>
  Option.bind (f_X11_legOf q56.2 (a1) (3)) fun q58 =>
  if 0 ≤ (a3 : Int32).toInt ∧ (a3 : Int32).toInt < 361 then (
  Option.bind (some (q58.2 33 (a3).toNatClampNeg)) fun y61 =>
  if 0 ≤ (a3 : Int32).toInt ∧ (a3 : Int32).toInt < 361 then (
  Option.bind (some (q58.2 34 (a3).toNatClampNeg)) fun y64 =>
  Option.bind (some (a4 + a3)) fun y66 =>
  Option.bind (f_X11_legOf q58.2 (a1) (1)) fun q68 =>
  if q68.1 = 0 then (
    if (a3 - a2) < q56.1 then (
      some (0, q68.2)
    ) else (
      some (1, q68.2)
    )
  ) else (
  if q68.1 = 1 then (
    Option.bind (f_X11_legOf q68.2 (a1) (0)) fun q72 =>
    Option.bind (f_X11_isSeen q72.2 (q56.1) (y61) (y64) (y66)) fun q74 =>
    if q74.1 = 0 then (
      some (0, q74.2)
    ) else (
      if 0 ≤ (q72.1 : Int32).toInt ∧ (q72.1 : Int32).toInt < 16 then (
      Option.bind (f_X11_eastOf q74.2 (q56.1) (y66)) fun q78 =>
      if 0 ≤ (q72.1 : Int32).toInt ∧ (q72.1 : Int32).toInt < 16 then (
      Option.bind (f_X11_of q78.2 (q56.1) (2)) fun q81 =>
      if 0 < (((q74.2 30 (q72.1).toNatClampNeg) * (q78.1 - y61)) + ((q78.2 31 (q72.1).toNatClampNeg) * (q81.1 - y64))) then (
        some (0, q81.2)
      ) else (
        some (1, q81.2)
      )
      ) else none
      ) else none
    )
  ) else (
  if q68.1 = 2 then (
    Option.bind (f_X11_lineOf q68.2 (q56.1) (q58.1) (y61) (y64) (y66)) fun q85 =>
    Option.bind (f_X11_signOf q85.2 (q85.1)) fun q87 =>
    if 0 ≤ (a2 : Int32).toInt ∧ (a2 : Int32).toInt < 361 then (
    if 0 ≤ (a2 : Int32).toInt ∧ (a2 : Int32).toInt < 361 then (
    Option.bind (f_X11_lineOf q87.2 (q56.1) (q58.1) (q87.2 33 (a2).toNatClampNeg) (q87.2 34 (a2).toNatClampNeg) (a4 + a2)) fun q91 =>
    Option.bind (f_X11_signOf q91.2 (q91.1)) fun q93 =>
    Option.bind (f_X11_isSeen q93.2 (q56.1) (y61) (y64) (y66)) fun q95 =>
    if q95.1 = 0 then (
      some (0, q95.2)
    ) else (
      Option.bind (f_X11_isSeen q95.2 (q58.1) (y61) (y64) (y66)) fun q98 =>
      if q98.1 = 0 then (
        some (0, q98.2)
      ) else (
        if q87.1 = 0 then (
          some (1, q98.2)
        ) else (
          if (q87.1 + q93.1) = 0 then (
            some (1, q98.2)
          ) else (
            some (0, q98.2)
          )
        )
      )
    )
    ) else none
    ) else none
  ) else (
  if q68.1 = 3 then (
    Option.bind (f_X11_isSeen q68.2 (q56.1) (y61) (y64) (y66)) fun q104 =>
    if 0 ≤ (a2 : Int32).toInt ∧ (a2 : Int32).toInt < 361 then (
    if 0 ≤ (a2 : Int32).toInt ∧ (a2 : Int32).toInt < 361 then (
    Option.bind (f_X11_isSeen q104.2 (q56.1) (q104.2 33 (a2).toNatClampNeg) (q104.2 34 (a2).toNatClampNeg) (a4 + a2)) fun q108 =>
    if q104.1 = q108.1 then (
      some (0, q108.2)
    ) else (
      some (1, q108.2)
    )
    ) else none
    ) else none
  ) else (
    Option.bind (f_X11_charted q68.2 (y61) (y64)) fun q112 =>
    Option.bind (f_X11_tideAt q112.2 (y66)) fun q114 =>
    if q56.1 < (q112.1 + q114.1) then (
      some (0, q114.2)
    ) else (
      some (1, q114.2)
    )
  ))))
  ) else none
  ) else none
def f_X11_greatestHeight_p41 (k4 : St → Int32 → Int32 → Option (Int32 × St)) (σ : St) (x2 : Int32) (t0 : Int32) : Option (Int32 × St) :=
  Option.bind (some (x2 + 1)) fun y7 =>
  k4 σ (t0) (y7)
def F_X11_greatestHeight_h4 (k4 : St → Int32 → Int32 → Option (Int32 × St)) (σ : St) (x1 : Int32) (x2 : Int32) : Option (Int32 × St) :=
  if (σ 27 6) ≤ x2 then (
    some (x1, σ)
  ) else (
    if 0 ≤ (7 + x2 : Int32).toInt ∧ (7 + x2 : Int32).toInt < 1817 then (
    if (σ 27 (7 + x2).toNatClampNeg) ≤ x1 then (
      f_X11_greatestHeight_p41 k4 σ (x2) (x1)
    ) else (
      if 0 ≤ (7 + x2 : Int32).toInt ∧ (7 + x2 : Int32).toInt < 1817 then (
      f_X11_greatestHeight_p41 k4 σ (x2) (σ 27 (7 + x2).toNatClampNeg)
      ) else none
    )
    ) else none
  )
def z_X11_greatestHeight_h4 : St → Int32 → Int32 → Option (Int32 × St) := fun _ _ _ => none
def f_X11_greatestHeight (σ : St) : Option (Int32 × St) :=
  fx (F_X11_greatestHeight_h4) z_X11_greatestHeight_h4 FU σ (0) (0)
def f_X11_overdue_p97 (k16 : St → Int32 → Int32 → Int32 → Int32 → Option (St)) (σ : St) (x1 : Int32) (x2 : Int32) (x3 : Int32) (x4 : Int32) : Option (St) :=
  Option.bind (some (x4 + 1)) fun y23 =>
  k16 σ (x1) (x2) (x3) (y23)
def f_X11_overdue_p46 (k16 : St → Int32 → Int32 → Int32 → Int32 → Option (St)) (σ : St) (x1 : Int32) (x2 : Int32) (x3 : Int32) (x4 : Int32) : Option (St) :=
  Option.bind (f_X11_legOf σ (x1) (x4)) fun q25 =>
  if 0 ≤ (q25.2 26 18 : Int32).toInt ∧ (q25.2 26 18 : Int32).toInt < 361 then (
  if 0 ≤ (q25.2 26 18 : Int32).toInt ∧ (q25.2 26 18 : Int32).toInt < 361 then (
  Option.bind (f_X11_isSeen q25.2 (q25.1) (q25.2 33 (q25.2 26 18).toNatClampNeg) (q25.2 34 (q25.2 26 18).toNatClampNeg) (x2 + (q25.2 26 18))) fun q29 =>
  if q29.1 = 0 then (
    Option.bind (f_X11_legOf q29.2 (x1) (x4)) fun q32 =>
    Option.bind (f_X11_by q32.2 (8) (q32.1)) fun q34 =>
    f_X11_overdue_p97 k16 q34 (x1) (x2) (x3) (x4)
  ) else (
    f_X11_overdue_p97 k16 q29.2 (x1) (x2) (x3) (x4)
  )
  ) else none
  ) else none
def f_X11_overdue_p41 (k16 : St → Int32 → Int32 → Int32 → Int32 → Option (St)) (σ : St) (x1 : Int32) (x2 : Int32) (x3 : Int32) (x4 : Int32) : Option (St) :=
  if x3 = 2 then (
    f_X11_overdue_p46 k16 σ (x1) (x2) (x3) (x4)
  ) else (
    some σ
  )
def F_X11_overdue_h16 (k16 : St → Int32 → Int32 → Int32 → Int32 → Option (St)) (σ : St) (x1 : Int32) (x2 : Int32) (x3 : Int32) (x4 : Int32) : Option (St) :=
  if 4 ≤ x4 then (
    some σ
  ) else (
    if 4 ≤ (σ 26 23) then (
      some σ
    ) else (
      if x3 = 1 then (
        if x4 = 2 then (
          f_X11_overdue_p46 k16 σ (x1) (x2) (x3) (x4)
        ) else (
          f_X11_overdue_p41 k16 σ (x1) (x2) (x3) (x4)
        )
      ) else (
        f_X11_overdue_p41 k16 σ (x1) (x2) (x3) (x4)
      )
    )
  )
def z_X11_overdue_h16 : St → Int32 → Int32 → Int32 → Int32 → Option (St) := fun _ _ _ _ _ => none
def f_X11_overdue (σ : St) (a1 : Int32) (a2 : Int32) : Option (St) :=
  Option.bind (f_X11_legOf σ (a1) (1)) fun q41 =>
  Option.bind (f_X11_by q41.2 (5) (q41.1)) fun q43 =>
  fx (F_X11_overdue_h16) z_X11_overdue_h16 FU q43 (a1) (a2) (q41.1) (2)
def f_X11_goesOn_p216 (σ : St) (t0 : Int32) (t1 : Int32) : Option (Int32 × St) :=
  Option.bind (f_X11_by σ (t1) (t0)) fun q52 =>
  some (0, q52)
def f_X11_goesOn_p202 (σ : St) (x8 : Int32) (x9 : Int32) (t0 : Int32) : Option (Int32 × St) :=
  if x9 < 0 then (
    f_X11_goesOn_p216 σ (-x9) (t0)
  ) else (
    f_X11_goesOn_p216 σ (-x8) (t0)
  )
def f_X11_goesOn_p144 (σ : St) (x1 : Int32) (x2 : Int32) (x3 : Int32) (x4 : Int32) (x5 : Int32) (x6 : Int32) (x7 : Int32) (x8 : Int32) : Option (Int32 × St) :=
  if 0 ≤ x8 then (
    Option.bind (f_X11_comes σ (x1) (x2) (σ 26 18) (x3)) fun q56 =>
    if q56.1 = 0 then (
      if ((q56.2 26 18) - x2) = 60 then (
        Option.bind (f_X11_by q56.2 (1) (x1)) fun q60 =>
        Option.bind (f_X11_by q60 (2) (q60 26 18)) fun q62 =>
        Option.bind (f_X11_overdue q62 (x1) (x3)) fun q64 =>
        some (0, q64)
      ) else (
        some (1, q56.2)
      )
    ) else (
      Option.bind (some (g_u2 q56.2 26 19 ((q56.2 26 19) + 1))) fun σ66 =>
      some (0, σ66)
    )
  ) else (
    Option.bind (f_X11_by σ (1) (x1)) fun q68 =>
    Option.bind (f_X11_by q68 (2) (q68 26 18)) fun q70 =>
    Option.bind (f_X11_shoalAt q70 (x5) (x6)) fun q72 =>
    Option.bind (f_X11_by q72.2 (4) (q72.1)) fun q74 =>
    Option.bind (f_X11_greatestHeight q74) fun q76 =>
    Option.bind (some ((x7 + q76.1) - x4)) fun y78 =>
    if y78 < 0 then (
      f_X11_goesOn_p202 q76.2 (x8) (y78) (7)
    ) else (
      f_X11_goesOn_p202 q76.2 (x8) (y78) (6)
    )
  )
def f_X11_goesOn_p130 (σ : St) (x1 : Int32) (x2 : Int32) (x3 : Int32) (x4 : Int32) (x5 : Int32) (x6 : Int32) (x7 : Int32) (x8 : Int32) : Option (Int32 × St) :=
  Option.bind (some (g_u2 σ 26 21 (x8))) fun σ81 =>
  Option.bind (some (g_u2 σ81 26 22 (σ81 26 18))) fun σ83 =>
  f_X11_goesOn_p144 σ83 (x1) (x2) (x3) (x4) (x5) (x6) (x7) (x8)
def f_X11_goesOn_p79 (σ : St) (t0 : Int32) (t1 : Int32) : Option (Int32 × St) :=
  Option.bind (f_X11_by σ (t1) (t0)) fun q85 =>
  some (0, q85)
def f_X11_goesOn (σ : St) (a1 : Int32) (a2 : Int32) (a3 : Int32) (a4 : Int32) : Option (Int32 × St) :=
  if 0 ≤ (σ 26 18 : Int32).toInt ∧ (σ 26 18 : Int32).toInt < 361 then (
  Option.bind (some (σ 33 (σ 26 18).toNatClampNeg)) fun y88 =>
  if 0 ≤ (σ 26 18 : Int32).toInt ∧ (σ 26 18 : Int32).toInt < 361 then (
  Option.bind (some (σ 34 (σ 26 18).toNatClampNeg)) fun y91 =>
  Option.bind (f_X11_isPlace σ (y88) (y91)) fun q93 =>
  if q93.1 = 0 then (
    Option.bind (f_X11_by q93.2 (1) (a1)) fun q104 =>
    Option.bind (f_X11_by q104 (2) (q104 26 18)) fun q106 =>
    if 0 ≤ y88 then (
      if y88 ≤ 60 then (
        if 0 ≤ y91 then (
          f_X11_goesOn_p79 q106 (3) (3)
        ) else (
          f_X11_goesOn_p79 q106 (2) (3)
        )
      ) else (
        f_X11_goesOn_p79 q106 (1) (3)
      )
    ) else (
      f_X11_goesOn_p79 q106 (0) (3)
    )
  ) else (
    Option.bind (f_X11_charted q93.2 (y88) (y91)) fun q96 =>
    Option.bind (f_X11_tideAt q96.2 (a3 + (q96.2 26 18))) fun q98 =>
    Option.bind (some ((q96.1 + q98.1) - a4)) fun y100 =>
    if (q98.2 26 22) = (-1000000) then (
      f_X11_goesOn_p130 q98.2 (a1) (a2) (a3) (a4) (y88) (y91) (q96.1) (y100)
    ) else (
      if (q98.2 26 21) ≤ y100 then (
        f_X11_goesOn_p144 q98.2 (a1) (a2) (a3) (a4) (y88) (y91) (q96.1) (y100)
      ) else (
        f_X11_goesOn_p130 q98.2 (a1) (a2) (a3) (a4) (y88) (y91) (q96.1) (y100)
      )
    )
  )
  ) else none
  ) else none
def f_X11_sails_p339 (σ : St) (t0 : Int32) : Option (St) :=
  if t0 = 0 ∨ t0 = 1 then (
  Option.bind (some (g_u2 σ 26 20 (t0))) fun σ75 =>
  some σ75
  ) else none
def f_X11_sails_p326 (σ : St) : Option (St) :=
  if (σ 26 23) = 0 then (
    f_X11_sails_p339 σ (1)
  ) else (
    f_X11_sails_p339 σ (0)
  )
def f_X11_sails_p258 (σ : St) : Option (St) :=
  if 0 ≤ (σ 26 18 : Int32).toInt ∧ (σ 26 18 : Int32).toInt < 361 then (
  if 0 ≤ (σ 26 18 : Int32).toInt ∧ (σ 26 18 : Int32).toInt < 361 then (
  Option.bind (f_X11_square σ ((σ 33 (σ 26 18).toNatClampNeg) - (σ 27 4)) ((σ 34 (σ 26 18).toNatClampNeg) - (σ 27 5))) fun q80 =>
  if (q80.2 26 23) = 0 then (
    if q80.1 ≤ 9 then (
      f_X11_sails_p326 q80.2
    ) else (
      Option.bind (f_X11_by q80.2 (1) (q80.2 27 54)) fun q84 =>
      Option.bind (f_X11_by q84 (10) (q80.1)) fun q86 =>
      f_X11_sails_p326 q86
    )
  ) else (
    f_X11_sails_p326 q80.2
  )
  ) else none
  ) else none
def F_X11_sails_h139 (k66 : St → Int32 → Int32 → Int32 → Option (St)) (k139 : St → Int32 → Int32 → Int32 → Int32 → Int32 → Option (St)) (σ : St) (x1 : Int32) (x2 : Int32) (x3 : Int32) (x5 : Int32) (x6 : Int32) : Option (St) :=
  if x6 = 0 then (
    Option.bind (some (x3 + 1)) fun y89 =>
    k66 σ (x1) (x2) (y89)
  ) else (
    Option.bind (some (g_u2 σ 26 18 ((σ 26 18) + 1))) fun σ91 =>
    if 0 ≤ ((σ91 26 18) - 1 : Int32).toInt ∧ ((σ91 26 18) - 1 : Int32).toInt < 361 then (
    Option.bind (f_X11_legOf σ91 (x3) (0)) fun q94 =>
    if 0 ≤ (q94.1 : Int32).toInt ∧ (q94.1 : Int32).toInt < 16 then (
    if 0 ≤ (σ91 26 18 : Int32).toInt ∧ (σ91 26 18 : Int32).toInt < 361 then (
    Option.bind (some (g_u2 q94.2 33 ((σ91 26 18).toNatClampNeg) ((σ91 33 ((σ91 26 18) - 1).toNatClampNeg) + (q94.2 30 (q94.1).toNatClampNeg)))) fun σ98 =>
    if 0 ≤ ((σ98 26 18) - 1 : Int32).toInt ∧ ((σ98 26 18) - 1 : Int32).toInt < 361 then (
    Option.bind (f_X11_legOf σ98 (x3) (0)) fun q101 =>
    if 0 ≤ (q101.1 : Int32).toInt ∧ (q101.1 : Int32).toInt < 16 then (
    if 0 ≤ (σ98 26 18 : Int32).toInt ∧ (σ98 26 18 : Int32).toInt < 361 then (
    Option.bind (some (g_u2 q101.2 34 ((σ98 26 18).toNatClampNeg) ((σ98 34 ((σ98 26 18) - 1).toNatClampNeg) + (q101.2 31 (q101.1).toNatClampNeg)))) fun σ105 =>
    if 0 ≤ (σ105 26 18 : Int32).toInt ∧ (σ105 26 18 : Int32).toInt < 361 then (
    Option.bind (some (g_u2 σ105 35 ((σ105 26 18).toNatClampNeg) (x3))) fun σ108 =>
    if 0 ≤ (x3 : Int32).toInt ∧ (x3 : Int32).toInt < 6 then (
    if 0 ≤ (x3 : Int32).toInt ∧ (x3 : Int32).toInt < 6 then (
    Option.bind (some (g_u2 σ108 36 ((x3).toNatClampNeg) ((σ108 36 (x3).toNatClampNeg) + 1))) fun σ112 =>
    Option.bind (f_X11_goesOn σ112 (x3) (x5) (x1) (x2)) fun q114 =>
    k139 q114.2 (x1) (x2) (x3) (x5) (q114.1)
    ) else none
    ) else none
    ) else none
    ) else none
    ) else none
    ) else none
    ) else none
    ) else none
    ) else none
  )
def z_X11_sails_h139 : St → Int32 → Int32 → Int32 → Int32 → Int32 → Option (St) := fun _ _ _ _ _ _ => none
def f_X11_sails_p137 (k66 : St → Int32 → Int32 → Int32 → Option (St)) (σ : St) (x1 : Int32) (x2 : Int32) (x3 : Int32) (x5 : Int32) (t0 : Int32) : Option (St) :=
  fx (F_X11_sails_h139 k66) z_X11_sails_h139 FU σ (x1) (x2) (x3) (x5) (t0)
def f_X11_sails_p119 (k66 : St → Int32 → Int32 → Int32 → Option (St)) (σ : St) (x1 : Int32) (x2 : Int32) (x3 : Int32) (x4 : Int32) : Option (St) :=
  Option.bind (some (σ 26 18)) fun y116 =>
  if x4 = (-1000000) then (
    f_X11_sails_p137 k66 σ (x1) (x2) (x3) (y116) (1)
  ) else (
    f_X11_sails_p137 k66 σ (x1) (x2) (x3) (y116) (0)
  )
def F_X11_sails_h66 (k66 : St → Int32 → Int32 → Int32 → Option (St)) (σ : St) (x1 : Int32) (x2 : Int32) (x3 : Int32) : Option (St) :=
  if (σ 27 54) ≤ x3 then (
    f_X11_sails_p258 σ
  ) else (
    if (σ 26 23) = 0 then (
      if 0 ≤ (x3 : Int32).toInt ∧ (x3 : Int32).toInt < 6 then (
      Option.bind (some (g_u2 σ 36 ((x3).toNatClampNeg) (0))) fun σ122 =>
      Option.bind (f_X11_mistaken σ122 (x3)) fun q124 =>
      if q124.1 = (-1000000) then (
        f_X11_sails_p119 k66 q124.2 (x1) (x2) (x3) (q124.1)
      ) else (
        Option.bind (f_X11_by q124.2 (1) (x3)) fun q127 =>
        Option.bind (f_X11_by q127 (9) (q124.1)) fun q129 =>
        f_X11_sails_p119 k66 q129 (x1) (x2) (x3) (q124.1)
      )
      ) else none
    ) else (
      f_X11_sails_p258 σ
    )
  )
def z_X11_sails_h66 : St → Int32 → Int32 → Int32 → Option (St) := fun _ _ _ _ => none
def f_X11_sails (σ : St) (a1 : Int32) (a2 : Int32) : Option (St) :=
  Option.bind (some (g_u2 σ 26 18 (0))) fun σ131 =>
  Option.bind (some (g_u2 σ131 26 19 (0))) fun σ133 =>
  Option.bind (some (g_u2 σ133 26 20 (0))) fun σ135 =>
  Option.bind (some (g_u2 σ135 26 21 ((-1000000)))) fun σ137 =>
  Option.bind (some (g_u2 σ137 26 22 ((-1000000)))) fun σ139 =>
  Option.bind (some (g_u2 σ139 26 23 (0))) fun σ141 =>
  Option.bind (some (g_u2 σ141 33 0 (σ141 27 2))) fun σ143 =>
  Option.bind (some (g_u2 σ143 34 0 (σ143 27 3))) fun σ145 =>
  Option.bind (some (g_u2 σ145 35 0 ((-1000000)))) fun σ147 =>
  fx (F_X11_sails_h66) z_X11_sails_h66 FU σ147 (a1) (a2) (0)
def f_X11_isStart (σ : St) (a1 : Int32) : Option (Int32 × St) :=
  Option.bind (f_X11_in σ ((a1 : Int32).toInt64) (0) (99)) fun q4 =>
  if q4.1 = 0 ∨ q4.1 = 1 then some (q4.1, q4.2) else none
def f_X11_sail (σ : St) (a1 : Int32) (a2 : Int32) : Option (Int32 × St) :=
  Option.bind (f_X11_isSheet σ) fun q21 =>
  if q21.1 = 0 then (
    some ((-1000002), q21.2)
  ) else (
    Option.bind (f_X11_isStart q21.2 (a1)) fun q24 =>
    if q24.1 = 0 then (
      some ((-1000001), q24.2)
    ) else (
      Option.bind (f_X11_in q24.2 ((a2 : Int32).toInt64) (0) (6)) fun q27 =>
      if q27.1 = 0 then (
        some ((-1000001), q27.2)
      ) else (
        Option.bind (f_X11_sails q27.2 (a1) (q27.2 27 1)) fun q30 =>
        if a2 = 0 then (
          some (q30 26 18, q30)
        ) else (
        if a2 = 1 then (
          if 0 ≤ (q30 26 18 : Int32).toInt ∧ (q30 26 18 : Int32).toInt < 361 then (
          some (q30 33 (q30 26 18).toNatClampNeg, q30)
          ) else none
        ) else (
        if a2 = 2 then (
          if 0 ≤ (q30 26 18 : Int32).toInt ∧ (q30 26 18 : Int32).toInt < 361 then (
          some (q30 34 (q30 26 18).toNatClampNeg, q30)
          ) else none
        ) else (
        if a2 = 3 then (
          some (q30 26 19, q30)
        ) else (
        if a2 = 4 then (
          if (q30 26 20) = 0 then (
            some (0, q30)
          ) else (
            some (1, q30)
          )
        ) else (
        if a2 = 5 then (
          some (q30 26 21, q30)
        ) else (
          some (q30 26 22, q30)
        ))))))
      )
    )
  )
def f_X11_track (σ : St) (a1 : Int32) (a2 : Int32) (a3 : Int32) : Option (Int32 × St) :=
  Option.bind (f_X11_isSheet σ) fun q19 =>
  if q19.1 = 0 then (
    some ((-1000002), q19.2)
  ) else (
    Option.bind (f_X11_isStart q19.2 (a1)) fun q22 =>
    if q22.1 = 0 then (
      some ((-1000001), q22.2)
    ) else (
      if a2 < 0 then (
        some ((-1000001), q22.2)
      ) else (
        Option.bind (f_X11_in q22.2 ((a3 : Int32).toInt64) (0) (2)) fun q26 =>
        if q26.1 = 0 then (
          some ((-1000001), q26.2)
        ) else (
          Option.bind (f_X11_sails q26.2 (a1) (q26.2 27 1)) fun q29 =>
          if a2 ≤ (q29 26 18) then (
            if a3 = 0 then (
              if 0 ≤ (a2 : Int32).toInt ∧ (a2 : Int32).toInt < 361 then (
              some (q29 33 (a2).toNatClampNeg, q29)
              ) else none
            ) else (
              if a3 = 1 then (
                if 0 ≤ (a2 : Int32).toInt ∧ (a2 : Int32).toInt < 361 then (
                some (q29 34 (a2).toNatClampNeg, q29)
                ) else none
              ) else (
                if 0 ≤ (a2 : Int32).toInt ∧ (a2 : Int32).toInt < 361 then (
                some (q29 35 (a2).toNatClampNeg, q29)
                ) else none
              )
            )
          ) else (
            some ((-1000000), q29)
          )
        )
      )
    )
  )
def f_X11_why (σ : St) (a1 : Int32) (a2 : Int32) (a3 : Int32) : Option (Int32 × St) :=
  Option.bind (f_X11_isSheet σ) fun q17 =>
  if q17.1 = 0 then (
    some ((-1000002), q17.2)
  ) else (
    Option.bind (f_X11_isStart q17.2 (a1)) fun q20 =>
    if q20.1 = 0 then (
      some ((-1000001), q20.2)
    ) else (
      if a2 < 0 then (
        some ((-1000001), q20.2)
      ) else (
        Option.bind (f_X11_in q20.2 ((a3 : Int32).toInt64) (0) (1)) fun q24 =>
        if q24.1 = 0 then (
          some ((-1000001), q24.2)
        ) else (
          Option.bind (f_X11_sails q24.2 (a1) (q24.2 27 1)) fun q27 =>
          if a2 < (q27 26 23) then (
            if a3 = 0 then (
              if 0 ≤ (a2 : Int32).toInt ∧ (a2 : Int32).toInt < 4 then (
              some (q27 37 (a2).toNatClampNeg, q27)
              ) else none
            ) else (
              if 0 ≤ (a2 : Int32).toInt ∧ (a2 : Int32).toInt < 4 then (
              some (q27 38 (a2).toNatClampNeg, q27)
              ) else none
            )
          ) else (
            some ((-1000000), q27)
          )
        )
      )
    )
  )
def f_X11_writes (σ : St) (a1 : Int32) : Option (St) :=
  if 0 ≤ (σ 26 27 : Int32).toInt ∧ (σ 26 27 : Int32).toInt < 64 then (
  Option.bind (some (g_u2 σ 39 ((σ 26 27).toNatClampNeg) (a1))) fun σ7 =>
  Option.bind (some (g_u2 σ7 26 27 ((σ7 26 27) + 1))) fun σ9 =>
  some σ9
  ) else none
def f_X11_writesNumber_p17 (σ : St) (x1 : Int32) : Option (St) :=
  Option.bind (f_X11_writes σ (48 + (x1 - x1 / 10 * 10))) fun q6 =>
  some q6
def f_X11_writesNumber (σ : St) (a1 : Int32) : Option (St) :=
  if a1 ≤ 9 then (
    f_X11_writesNumber_p17 σ (a1)
  ) else (
    Option.bind (f_X11_writes σ (48 + (a1 / 10))) fun q9 =>
    f_X11_writesNumber_p17 q9 (a1)
  )
def f_X11_writesLog_p154 (k136 : St → Int32 → Option (St)) (σ : St) (x2 : Int32) : Option (St) :=
  if 0 ≤ (x2 : Int32).toInt ∧ (x2 : Int32).toInt < 4 then (
  Option.bind (f_X11_writesNumber σ (σ 37 (x2).toNatClampNeg)) fun q37 =>
  Option.bind (some (x2 + 1)) fun y39 =>
  k136 q37 (y39)
  ) else none
def F_X11_writesLog_h136 (k136 : St → Int32 → Option (St)) (σ : St) (x2 : Int32) : Option (St) :=
  if (σ 26 23) ≤ x2 then (
    some σ
  ) else (
    if x2 ≤ 0 then (
      f_X11_writesLog_p154 k136 σ (x2)
    ) else (
      Option.bind (f_X11_writes σ (44)) fun q43 =>
      f_X11_writesLog_p154 k136 q43 (x2)
    )
  )
def z_X11_writesLog_h136 : St → Int32 → Option (St) := fun _ _ => none
def f_X11_writesLog_p131 (σ : St) (t0 : Int32) : Option (St) :=
  Option.bind (f_X11_writes σ (t0)) fun q45 =>
  fx (F_X11_writesLog_h136) z_X11_writesLog_h136 FU q45 (0)
def F_X11_writesLog_h64 (k49 : St → Int32 → Int32 → Option (St)) (k64 : St → Int32 → Int32 → Int32 → Int32 → Option (St)) (σ : St) (x1 : Int32) (x2 : Int32) (x3 : Int32) (x4 : Int32) : Option (St) :=
  Option.bind (f_X11_nameAt σ (x3) (x4)) fun q47 =>
  if q47.1 = (-1000000) then (
    if 0 ≤ (x2 : Int32).toInt ∧ (x2 : Int32).toInt < 6 then (
    Option.bind (f_X11_writesNumber q47.2 (q47.2 36 (x2).toNatClampNeg)) fun q51 =>
    Option.bind (f_X11_writes q51 (59)) fun q53 =>
    Option.bind (some (x2 + 1)) fun y55 =>
    k49 q53 (x1) (y55)
    ) else none
  ) else (
    Option.bind (f_X11_nameAt q47.2 (x3) (x4)) fun q57 =>
    Option.bind (f_X11_writes q57.2 (q57.1 - 32)) fun q59 =>
    Option.bind (some (x4 + 1)) fun y61 =>
    k64 q59 (x1) (x2) (x3) (y61)
  )
def z_X11_writesLog_h64 : St → Int32 → Int32 → Int32 → Int32 → Option (St) := fun _ _ _ _ _ => none
def F_X11_writesLog_h49 (k49 : St → Int32 → Int32 → Option (St)) (σ : St) (x1 : Int32) (x2 : Int32) : Option (St) :=
  if x1 ≤ x2 then (
    if (σ 26 20) = 0 then (
      f_X11_writesLog_p131 σ (33)
    ) else (
      f_X11_writesLog_p131 σ (46)
    )
  ) else (
    Option.bind (f_X11_legOf σ (x2) (0)) fun q65 =>
    fx (F_X11_writesLog_h64 k49) z_X11_writesLog_h64 FU q65.2 (x1) (x2) (q65.1) (0)
  )
def z_X11_writesLog_h49 : St → Int32 → Int32 → Option (St) := fun _ _ _ => none
def f_X11_writesLog_p46 (σ : St) (t0 : Int32) : Option (St) :=
  fx (F_X11_writesLog_h49) z_X11_writesLog_h49 FU σ (t0) (0)
def f_X11_writesLog_p39 (σ : St) : Option (St) :=
  f_X11_writesLog_p46 σ (σ 27 54)
def f_X11_writesLog (σ : St) : Option (St) :=
  Option.bind (some (g_u2 σ 26 27 (0))) fun σ67 =>
  if (σ67 26 23) ≤ 0 then (
    f_X11_writesLog_p39 σ67
  ) else (
    if (σ67 27 54) ≤ (σ67 38 0) then (
      f_X11_writesLog_p39 σ67
    ) else (
      f_X11_writesLog_p46 σ67 ((σ67 38 0) + 1)
    )
  )
def f_X11_sign (σ : St) (a1 : Int32) (a2 : Int32) : Option (Int32 × St) :=
  Option.bind (f_X11_isSheet σ) fun q14 =>
  if q14.1 = 0 then (
    some ((-1000002), q14.2)
  ) else (
    Option.bind (f_X11_isStart q14.2 (a1)) fun q17 =>
    if q17.1 = 0 then (
      some ((-1000001), q17.2)
    ) else (
      if 0 ≤ a2 then (
        Option.bind (f_X11_sails q17.2 (a1) (q17.2 27 1)) fun q21 =>
        Option.bind (f_X11_writesLog q21) fun q23 =>
        if (q23 26 27) ≤ a2 then (
          some ((-1000000), q23)
        ) else (
          if 0 ≤ (a2 : Int32).toInt ∧ (a2 : Int32).toInt < 64 then (
          some (q23 39 (a2).toNatClampNeg, q23)
          ) else none
        )
      ) else (
        some ((-1000001), q17.2)
      )
    )
  )
def f_X11_arrivesFrom (σ : St) (a1 : Int32) (a2 : Int32) : Option (Int32 × St) :=
  Option.bind (f_X11_sails σ (a1) (a2)) fun q4 =>
  if (q4 26 20) = 0 ∨ (q4 26 20) = 1 then some (q4 26 20, q4) else none
def f_X11_times_p42 (k14 : St → Int32 → Int32 → Option (Int32 × St)) (σ : St) (x2 : Int32) (t0 : Int32) (t1 : Int32) : Option (Int32 × St) :=
  Option.bind (some (t1 ||| t0)) fun y10 =>
  Option.bind (some (x2 + 1)) fun y12 =>
  k14 σ (y10) (y12)
def F_X11_times_h14 (k14 : St → Int32 → Int32 → Option (Int32 × St)) (σ : St) (x1 : Int32) (x2 : Int32) : Option (Int32 × St) :=
  if 30 ≤ x2 then (
    some (x1, σ)
  ) else (
    Option.bind (f_X11_arrivesFrom σ (x2) (σ 27 1)) fun q15 =>
    if q15.1 = 0 then (
      f_X11_times_p42 k14 q15.2 (x2) (0) (x1)
    ) else (
      f_X11_times_p42 k14 q15.2 (x2) (1 <<< (x2 &&& 31)) (x1)
    )
  )
def z_X11_times_h14 : St → Int32 → Int32 → Option (Int32 × St) := fun _ _ _ => none
def f_X11_times (σ : St) : Option (Int32 × St) :=
  Option.bind (f_X11_isSheet σ) fun q18 =>
  if q18.1 = 0 then (
    some ((-1000002), q18.2)
  ) else (
    fx (F_X11_times_h14) z_X11_times_h14 FU q18.2 (0) (0)
  )
def f_X11_deepest_p45 (k25 : St → Int32 → Int32 → Int32 → Option (Int32 × St)) (σ : St) (x1 : Int32) (x3 : Int32) (t0 : Int32) : Option (Int32 × St) :=
  Option.bind (some (x3 + 1)) fun y13 =>
  k25 σ (x1) (t0) (y13)
def F_X11_deepest_h25 (k25 : St → Int32 → Int32 → Int32 → Option (Int32 × St)) (σ : St) (x1 : Int32) (x2 : Int32) (x3 : Int32) : Option (Int32 × St) :=
  if 21 ≤ x3 then (
    some (x2, σ)
  ) else (
    Option.bind (f_X11_arrivesFrom σ (x1) (x3)) fun q16 =>
    if q16.1 = 0 then (
      f_X11_deepest_p45 k25 q16.2 (x1) (x3) (x2)
    ) else (
      f_X11_deepest_p45 k25 q16.2 (x1) (x3) (x3)
    )
  )
def z_X11_deepest_h25 : St → Int32 → Int32 → Int32 → Option (Int32 × St) := fun _ _ _ _ => none
def f_X11_deepest (σ : St) (a1 : Int32) : Option (Int32 × St) :=
  Option.bind (f_X11_isSheet σ) fun q19 =>
  if q19.1 = 0 then (
    some ((-1000002), q19.2)
  ) else (
    Option.bind (f_X11_isStart q19.2 (a1)) fun q22 =>
    if q22.1 = 0 then (
      some ((-1000001), q22.2)
    ) else (
      fx (F_X11_deepest_h25) z_X11_deepest_h25 FU q22.2 (a1) ((-1000000)) (0)
    )
  )
def f_X11_courses_p80 (k36 : St → Int32 → Int32 → Int32 → Int32 → Int32 → Option (Int32 × St)) (σ : St) (x1 : Int32) (x2 : Int32) (x3 : Int32) (x5 : Int32) (t0 : Int32) (t1 : Int32) : Option (Int32 × St) :=
  Option.bind (some (t1 ||| t0)) fun y20 =>
  Option.bind (some (x5 + 1)) fun y22 =>
  k36 σ (x1) (x2) (x3) (y20) (y22)
def F_X11_courses_h36 (k36 : St → Int32 → Int32 → Int32 → Int32 → Int32 → Option (Int32 × St)) (σ : St) (x1 : Int32) (x2 : Int32) (x3 : Int32) (x4 : Int32) (x5 : Int32) : Option (Int32 × St) :=
  if 16 ≤ x5 then (
    if 0 ≤ (55 + (4 * x1) : Int32).toInt ∧ (55 + (4 * x1) : Int32).toInt < 1817 then (
    Option.bind (some (g_u2 σ 27 ((55 + (4 * x1)).toNatClampNeg) (x3))) fun σ26 =>
    some (x4, σ26)
    ) else none
  ) else (
    if 0 ≤ (55 + (4 * x1) : Int32).toInt ∧ (55 + (4 * x1) : Int32).toInt < 1817 then (
    Option.bind (some (g_u2 σ 27 ((55 + (4 * x1)).toNatClampNeg) (x5))) fun σ29 =>
    Option.bind (f_X11_arrivesFrom σ29 (x2) (σ29 27 1)) fun q31 =>
    if q31.1 = 0 then (
      f_X11_courses_p80 k36 q31.2 (x1) (x2) (x3) (x5) (0) (x4)
    ) else (
      f_X11_courses_p80 k36 q31.2 (x1) (x2) (x3) (x5) (1 <<< (x5 &&& 31)) (x4)
    )
    ) else none
  )
def z_X11_courses_h36 : St → Int32 → Int32 → Int32 → Int32 → Int32 → Option (Int32 × St) := fun _ _ _ _ _ _ => none
def f_X11_courses (σ : St) (a1 : Int32) (a2 : Int32) : Option (Int32 × St) :=
  Option.bind (f_X11_isLeg σ (a1)) fun q34 =>
  if q34.1 = 0 then (
    some ((-1000001), q34.2)
  ) else (
    Option.bind (f_X11_isStart q34.2 (a2)) fun q37 =>
    if q37.1 = 0 then (
      some ((-1000001), q37.2)
    ) else (
      if 0 ≤ (55 + (4 * a1) : Int32).toInt ∧ (55 + (4 * a1) : Int32).toInt < 1817 then (
      Option.bind (some (q37.2 27 (55 + (4 * a1)).toNatClampNeg)) fun y41 =>
      fx (F_X11_courses_h36) z_X11_courses_h36 FU q37.2 (a1) (a2) (y41) (0) (0)
      ) else none
    )
  )
def f_X11_needed_p167 (k69 : St → Int32 → Int32 → Int32 → Int32 → Int32 → Int32 → Int32 → Option (Int32 × St)) (σ : St) (x1 : Int32) (x2 : Int32) (x3 : Int32) (x4 : Int32) (x5 : Int32) (x7 : Int32) (t0 : Int32) (t1 : Int32) : Option (Int32 × St) :=
  Option.bind (some (t1 ||| t0)) fun y29 =>
  Option.bind (some (x7 + 1)) fun y31 =>
  k69 σ (x1) (x2) (x3) (x4) (x5) (y29) (y31)
def f_X11_needed_p159 (k69 : St → Int32 → Int32 → Int32 → Int32 → Int32 → Int32 → Int32 → Option (Int32 × St)) (σ : St) (x1 : Int32) (x2 : Int32) (x3 : Int32) (x4 : Int32) (x5 : Int32) (x7 : Int32) (t0 : Int32) : Option (Int32 × St) :=
  f_X11_needed_p167 k69 σ (x1) (x2) (x3) (x4) (x5) (x7) (1 <<< (x7 &&& 31)) (t0)
def f_X11_needed_p99 (k69 : St → Int32 → Int32 → Int32 → Int32 → Int32 → Int32 → Int32 → Option (Int32 × St)) (σ : St) (x1 : Int32) (x2 : Int32) (x3 : Int32) (x4 : Int32) (x5 : Int32) (x6 : Int32) (x7 : Int32) (t0 : Int32) : Option (Int32 × St) :=
  Option.bind (some (g_u2 σ 26 13 (t0))) fun σ33 =>
  Option.bind (f_X11_sails σ33 (x1) (σ33 27 1)) fun q35 =>
  if (q35 26 20) = x5 then (
    if (q35 26 18) = x2 then (
      if 0 ≤ (q35 26 18 : Int32).toInt ∧ (q35 26 18 : Int32).toInt < 361 then (
      if (q35 33 (q35 26 18).toNatClampNeg) = x3 then (
        if 0 ≤ (q35 26 18 : Int32).toInt ∧ (q35 26 18 : Int32).toInt < 361 then (
        if (q35 34 (q35 26 18).toNatClampNeg) = x4 then (
          f_X11_needed_p167 k69 q35 (x1) (x2) (x3) (x4) (x5) (x7) (0) (x6)
        ) else (
          f_X11_needed_p159 k69 q35 (x1) (x2) (x3) (x4) (x5) (x7) (x6)
        )
        ) else none
      ) else (
        f_X11_needed_p159 k69 q35 (x1) (x2) (x3) (x4) (x5) (x7) (x6)
      )
      ) else none
    ) else (
      f_X11_needed_p159 k69 q35 (x1) (x2) (x3) (x4) (x5) (x7) (x6)
    )
  ) else (
    f_X11_needed_p159 k69 q35 (x1) (x2) (x3) (x4) (x5) (x7) (x6)
  )
def F_X11_needed_h69 (k69 : St → Int32 → Int32 → Int32 → Int32 → Int32 → Int32 → Int32 → Option (Int32 × St)) (σ : St) (x1 : Int32) (x2 : Int32) (x3 : Int32) (x4 : Int32) (x5 : Int32) (x6 : Int32) (x7 : Int32) : Option (Int32 × St) :=
  if (σ 27 13) ≤ x7 then (
    Option.bind (some (g_u2 σ 26 13 (0))) fun σ44 =>
    some (x6, σ44)
  ) else (
    Option.bind (f_X11_isMark σ (x7)) fun q46 =>
    if q46.1 = 0 then (
      f_X11_needed_p99 k69 q46.2 (x1) (x2) (x3) (x4) (x5) (x6) (x7) (0)
    ) else (
      f_X11_needed_p99 k69 q46.2 (x1) (x2) (x3) (x4) (x5) (x6) (x7) (1 <<< (x7 &&& 31))
    )
  )
def z_X11_needed_h69 : St → Int32 → Int32 → Int32 → Int32 → Int32 → Int32 → Int32 → Option (Int32 × St) := fun _ _ _ _ _ _ _ _ => none
def f_X11_needed (σ : St) (a1 : Int32) : Option (Int32 × St) :=
  Option.bind (f_X11_isSheet σ) fun q49 =>
  if q49.1 = 0 then (
    some ((-1000002), q49.2)
  ) else (
    Option.bind (f_X11_isStart q49.2 (a1)) fun q52 =>
    if q52.1 = 0 then (
      some ((-1000001), q52.2)
    ) else (
      Option.bind (f_X11_sails q52.2 (a1) (q52.2 27 1)) fun q55 =>
      Option.bind (some (q55 26 18)) fun y57 =>
      if 0 ≤ (q55 26 18 : Int32).toInt ∧ (q55 26 18 : Int32).toInt < 361 then (
      Option.bind (some (q55 33 (q55 26 18).toNatClampNeg)) fun y60 =>
      if 0 ≤ (q55 26 18 : Int32).toInt ∧ (q55 26 18 : Int32).toInt < 361 then (
      Option.bind (some (q55 34 (q55 26 18).toNatClampNeg)) fun y63 =>
      Option.bind (some (q55 26 20)) fun y65 =>
      fx (F_X11_needed_h69) z_X11_needed_h69 FU q55 (a1) (y57) (y60) (y63) (y65) (0) (0)
      ) else none
      ) else none
    )
  )
def f_X11_near_p116 (k62 : St → Int32 → Int32 → Int32 → Option (Int32 × St)) (σ : St) (x1 : Int32) (x4 : Int32) (t0 : Int32) : Option (Int32 × St) :=
  Option.bind (some (x4 + 1)) fun y27 =>
  k62 σ (x1) (t0) (y27)
def F_X11_near_h62 (k62 : St → Int32 → Int32 → Int32 → Option (Int32 × St)) (σ : St) (x1 : Int32) (x3 : Int32) (x4 : Int32) : Option (Int32 × St) :=
  if (σ 26 18) < x4 then (
    some (x3, σ)
  ) else (
    if 0 ≤ (x4 : Int32).toInt ∧ (x4 : Int32).toInt < 361 then (
    Option.bind (f_X11_of σ (x1) (1)) fun q31 =>
    if 0 ≤ (x4 : Int32).toInt ∧ (x4 : Int32).toInt < 361 then (
    Option.bind (f_X11_of q31.2 (x1) (2)) fun q34 =>
    Option.bind (f_X11_square q34.2 ((σ 33 (x4).toNatClampNeg) - q31.1) ((q31.2 34 (x4).toNatClampNeg) - q34.1)) fun q36 =>
    if x3 ≤ q36.1 then (
      f_X11_near_p116 k62 q36.2 (x1) (x4) (x3)
    ) else (
      f_X11_near_p116 k62 q36.2 (x1) (x4) (q36.1)
    )
    ) else none
    ) else none
  )
def z_X11_near_h62 : St → Int32 → Int32 → Int32 → Option (Int32 × St) := fun _ _ _ _ => none
def f_X11_near (σ : St) (a1 : Int32) (a2 : Int32) : Option (Int32 × St) :=
  Option.bind (f_X11_isThing σ (a1)) fun q39 =>
  if q39.1 = 0 then (
    some ((-1000001), q39.2)
  ) else (
    Option.bind (f_X11_isStart q39.2 (a2)) fun q42 =>
    if q42.1 = 0 then (
      some ((-1000001), q42.2)
    ) else (
      Option.bind (f_X11_sails q42.2 (a2) (q42.2 27 1)) fun q45 =>
      Option.bind (f_X11_of q45 (a1) (1)) fun q47 =>
      Option.bind (f_X11_of q47.2 (a1) (2)) fun q49 =>
      Option.bind (f_X11_square q49.2 ((q45 33 0) - q47.1) ((q47.2 34 0) - q49.1)) fun q51 =>
      fx (F_X11_near_h62) z_X11_near_h62 FU q51.2 (a1) (q51.1) (1)
    )
  )
def f_X11_goneBy_p108 (k4 : St → Int32 → Int32 → Option (Int32 × St)) (σ : St) (x2 : Int32) (t0 : Int32) (t1 : Int32) : Option (Int32 × St) :=
  Option.bind (some (t1 ||| t0)) fun y25 =>
  Option.bind (some (x2 + 1)) fun y27 =>
  k4 σ (y25) (y27)
def f_X11_goneBy_p107 (k4 : St → Int32 → Int32 → Option (Int32 × St)) (σ : St) (x2 : Int32) (t0 : Int32) : Option (Int32 × St) :=
  f_X11_goneBy_p108 k4 σ (x2) (0) (t0)
def f_X11_goneBy_p75 (k4 : St → Int32 → Int32 → Option (Int32 × St)) (σ : St) (x2 : Int32) (x3 : Int32) (t0 : Int32) (t1 : Int32) : Option (Int32 × St) :=
  Option.bind (some (t1 ||| t0)) fun y29 =>
  if x3 = 2 then (
    Option.bind (f_X11_legOf σ (x2) (3)) fun q32 =>
    Option.bind (f_X11_isMark q32.2 (q32.1)) fun q34 =>
    if q34.1 = 0 then (
      f_X11_goneBy_p107 k4 q34.2 (x2) (y29)
    ) else (
      Option.bind (f_X11_legOf q34.2 (x2) (3)) fun q37 =>
      f_X11_goneBy_p108 k4 q37.2 (x2) (1 <<< (q37.1 &&& 31)) (y29)
    )
  ) else (
    f_X11_goneBy_p107 k4 σ (x2) (y29)
  )
def f_X11_goneBy_p74 (k4 : St → Int32 → Int32 → Option (Int32 × St)) (σ : St) (x2 : Int32) (x3 : Int32) (t0 : Int32) : Option (Int32 × St) :=
  f_X11_goneBy_p75 k4 σ (x2) (x3) (0) (t0)
def f_X11_goneBy_p42 (k4 : St → Int32 → Int32 → Option (Int32 × St)) (σ : St) (x1 : Int32) (x2 : Int32) (x3 : Int32) (t0 : Int32) : Option (Int32 × St) :=
  if t0 = 0 then (
    f_X11_goneBy_p74 k4 σ (x2) (x3) (x1)
  ) else (
    Option.bind (f_X11_legOf σ (x2) (2)) fun q40 =>
    Option.bind (f_X11_isMark q40.2 (q40.1)) fun q42 =>
    if q42.1 = 0 then (
      f_X11_goneBy_p74 k4 q42.2 (x2) (x3) (x1)
    ) else (
      Option.bind (f_X11_legOf q42.2 (x2) (2)) fun q45 =>
      f_X11_goneBy_p75 k4 q45.2 (x2) (x3) (1 <<< (q45.1 &&& 31)) (x1)
    )
  )
def f_X11_goneBy_p37 (k4 : St → Int32 → Int32 → Option (Int32 × St)) (σ : St) (x1 : Int32) (x2 : Int32) (x3 : Int32) : Option (Int32 × St) :=
  f_X11_goneBy_p42 k4 σ (x1) (x2) (x3) (1)
def F_X11_goneBy_h4 (k4 : St → Int32 → Int32 → Option (Int32 × St)) (σ : St) (x1 : Int32) (x2 : Int32) : Option (Int32 × St) :=
  if (σ 27 54) ≤ x2 then (
    some (x1, σ)
  ) else (
    Option.bind (f_X11_legOf σ (x2) (1)) fun q48 =>
    if q48.1 = 1 then (
      f_X11_goneBy_p37 k4 q48.2 (x1) (x2) (q48.1)
    ) else (
      if q48.1 = 2 then (
        f_X11_goneBy_p37 k4 q48.2 (x1) (x2) (q48.1)
      ) else (
        if q48.1 = 3 then (
          f_X11_goneBy_p37 k4 q48.2 (x1) (x2) (q48.1)
        ) else (
          f_X11_goneBy_p42 k4 q48.2 (x1) (x2) (q48.1) (0)
        )
      )
    )
  )
def z_X11_goneBy_h4 : St → Int32 → Int32 → Option (Int32 × St) := fun _ _ _ => none
def f_X11_goneBy (σ : St) : Option (Int32 × St) :=
  fx (F_X11_goneBy_h4) z_X11_goneBy_h4 FU σ (0) (0)
def f_X11_ways_p121 (k9 : St → Int32 → Int32 → Int32 → Int64 → Int32 → Int32 → Option (Int64 × St)) (σ : St) (x1 : Int32) (x2 : Int32) (x3 : Int32) (x4 : Int64) (x6 : Int32) (t0 : Int32) : Option (Int64 × St) :=
  k9 σ (x1) (x2) (x3) (x4) (x6) (t0)
def f_X11_ways_p87 (k9 : St → Int32 → Int32 → Int32 → Int64 → Int32 → Int32 → Option (Int64 × St)) (k44 : St → Int32 → Int32 → Int32 → Int64 → Int32 → Int64 → Int32 → Option (Int64 × St)) (σ : St) (x1 : Int32) (x2 : Int32) (x3 : Int32) (x4 : Int64) (x6 : Int32) (x10 : Int32) (t0 : Int64) (t1 : Int64) : Option (Int64 × St) :=
  Option.bind (some (t1 * t0)) fun y19 =>
  Option.bind (some (x10 + 1)) fun y21 =>
  k44 σ (x1) (x2) (x3) (x4) (x6) (y19) (y21)
def F_X11_ways_h44 (k9 : St → Int32 → Int32 → Int32 → Int64 → Int32 → Int32 → Option (Int64 × St)) (k44 : St → Int32 → Int32 → Int32 → Int64 → Int32 → Int64 → Int32 → Option (Int64 × St)) (σ : St) (x1 : Int32) (x2 : Int32) (x3 : Int32) (x4 : Int64) (x6 : Int32) (x8 : Int64) (x10 : Int32) : Option (Int64 × St) :=
  if 8 ≤ x10 then (
    Option.bind (some (x4 + x8)) fun y24 =>
    Option.bind (some ((x6 - x3) &&& x3)) fun y26 =>
    if y26 = 0 then (
      f_X11_ways_p121 k9 σ (x1) (x2) (x3) (y24) (y26) (0)
    ) else (
      f_X11_ways_p121 k9 σ (x1) (x2) (x3) (y24) (y26) (1)
    )
  ) else (
    Option.bind (f_X11_has σ (x3) (x10)) fun q29 =>
    if q29.1 = 0 then (
      f_X11_ways_p87 k9 k44 q29.2 (x1) (x2) (x3) (x4) (x6) (x10) (1) (x8)
    ) else (
      Option.bind (f_X11_has q29.2 (x6) (x10)) fun q32 =>
      if q32.1 = 0 then (
        f_X11_ways_p87 k9 k44 q32.2 (x1) (x2) (x3) (x4) (x6) (x10) (10 - ((x2 : Int32).toInt64)) (x8)
      ) else (
        f_X11_ways_p87 k9 k44 q32.2 (x1) (x2) (x3) (x4) (x6) (x10) ((x2 : Int32).toInt64) (x8)
      )
    )
  )
def z_X11_ways_h44 : St → Int32 → Int32 → Int32 → Int64 → Int32 → Int64 → Int32 → Option (Int64 × St) := fun _ _ _ _ _ _ _ _ => none
def f_X11_ways_p39 (k9 : St → Int32 → Int32 → Int32 → Int64 → Int32 → Int32 → Option (Int64 × St)) (σ : St) (x1 : Int32) (x2 : Int32) (x3 : Int32) (x4 : Int64) (x6 : Int32) (t0 : Int64) : Option (Int64 × St) :=
  fx (F_X11_ways_h44 k9) z_X11_ways_h44 FU σ (x1) (x2) (x3) (x4) (x6) (t0) (0)
def F_X11_ways_h9 (k9 : St → Int32 → Int32 → Int32 → Int64 → Int32 → Int32 → Option (Int64 × St)) (σ : St) (x1 : Int32) (x2 : Int32) (x3 : Int32) (x4 : Int64) (x6 : Int32) (x7 : Int32) : Option (Int64 × St) :=
  if x7 = 0 then (
    Option.bind (some (g_u2 σ 26 13 (0))) fun σ36 =>
    some (x4, σ36)
  ) else (
    Option.bind (some (g_u2 σ 26 13 (x6))) fun σ38 =>
    Option.bind (f_X11_arrivesFrom σ38 (x1) (σ38 27 1)) fun q40 =>
    if q40.1 = 0 then (
      f_X11_ways_p39 k9 q40.2 (x1) (x2) (x3) (x4) (x6) (0)
    ) else (
      f_X11_ways_p39 k9 q40.2 (x1) (x2) (x3) (x4) (x6) (1)
    )
  )
def z_X11_ways_h9 : St → Int32 → Int32 → Int32 → Int64 → Int32 → Int32 → Option (Int64 × St) := fun _ _ _ _ _ _ _ => none
def f_X11_ways (σ : St) (a1 : Int32) (a2 : Int32) (a3 : Int32) : Option (Int64 × St) :=
  fx (F_X11_ways_h9) z_X11_ways_h9 FU σ (a1) (a2) (a3) (0) (0) (1)
def F_X11_out_h122 (k122 : St → Int32 → Int64 → Int64 → Int64 → Int64 → Option (Int64 × St)) (σ : St) (x3 : Int32) (x5 : Int64) (x7 : Int64) (x9 : Int64) (x11 : Int64) : Option (Int64 × St) :=
  if (lg_cmp (x11) (0)) ≤ 0 then (
    if x3 = 0 then (
      if x9 = 0 then none else
      some (x7 / x9, σ)
    ) else (
      if x9 = 0 then none else
      some (x5 / x9, σ)
    )
  ) else (
    if x11 = 0 then none else
    Option.bind (some (x9 - x9 / x11 * x11)) fun y34 =>
    k122 σ (x3) (x5) (x7) (x11) (y34)
  )
def z_X11_out_h122 : St → Int32 → Int64 → Int64 → Int64 → Int64 → Option (Int64 × St) := fun _ _ _ _ _ _ => none
def f_X11_out_p82 (k56 : St → Int32 → Int32 → Int32 → Int32 → Int64 → Int32 → Option (Int64 × St)) (σ : St) (x1 : Int32) (x2 : Int32) (x3 : Int32) (x4 : Int32) (x7 : Int32) (t0 : Int64) (t1 : Int64) : Option (Int64 × St) :=
  Option.bind (some (t1 * t0)) fun y36 =>
  Option.bind (some (x7 + 1)) fun y38 =>
  k56 σ (x1) (x2) (x3) (x4) (y36) (y38)
def F_X11_out_h56 (k56 : St → Int32 → Int32 → Int32 → Int32 → Int64 → Int32 → Option (Int64 × St)) (σ : St) (x1 : Int32) (x2 : Int32) (x3 : Int32) (x4 : Int32) (x5 : Int64) (x7 : Int32) : Option (Int64 × St) :=
  if 8 ≤ x7 then (
    if (lg_cmp (x5) (1000000)) ≤ 0 then (
      Option.bind (f_X11_ways σ (x1) (x2) (x4)) fun q42 =>
      fx (F_X11_out_h122) z_X11_out_h122 FU q42.2 (x3) (x5) (q42.1) (q42.1) (x5)
    ) else (
      some ((-1000003), σ)
    )
  ) else (
    Option.bind (f_X11_has σ (x4) (x7)) fun q44 =>
    if q44.1 = 0 then (
      f_X11_out_p82 k56 q44.2 (x1) (x2) (x3) (x4) (x7) (1) (x5)
    ) else (
      f_X11_out_p82 k56 q44.2 (x1) (x2) (x3) (x4) (x7) (10) (x5)
    )
  )
def z_X11_out_h56 : St → Int32 → Int32 → Int32 → Int32 → Int64 → Int32 → Option (Int64 × St) := fun _ _ _ _ _ _ _ => none
def f_X11_out (σ : St) (a1 : Int32) (a2 : Int32) (a3 : Int32) : Option (Int64 × St) :=
  Option.bind (f_X11_isSheet σ) fun q47 =>
  if q47.1 = 0 then (
    some ((-1000002), q47.2)
  ) else (
    Option.bind (f_X11_isStart q47.2 (a1)) fun q50 =>
    if q50.1 = 0 then (
      some ((-1000001), q50.2)
    ) else (
      Option.bind (f_X11_in q50.2 ((a2 : Int32).toInt64) (0) (10)) fun q53 =>
      if q53.1 = 0 then (
        some ((-1000001), q53.2)
      ) else (
        Option.bind (f_X11_in q53.2 ((a3 : Int32).toInt64) (0) (1)) fun q56 =>
        if q56.1 = 0 then (
          some ((-1000001), q56.2)
        ) else (
          Option.bind (f_X11_goneBy q56.2) fun q59 =>
          fx (F_X11_out_h56) z_X11_out_h56 FU q59.2 (a1) (a2) (a3) (q59.1) (1) (0)
        )
      )
    )
  )
def f_X11_drawn_p110 (k60 : St → Int32 → Int32 → Int64 → Int32 → Int32 → Int32 → Option (Int32 × St)) (σ : St) (x1 : Int32) (x3 : Int32) (x4 : Int64) (x7 : Int32) (x8 : Int32) (t0 : Int32) (t1 : Int32) : Option (Int32 × St) :=
  Option.bind (some (t1 + t0)) fun y20 =>
  Option.bind (some (x7 + (σ 26 18))) fun y22 =>
  Option.bind (some (x8 + 1)) fun y24 =>
  k60 σ (x1) (x3) (x4) (y20) (y22) (y24)
def F_X11_drawn_h60 (k60 : St → Int32 → Int32 → Int64 → Int32 → Int32 → Int32 → Option (Int32 × St)) (σ : St) (x1 : Int32) (x3 : Int32) (x4 : Int64) (x6 : Int32) (x7 : Int32) (x8 : Int32) : Option (Int32 × St) :=
  if x1 ≤ x8 then (
    if x3 = 0 then (
      some (x6, σ)
    ) else (
      some (x7, σ)
    )
  ) else (
    Option.bind (some ((x4 * 16807) - (x4 * 16807) / 2147483647 * 2147483647)) fun y28 =>
    Option.bind (f_X11_arrivesFrom σ ((y28 - y28 / 100 * 100 : Int64).toInt32) (((y28 / 128) - (y28 / 128) / 21 * 21 : Int64).toInt32)) fun q30 =>
    if q30.1 = 0 then (
      f_X11_drawn_p110 k60 q30.2 (x1) (x3) (y28) (x7) (x8) (0) (x6)
    ) else (
      f_X11_drawn_p110 k60 q30.2 (x1) (x3) (y28) (x7) (x8) (1) (x6)
    )
  )
def z_X11_drawn_h60 : St → Int32 → Int32 → Int64 → Int32 → Int32 → Int32 → Option (Int32 × St) := fun _ _ _ _ _ _ _ => none
def f_X11_drawn (σ : St) (a1 : Int32) (a2 : Int32) (a3 : Int32) : Option (Int32 × St) :=
  Option.bind (f_X11_isSheet σ) fun q33 =>
  if q33.1 = 0 then (
    some ((-1000002), q33.2)
  ) else (
    Option.bind (f_X11_in q33.2 ((a1 : Int32).toInt64) (0) (12)) fun q36 =>
    if q36.1 = 0 then (
      some ((-1000001), q36.2)
    ) else (
      Option.bind (f_X11_in q36.2 ((a2 : Int32).toInt64) (1) (999999)) fun q39 =>
      if q39.1 = 0 then (
        some ((-1000001), q39.2)
      ) else (
        Option.bind (f_X11_in q39.2 ((a3 : Int32).toInt64) (0) (1)) fun q42 =>
        if q42.1 = 0 then (
          some ((-1000001), q42.2)
        ) else (
          Option.bind (some ((a2 : Int32).toInt64)) fun y45 =>
          fx (F_X11_drawn_h60) z_X11_drawn_h60 FU q42.2 (a1) (a3) (y45) (0) (0) (0)
        )
      )
    )
  )
def f_X11_image (σ : St) (a1 : Int32) : Option (Int32 × St) :=
  Option.bind (f_X11_in σ ((a1 : Int32).toInt64) (0) (1)) fun q12 =>
  if q12.1 = 0 then (
    some ((-1000001), q12.2)
  ) else (
    Option.bind (f_X11_isSheet q12.2) fun q15 =>
    if q15.1 = 0 then (
      some ((-1000002), q15.2)
    ) else (
      Option.bind (f_X11_copy q15.2 (0) (79 + (79 * a1))) fun q18 =>
      if 0 ≤ (a1 : Int32).toInt ∧ (a1 : Int32).toInt < 2 then (
      Option.bind (some (g_u2 q18 28 ((a1).toNatClampNeg) (1))) fun σ21 =>
      some (1, σ21)
      ) else none
    )
  )
def f_X11_restore (σ : St) (a1 : Int32) : Option (Int32 × St) :=
  Option.bind (f_X11_in σ ((a1 : Int32).toInt64) (0) (1)) fun q10 =>
  if q10.1 = 0 then (
    some ((-1000001), q10.2)
  ) else (
    if 0 ≤ (a1 : Int32).toInt ∧ (a1 : Int32).toInt < 2 then (
    if (q10.2 28 (a1).toNatClampNeg) = 0 then (
      some ((-1000002), q10.2)
    ) else (
      Option.bind (f_X11_copy q10.2 (79 + (79 * a1)) (0)) fun q15 =>
      Option.bind (some (g_u2 q15 26 2 (0))) fun σ17 =>
      some (1, σ17)
    )
    ) else none
  )
def f_X11_marks_p29 (k4 : St → Int32 → Int32 → Option (Int32 × St)) (σ : St) (x2 : Int32) (t0 : Int32) (t1 : Int32) : Option (Int32 × St) :=
  Option.bind (some (t1 + t0)) fun y7 =>
  Option.bind (some (x2 + 1)) fun y9 =>
  k4 σ (y7) (y9)
def F_X11_marks_h4 (k4 : St → Int32 → Int32 → Option (Int32 × St)) (σ : St) (x1 : Int32) (x2 : Int32) : Option (Int32 × St) :=
  if (σ 27 13) ≤ x2 then (
    some (x1, σ)
  ) else (
    Option.bind (f_X11_isMark σ (x2)) fun q12 =>
    if q12.1 = 0 then (
      f_X11_marks_p29 k4 q12.2 (x2) (0) (x1)
    ) else (
      f_X11_marks_p29 k4 q12.2 (x2) (1) (x1)
    )
  )
def z_X11_marks_h4 : St → Int32 → Int32 → Option (Int32 × St) := fun _ _ _ => none
def f_X11_marks (σ : St) : Option (Int32 × St) :=
  fx (F_X11_marks_h4) z_X11_marks_h4 FU σ (0) (0)
def f_X11_count (σ : St) (a1 : Int32) : Option (Int32 × St) :=
  if a1 = 0 then (
    some (σ 27 13, σ)
  ) else (
  if a1 = 1 then (
    Option.bind (f_X11_marks σ) fun q13 =>
    some (q13.1, q13.2)
  ) else (
  if a1 = 2 then (
    Option.bind (f_X11_marks σ) fun q16 =>
    some ((σ 27 13) - q16.1, q16.2)
  ) else (
  if a1 = 3 then (
    some (σ 27 54, σ)
  ) else (
  if a1 = 4 then (
    some (σ 27 6, σ)
  ) else (
  if a1 = 5 then (
    some (σ 26 2, σ)
  ) else (
  if a1 = 6 then (
    some (σ 26 4, σ)
  ) else (
    some ((-1000001), σ)
  )))))))
