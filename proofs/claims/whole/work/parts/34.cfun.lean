def f_X0_find (h : Nat → Bool) (S : CS) (r : Nat) (a1 : Int32) : Option (Option Nat) :=
  if a1 < 0 then (some none) else (if (cR S r 2) ≤ a1 then (some none) else (if a1 < 6 then (if ok a1 6 then some (hN h r a1.toNatClampNeg) else none) else (some none)))
def f_X5_isSetting (a1 : Int32) : Bool :=
  if a1 < 0 then false else (if 6 ≤ a1 then false else true)
def f_X0_settingOrNone (S : CS) (r : Nat) (a1 : Int32) : Option (Int32) :=
  if (f_X5_isSetting a1) = true then (if ok a1 6 then some (cA S r a1.toNatClampNeg) else none) else (some (-1))
def f_X5_canBeSetting (S : CS) (a1 : Int32) (a2 : Int32) : Option (Bool) :=
  if (f_X5_isSetting a1) = true then (if ok a1 6 then if a2 < (cTab 0 a1.toNatClampNeg) then (some false) else (if ok a1 6 then if (cTab 1 a1.toNatClampNeg) < a2 then (some false) else (some true) else none) else none) else (some false)
def f_X0_change (S : CS) (r : Nat) (a1 : Int32) (a2 : Int32) : Option (Bool × CS) :=
  (f_X5_canBeSetting S a1 a2).bind fun q1 => if q1 = true then (if ok a1 6 then if (cA S r a1.toNatClampNeg) = a2 then (some (false, S)) else (if ok a1 6 then some (true, (sA S r a1.toNatClampNeg a2)) else none) else none) else (some (false, S))
def f_X5_canBeDay (a1 : Int32) : Bool :=
  if a1 < 0 then false else (if 999 < a1 then false else true)
def f_X5_canBeHour (a1 : Int32) : Bool :=
  if a1 < 0 then false else (if 24 ≤ a1 then false else true)
def f_X0_hoursTo (S : CS) (r : Nat) (a1 : Int32) (a2 : Int32) : Int32 :=
  ((((a1 - (cR S r 0)) * 24) + a2) - (cR S r 1))
def l_X1_firstGap_19 (j : Nat) (S : CS) : Nat → Int32 → Int32 → Option (Int32)
  | 0, _, _ => none
  | n + 1, x2, x3 => if (x2 + 30) ≤ x3 then (some (-1)) else (if 1100 ≤ x3 then (some (-1)) else (if ok x3 1100 then if (cQ S j 3 x3.toNatClampNeg) = 0 then (some x3) else (l_X1_firstGap_19 j S n x2 (x3 + 1)) else none))
def f_X1_firstGap (S : CS) (j : Nat) (a1 : Int32) : Option (Int32) :=
  if a1 < 0 then (some (-1)) else (if a1 ≤ 35 then (l_X1_firstGap_19 j S fu (a1 * 30) (a1 * 30)) else (some (-1)))
def f_X1_note (S : CS) (j : Nat) (a1 : Int32) (a2 : Int32) : Option (Int32 × CS) :=
  if (cP S j 6) < 0 then (some (0, S)) else (if (cP S j 6) < 60 then (if ok (cP S j 6) 60 then if ok (cP (sQ S j 0 (cP S j 6).toNatClampNeg a1) j 6) 60 then if ok (cP (sQ (sQ S j 0 (cP S j 6).toNatClampNeg a1) j 1 (cP (sQ S j 0 (cP S j 6).toNatClampNeg a1) j 6).toNatClampNeg a2) j 6) 60 then some (1, (sP (sQ (sQ (sQ S j 0 (cP S j 6).toNatClampNeg a1) j 1 (cP (sQ S j 0 (cP S j 6).toNatClampNeg a1) j 6).toNatClampNeg a2) j 2 (cP (sQ (sQ S j 0 (cP S j 6).toNatClampNeg a1) j 1 (cP (sQ S j 0 (cP S j 6).toNatClampNeg a1) j 6).toNatClampNeg a2) j 6).toNatClampNeg 0) j 6 ((cP (sQ (sQ (sQ S j 0 (cP S j 6).toNatClampNeg a1) j 1 (cP (sQ S j 0 (cP S j 6).toNatClampNeg a1) j 6).toNatClampNeg a2) j 2 (cP (sQ (sQ S j 0 (cP S j 6).toNatClampNeg a1) j 1 (cP (sQ S j 0 (cP S j 6).toNatClampNeg a1) j 6).toNatClampNeg a2) j 6).toNatClampNeg 0) j 6) + 1))) else none else none else none) else (some (0, S)))
def l_X0_beginQuarter_4 (h : Nat → Bool) (r : Nat) : Nat → CS → Int32 → Int32 → Int32 → Option (Int32 × CS)
  | 0, _, _, _, _ => none
  | n + 1, S, x1, x2, x3 => if (cR S r 2) ≤ x3 then (some (x2, S)) else ((f_X0_find h S r x3).bind fun q1 => oC q1 (l_X0_beginQuarter_4 h r n S x1 x2 (x3 + 1)) (fun j3 => (f_X1_firstGap (sP S j3 2 0) j3 x1).bind fun q5 => if q5 = (-1) then (l_X0_beginQuarter_4 h r n (sP S j3 2 0) x1 x2 (x3 + 1)) else ((f_X1_note (sP S j3 2 0) j3 (x1 * 30) 0).bind fun q7 => l_X0_beginQuarter_4 h r n q7.2 x1 (x2 + q7.1) (x3 + 1))))
def f_X0_beginQuarter (h : Nat → Bool) (S : CS) (r : Nat) (a1 : Int32) : Option (Int32 × CS) :=
  l_X0_beginQuarter_4 h r fu S a1 0 0
def l_X0_goOn_46 (h : Nat → Bool) (r : Nat) : Nat → CS → Int32 → Int32 → Int32 → Int32 → Int32 → Option (Int32 × CS)
  | 0, _, _, _, _, _, _ => none
  | n + 1, S, x1, x2, x3, x4, x5 => if x4 < x5 then (some (x3, (sR (sR S r 0 x1) r 1 x2))) else ((f_X0_beginQuarter h S r x5).bind fun q1 => l_X0_goOn_46 h r n q1.2 x1 x2 (x3 + q1.1) x4 (x5 + 1))
def f_X0_goOn (h : Nat → Bool) (S : CS) (r : Nat) (a1 : Int32) (a2 : Int32) : Option (Int32 × CS) :=
  if (f_X5_canBeDay a1) = true then (if (f_X5_canBeHour a2) = true then (if 0 < (f_X0_hoursTo S r a1 a2) then (l_X0_goOn_46 h r fu S a1 a2 0 (a1 / 30) (((cR S r 0) / 30) + 1)) else (some ((-1), S))) else (some ((-1), S))) else (some ((-1), S))
def f_X5_canBeSpan (a1 : Int32) (a2 : Int32) : Bool :=
  if a1 < 0 then false else (if a2 < a1 then false else (if 1100 ≤ a2 then false else (if 60 ≤ (a2 - a1) then false else true)))
def f_X5_canBeFiledHour (a1 : Int32) : Bool :=
  if a1 < 5 then false else (if 22 < a1 then false else true)
def f_X5_canBePlace (a1 : Int32) : Bool :=
  if a1 < 0 then false else (if 10 ≤ a1 then false else true)
def f_X1_hourOf (a1 : Int32) : Int32 :=
  ((a1 - 1) / 10)
def f_X0_mayStart (S : CS) (r : Nat) (j : Nat) (a2 : Int32) (a3 : Int32) : Option (Bool) :=
  if a2 = (cR S r 0) then (if ok a2 1100 then if a3 ≤ (cR S r 1) then (some false) else (if (cQ S j 3 a2.toNatClampNeg) = 0 then (some true) else (if (f_X1_hourOf (cQ S j 3 a2.toNatClampNeg)) ≤ (cR S r 1) then (some false) else (some true))) else none) else (if a2 ≤ (cR S r 0) then (some false) else (some true))
def f_X1_slotOf (a1 : Int32) (a2 : Int32) : Int32 :=
  ((1 + (a1 * 10)) + a2)

def f_X0_noteLateChange (S : CS) (r : Nat) (j : Nat) : Option (CS) :=
  if (cP (sP S j 2 ((cP S j 2) + 1)) j 2) ≤ (cA (sP S j 2 ((cP S j 2) + 1)) r 4) then (some (sP S j 2 ((cP S j 2) + 1))) else ((f_X1_note (sP S j 2 ((cP S j 2) + 1)) j (cR (sP S j 2 ((cP S j 2) + 1)) r 0) 1).bind fun q1 => some q1.2)
def l_X0_enterSpan_67 (h : Nat → Bool) (r : Nat) : Nat → CS → Int32 → Int32 → Nat → Int32 → Int32 → Int32 → Option (Int32 × CS)
  | 0, _, _, _, _, _, _, _ => none
  | n + 1, S, x3, x4, x6, x7, x8, x9 => if x3 < x9 then (some (x8, S)) else (if ok x9 1100 then if ok x9 1100 then if (cQ S x6 3 x9.toNatClampNeg) = 0 then (l_X0_enterSpan_67 h r n (sQ S x6 3 x9.toNatClampNeg x7) x3 x4 x6 x7 x8 (x9 + 1)) else (if (cQ S x6 3 x9.toNatClampNeg) = x7 then (l_X0_enterSpan_67 h r n (sQ S x6 3 x9.toNatClampNeg x7) x3 x4 x6 x7 x8 (x9 + 1)) else (if (cA (sQ S x6 3 x9.toNatClampNeg x7) r 3) ≤ (f_X0_hoursTo (sQ S x6 3 x9.toNatClampNeg x7) r x9 (if x4 < (f_X1_hourOf (cQ S x6 3 x9.toNatClampNeg)) then x4 else (f_X1_hourOf (cQ S x6 3 x9.toNatClampNeg)))) then (l_X0_enterSpan_67 h r n (sQ S x6 3 x9.toNatClampNeg x7) x3 x4 x6 x7 (x8 + 1) (x9 + 1)) else ((f_X0_noteLateChange (sQ S x6 3 x9.toNatClampNeg x7) r x6).bind fun q9 => l_X0_enterSpan_67 h r n q9 x3 x4 x6 x7 (x8 + 1) (x9 + 1)))) else none else none)
def f_X0_enterSpan (h : Nat → Bool) (S : CS) (r : Nat) (a1 : Int32) (a2 : Int32) (a3 : Int32) (a4 : Int32) (a5 : Int32) : Option (Int32 × CS) :=
  (f_X0_find h S r a1).bind fun q1 => oC q1 (some ((-1), S)) (fun j3 => if (f_X5_canBeSpan a2 a3) = true then (if (f_X5_canBeFiledHour a4) = true then (if (f_X5_canBePlace a5) = true then ((f_X0_mayStart S r j3 a2 a4).bind fun q5 => if q5 = true then (l_X0_enterSpan_67 h r fu S a3 a4 j3 (f_X1_slotOf a4 a5) 0 a2) else (some ((-1), S))) else (some ((-1), S))) else (some ((-1), S))) else (some ((-1), S)))
def f_X5_canBeFiledDay (a1 : Int32) : Bool :=
  if a1 < 0 then false else (if 1100 ≤ a1 then false else true)
def f_X0_visit (h : Nat → Bool) (S : CS) (r : Nat) (a1 : Int32) (a2 : Int32) (a3 : Bool) : Option (Int32 × CS) :=
  (f_X0_find h S r a1).bind fun q1 => oC q1 (some ((-1), S)) (fun j3 => if (f_X5_canBePlace a2) = true then (if a3 = true then (some (0, (sP (sP S j3 3 ((cP S j3 3) + 1)) j3 5 (cR (sP S j3 3 ((cP S j3 3) + 1)) r 0)))) else (if (f_X5_canBeFiledDay (cR (sP (sP S j3 3 ((cP S j3 3) + 1)) j3 5 (cR (sP S j3 3 ((cP S j3 3) + 1)) r 0)) r 0)) = true then (if ok (cR (sP (sP S j3 3 ((cP S j3 3) + 1)) j3 5 (cR (sP S j3 3 ((cP S j3 3) + 1)) r 0)) r 0) 1100 then if (cQ (sP (sP S j3 3 ((cP S j3 3) + 1)) j3 5 (cR (sP S j3 3 ((cP S j3 3) + 1)) r 0)) j3 3 (cR (sP (sP S j3 3 ((cP S j3 3) + 1)) j3 5 (cR (sP S j3 3 ((cP S j3 3) + 1)) r 0)) r 0).toNatClampNeg) = (f_X1_slotOf (cR (sP (sP S j3 3 ((cP S j3 3) + 1)) j3 5 (cR (sP S j3 3 ((cP S j3 3) + 1)) r 0)) r 1) a2) then ((f_X1_note (sP (sP (sP S j3 3 ((cP S j3 3) + 1)) j3 5 (cR (sP S j3 3 ((cP S j3 3) + 1)) r 0)) j3 4 ((cP (sP (sP S j3 3 ((cP S j3 3) + 1)) j3 5 (cR (sP S j3 3 ((cP S j3 3) + 1)) r 0)) j3 4) + 1)) j3 (cR (sP (sP (sP S j3 3 ((cP S j3 3) + 1)) j3 5 (cR (sP S j3 3 ((cP S j3 3) + 1)) r 0)) j3 4 ((cP (sP (sP S j3 3 ((cP S j3 3) + 1)) j3 5 (cR (sP S j3 3 ((cP S j3 3) + 1)) r 0)) j3 4) + 1)) r 0) 2).bind fun q6 => some (1, q6.2)) else (some (2, (sP (sP S j3 3 ((cP S j3 3) + 1)) j3 5 (cR (sP S j3 3 ((cP S j3 3) + 1)) r 0)))) else none) else (some (2, (sP (sP S j3 3 ((cP S j3 3) + 1)) j3 5 (cR (sP S j3 3 ((cP S j3 3) + 1)) r 0)))))) else (some ((-1), S)))
def f_X1_hasFailure (S : CS) (j : Nat) (a1 : Int32) : Bool :=
  if a1 < 0 then false else (if (cP S j 6) ≤ a1 then false else (if 60 ≤ a1 then false else true))
def f_X0_strike (h : Nat → Bool) (S : CS) (r : Nat) (a1 : Int32) (a2 : Int32) : Option (Bool × CS) :=
  (f_X0_find h S r a1).bind fun q1 => oC q1 (some (false, S)) (fun j3 => if (f_X1_hasFailure S j3 a2) = true then (if ok a2 60 then if (cQ S j3 2 a2.toNatClampNeg) = 1 then (some (false, S)) else (if ok a2 60 then if (cR S r 0) ≤ ((cQ S j3 0 a2.toNatClampNeg) + (cA S r 5)) then (if ok a2 60 then some (true, (sQ S j3 2 a2.toNatClampNeg 1)) else none) else (some (false, S)) else none) else none) else (some (false, S)))
def l_X0_bitsOfThose_22 (h : Nat → Bool) (r : Nat) (S : CS) : Nat → Int32 → Int32 → Int32 → Int32 → Option (Int32)
  | 0, _, _, _, _ => none
  | n + 1, x1, x4, x5, x6 => if (cR S r 2) ≤ x6 then (some x5) else ((f_X0_find h S r x6).bind fun q1 => oC q1 (l_X0_bitsOfThose_22 h r S n x1 x4 x5 (x6 + 1)) (fun j3 => if ok x1 1100 then if (cQ S j3 3 x1.toNatClampNeg) = x4 then (l_X0_bitsOfThose_22 h r S n x1 x4 (x5 ||| (1 <<< (x6 &&& 31))) (x6 + 1)) else (l_X0_bitsOfThose_22 h r S n x1 x4 x5 (x6 + 1)) else none))
def f_X0_bitsOfThose (h : Nat → Bool) (S : CS) (r : Nat) (a1 : Int32) (a2 : Int32) (a3 : Int32) : Option (Int32) :=
  if (f_X5_canBeFiledDay a1) = true then (l_X0_bitsOfThose_22 h r S fu a1 (f_X1_slotOf a2 a3) 0 0) else (some 0)
def f_J6_bitCount_0f7a4 (a1 : Int32) : Int32 :=
  ((((((((a1 - ((a1.toUInt32 >>> (Int32.toUInt32 1 &&& Int32.toUInt32 31)).toInt32 &&& 1431655765)) &&& 858993459) + (((a1 - ((a1.toUInt32 >>> (Int32.toUInt32 1 &&& Int32.toUInt32 31)).toInt32 &&& 1431655765)).toUInt32 >>> (Int32.toUInt32 2 &&& Int32.toUInt32 31)).toInt32 &&& 858993459)) + ((((a1 - ((a1.toUInt32 >>> (Int32.toUInt32 1 &&& Int32.toUInt32 31)).toInt32 &&& 1431655765)) &&& 858993459) + (((a1 - ((a1.toUInt32 >>> (Int32.toUInt32 1 &&& Int32.toUInt32 31)).toInt32 &&& 1431655765)).toUInt32 >>> (Int32.toUInt32 2 &&& Int32.toUInt32 31)).toInt32 &&& 858993459)).toUInt32 >>> (Int32.toUInt32 4 &&& Int32.toUInt32 31)).toInt32) &&& 252645135) + ((((((a1 - ((a1.toUInt32 >>> (Int32.toUInt32 1 &&& Int32.toUInt32 31)).toInt32 &&& 1431655765)) &&& 858993459) + (((a1 - ((a1.toUInt32 >>> (Int32.toUInt32 1 &&& Int32.toUInt32 31)).toInt32 &&& 1431655765)).toUInt32 >>> (Int32.toUInt32 2 &&& Int32.toUInt32 31)).toInt32 &&& 858993459)) + ((((a1 - ((a1.toUInt32 >>> (Int32.toUInt32 1 &&& Int32.toUInt32 31)).toInt32 &&& 1431655765)) &&& 858993459) + (((a1 - ((a1.toUInt32 >>> (Int32.toUInt32 1 &&& Int32.toUInt32 31)).toInt32 &&& 1431655765)).toUInt32 >>> (Int32.toUInt32 2 &&& Int32.toUInt32 31)).toInt32 &&& 858993459)).toUInt32 >>> (Int32.toUInt32 4 &&& Int32.toUInt32 31)).toInt32) &&& 252645135).toUInt32 >>> (Int32.toUInt32 8 &&& Int32.toUInt32 31)).toInt32) + (((((((a1 - ((a1.toUInt32 >>> (Int32.toUInt32 1 &&& Int32.toUInt32 31)).toInt32 &&& 1431655765)) &&& 858993459) + (((a1 - ((a1.toUInt32 >>> (Int32.toUInt32 1 &&& Int32.toUInt32 31)).toInt32 &&& 1431655765)).toUInt32 >>> (Int32.toUInt32 2 &&& Int32.toUInt32 31)).toInt32 &&& 858993459)) + ((((a1 - ((a1.toUInt32 >>> (Int32.toUInt32 1 &&& Int32.toUInt32 31)).toInt32 &&& 1431655765)) &&& 858993459) + (((a1 - ((a1.toUInt32 >>> (Int32.toUInt32 1 &&& Int32.toUInt32 31)).toInt32 &&& 1431655765)).toUInt32 >>> (Int32.toUInt32 2 &&& Int32.toUInt32 31)).toInt32 &&& 858993459)).toUInt32 >>> (Int32.toUInt32 4 &&& Int32.toUInt32 31)).toInt32) &&& 252645135) + ((((((a1 - ((a1.toUInt32 >>> (Int32.toUInt32 1 &&& Int32.toUInt32 31)).toInt32 &&& 1431655765)) &&& 858993459) + (((a1 - ((a1.toUInt32 >>> (Int32.toUInt32 1 &&& Int32.toUInt32 31)).toInt32 &&& 1431655765)).toUInt32 >>> (Int32.toUInt32 2 &&& Int32.toUInt32 31)).toInt32 &&& 858993459)) + ((((a1 - ((a1.toUInt32 >>> (Int32.toUInt32 1 &&& Int32.toUInt32 31)).toInt32 &&& 1431655765)) &&& 858993459) + (((a1 - ((a1.toUInt32 >>> (Int32.toUInt32 1 &&& Int32.toUInt32 31)).toInt32 &&& 1431655765)).toUInt32 >>> (Int32.toUInt32 2 &&& Int32.toUInt32 31)).toInt32 &&& 858993459)).toUInt32 >>> (Int32.toUInt32 4 &&& Int32.toUInt32 31)).toInt32) &&& 252645135).toUInt32 >>> (Int32.toUInt32 8 &&& Int32.toUInt32 31)).toInt32).toUInt32 >>> (Int32.toUInt32 16 &&& Int32.toUInt32 31)).toInt32) &&& 63)
def l_X0_fullestPlace_8 (h : Nat → Bool) (r : Nat) (S : CS) : Nat → Int32 → Int32 → Int32 → Int32 → Int32 → Option (Int32)
  | 0, _, _, _, _, _ => none
  | n + 1, x1, x2, x3, x4, x5 => if 10 ≤ x5 then (some x3) else ((f_X0_bitsOfThose h S r x1 x2 x5).bind fun q1 => if (f_J6_bitCount_0f7a4 q1) ≤ x4 then (l_X0_fullestPlace_8 h r S n x1 x2 x3 x4 (x5 + 1)) else (l_X0_fullestPlace_8 h r S n x1 x2 x5 (f_J6_bitCount_0f7a4 q1) (x5 + 1)))
def f_X0_fullestPlace (h : Nat → Bool) (S : CS) (r : Nat) (a1 : Int32) (a2 : Int32) : Option (Int32) :=
  l_X0_fullestPlace_8 h r S fu a1 a2 (-1) 0 0
def f_X1_placeOf (a1 : Int32) : Int32 :=
  ((a1 - 1) - (a1 - 1) / 10 * 10)
def l_J7_fill_53178_5 (j : Nat) : Nat → CS → Int32 → Int32 → Int32 → Option (CS)
  | 0, _, _, _, _ => none
  | n + 1, S, x1, x2, x3 => if x3 ≤ x2 then (some S) else (if ok x2 1100 then l_J7_fill_53178_5 j n (sQ S j 3 x2.toNatClampNeg x1) x1 (x2 + 1) x3 else none)
def f_J7_fill_53178 (S : CS) (j : Nat) (a2 : Int32) : Option (CS) :=
  l_J7_fill_53178_5 j fu S a2 0 1100
def f_X1_begin (S : CS) (j : Nat) (a1 : Int32) (a2 : Int32) : Option (CS) :=
  (f_J7_fill_53178 (sP (sP (sP (sP (sP (sP (sP S j 0 a1) j 1 a2) j 2 0) j 3 0) j 4 0) j 5 (-1)) j 6 0) j 0).bind fun q1 => some q1
def j_X1_become_117 (j : Nat) (j2 : Nat) (S : CS) : CS :=
  S
def j_X1_become_101 (j : Nat) (j2 : Nat) (S : CS) : CS :=
  j_X1_become_117 j j2 (sQw S j 3 (va_cpy (cQ S j2 3) (cQ S j 3) 0 0 1100))
def j_X1_become_86 (j : Nat) (j2 : Nat) (S : CS) : CS :=
  j_X1_become_101 j j2 (sQw S j 2 (va_cpy (cQ S j2 2) (cQ S j 2) 0 0 60))
def j_X1_become_71 (j : Nat) (j2 : Nat) (S : CS) : CS :=
  j_X1_become_86 j j2 (sQw S j 1 (va_cpy (cQ S j2 1) (cQ S j 1) 0 0 60))
def j_X1_become_56 (j : Nat) (j2 : Nat) (S : CS) : CS :=
  j_X1_become_71 j j2 (sQw S j 0 (va_cpy (cQ S j2 0) (cQ S j 0) 0 0 60))
def j_X1_become_48 (j : Nat) (j2 : Nat) (S : CS) : CS :=
  j_X1_become_56 j j2 (sP S j 6 (cP S j2 6))
def j_X1_become_40 (j : Nat) (j2 : Nat) (S : CS) : CS :=
  j_X1_become_48 j j2 (sP S j 5 (cP S j2 5))
def j_X1_become_32 (j : Nat) (j2 : Nat) (S : CS) : CS :=
  j_X1_become_40 j j2 (sP S j 4 (cP S j2 4))
def j_X1_become_24 (j : Nat) (j2 : Nat) (S : CS) : CS :=
  j_X1_become_32 j j2 (sP S j 3 (cP S j2 3))
def j_X1_become_16 (j : Nat) (j2 : Nat) (S : CS) : CS :=
  j_X1_become_24 j j2 (sP S j 2 (cP S j2 2))
def j_X1_become_8 (j : Nat) (j2 : Nat) (S : CS) : CS :=
  j_X1_become_16 j j2 (sP S j 1 (cP S j2 1))
def f_X1_become (S : CS) (j : Nat) (j2 : Nat) : CS :=
  j_X1_become_8 j j2 (sP S j 0 (cP S j2 0))
def f_X2_isNoticed (S : CS) (a1 : Int32) : Option (Bool) :=
  if (cF S 7) = (-1) then (some true) else (if ok (cF S 7) 61 then if (a1 - (cA S 2 (cF S 7).toNatClampNeg)) < (cF S 4) then (some false) else (some true) else none)
def l_X2_pointsOn_7 (S : CS) : Nat → Int32 → Int32 → Int32 → Option (Int32)
  | 0, _, _, _ => none
  | n + 1, x1, x2, x3 => if (cF S 5) ≤ x3 then (some x2) else (if ok x3 61 then if (cA S 3 x3.toNatClampNeg) = 0 then (l_X2_pointsOn_7 S n x1 x2 (x3 + 1)) else (if ok x3 61 then if (cA S 2 x3.toNatClampNeg) ≤ (x1 - (cF S 2)) then (l_X2_pointsOn_7 S n x1 x2 (x3 + 1)) else (l_X2_pointsOn_7 S n x1 (x2 + 1) (x3 + 1)) else none) else none)
def f_X2_pointsOn (S : CS) (a1 : Int32) : Option (Int32) :=
  l_X2_pointsOn_7 S fu a1 0 (cF S 6)
def j_X2_add_51 (S : CS) (x1 : Int32) (x3 : Int32) (t0 : Int32) (t1 : Int32) : Option (CS) :=
  if ok t1 61 then if ok x3 61 then if (cA (sA S 3 t1.toNatClampNeg (vp_nar .boolean t0)) 3 x3.toNatClampNeg) = 0 then (some (sA S 3 t1.toNatClampNeg (vp_nar .boolean t0))) else ((f_X2_pointsOn (sF (sA S 3 t1.toNatClampNeg (vp_nar .boolean t0)) 7 x3) x1).bind fun q4 => if q4 < (cF (sF (sA S 3 t1.toNatClampNeg (vp_nar .boolean t0)) 7 x3) 3) then (some (sF (sA S 3 t1.toNatClampNeg (vp_nar .boolean t0)) 7 x3)) else (if 61 ≤ (cF (sF (sA S 3 t1.toNatClampNeg (vp_nar .boolean t0)) 7 x3) 1) then (some (sF (sA S 3 t1.toNatClampNeg (vp_nar .boolean t0)) 7 x3)) else (if ok (cF (sF (sA S 3 t1.toNatClampNeg (vp_nar .boolean t0)) 7 x3) 1) 61 then some (sF (sF (sA (sF (sA S 3 t1.toNatClampNeg (vp_nar .boolean t0)) 7 x3) 4 (cF (sF (sA S 3 t1.toNatClampNeg (vp_nar .boolean t0)) 7 x3) 1).toNatClampNeg x1) 1 ((cF (sA (sF (sA S 3 t1.toNatClampNeg (vp_nar .boolean t0)) 7 x3) 4 (cF (sF (sA S 3 t1.toNatClampNeg (vp_nar .boolean t0)) 7 x3) 1).toNatClampNeg x1) 1) + 1)) 6 (cF (sF (sA (sF (sA S 3 t1.toNatClampNeg (vp_nar .boolean t0)) 7 x3) 4 (cF (sF (sA S 3 t1.toNatClampNeg (vp_nar .boolean t0)) 7 x3) 1).toNatClampNeg x1) 1 ((cF (sA (sF (sA S 3 t1.toNatClampNeg (vp_nar .boolean t0)) 7 x3) 4 (cF (sF (sA S 3 t1.toNatClampNeg (vp_nar .boolean t0)) 7 x3) 1).toNatClampNeg x1) 1) + 1)) 5)) else none))) else none else none
def f_X2_add (S : CS) (a1 : Int32) (a2 : Bool) : Option (CS) :=
  if (cF S 5) < 61 then (if ok (cF S 5) 61 then if a2 = true then (j_X2_add_51 (sA (sF S 5 ((cF S 5) + 1)) 2 (cF S 5).toNatClampNeg a1) a1 (cF S 5) 0 (cF S 5)) else ((f_X2_isNoticed (sA (sF S 5 ((cF S 5) + 1)) 2 (cF S 5).toNatClampNeg a1) a1).bind fun q7 => if q7 = true then (j_X2_add_51 (sA (sF S 5 ((cF S 5) + 1)) 2 (cF S 5).toNatClampNeg a1) a1 (cF S 5) 1 (cF S 5)) else (j_X2_add_51 (sA (sF S 5 ((cF S 5) + 1)) 2 (cF S 5).toNatClampNeg a1) a1 (cF S 5) 0 (cF S 5))) else none) else (some S)
def l_X2_goThrough_44 (j : Nat) (r : Nat) : Nat → CS → Int32 → Int32 → Option (CS)
  | 0, _, _, _ => none
  | n + 1, S, x3, x4 => if (cP S j 6) ≤ x4 then (some S) else (if 60 ≤ x4 then (some S) else (if ok x4 60 then if ok x4 60 then if (cQ S j 2 x4.toNatClampNeg) = 1 then ((f_X2_add S (cQ S j 0 x4.toNatClampNeg) true).bind fun q3 => l_X2_goThrough_44 j r n q3 x3 (x4 + 1)) else (if x4 = x3 then ((f_X2_add S (cQ S j 0 x4.toNatClampNeg) true).bind fun q7 => l_X2_goThrough_44 j r n q7 x3 (x4 + 1)) else ((f_X2_add S (cQ S j 0 x4.toNatClampNeg) false).bind fun q5 => l_X2_goThrough_44 j r n q5 x3 (x4 + 1))) else none else none))
def f_X2_goThrough (S : CS) (j : Nat) (r : Nat) (a3 : Int32) : Option (CS) :=
  l_X2_goThrough_44 j r fu (sF (sF (sF (sF (sF (sF (sF S 2 (cA S r 0)) 3 (cA (sF S 2 (cA S r 0)) r 1)) 4 (cA (sF (sF S 2 (cA S r 0)) 3 (cA (sF S 2 (cA S r 0)) r 1)) r 2)) 1 0) 5 0) 6 0) 7 (-1)) a3 0
def f_X2_doesCount (S : CS) (a1 : Int32) : Option (Bool) :=
  if a1 < 0 then (some false) else (if (cF S 5) ≤ a1 then (some false) else (if ok a1 61 then if (cA S 3 a1.toNatClampNeg) = 0 then (some false) else (some true) else none))
def f_X2_isOpen (S : CS) (a1 : Int32) : Option (Bool) :=
  if a1 < (cF S 6) then (some false) else ((f_X2_doesCount S a1).bind fun q1 => if q1 = true then (some true) else (some false))
def l_X2_dayOfOldestPoint_5 (S : CS) : Nat → Int32 → Int32 → Option (Int32)
  | 0, _, _ => none
  | n + 1, x1, x2 => if (cF S 5) ≤ x2 then (some (-1)) else (if ok x2 61 then if (cA S 3 x2.toNatClampNeg) = 0 then (l_X2_dayOfOldestPoint_5 S n x1 (x2 + 1)) else (if ok x2 61 then if (cA S 2 x2.toNatClampNeg) ≤ (x1 - (cF S 2)) then (l_X2_dayOfOldestPoint_5 S n x1 (x2 + 1)) else (if ok x2 61 then some (cA S 2 x2.toNatClampNeg) else none) else none) else none)
def f_X2_dayOfOldestPoint (S : CS) (a1 : Int32) : Option (Int32) :=
  l_X2_dayOfOldestPoint_5 S fu a1 (cF S 6)
def f_X2_dayOfViolation (S : CS) (a1 : Int32) : Option (Int32) :=
  if a1 < 0 then (some (-1)) else (if (cF S 1) ≤ a1 then (some (-1)) else (if ok a1 61 then some (cA S 4 a1.toNatClampNeg) else none))
def f_X3_hasRoomForFive (S : CS) : Bool :=
  if 400 < ((cF S 8) + 20) then false else true
def l_X3_put_3 : Nat → CS → Int32 → Int32 → Option (CS)
  | 0, _, _, _ => none
  | n + 1, S, x1, x2 => if x2 < 0 then (some S) else (if (cF S 8) < 0 then (l_X3_put_3 n S x1 (x2 + (-8))) else (if 400 ≤ (cF S 8) then (l_X3_put_3 n S x1 (x2 + (-8))) else (if ok (cF S 8) 400 then l_X3_put_3 n (sF (sA S 5 (cF S 8).toNatClampNeg (vp_nar .byte ((x1 >>> (x2 &&& 31)).toInt8.toInt32))) 8 ((cF (sA S 5 (cF S 8).toNatClampNeg (vp_nar .byte ((x1 >>> (x2 &&& 31)).toInt8.toInt32))) 8) + 1)) x1 (x2 + (-8)) else none)))
def f_X3_put (S : CS) (a1 : Int32) : Option (CS) :=
  l_X3_put_3 fu S a1 24
def f_X3_rewind (S : CS) : CS :=
  (sF S 12 0)
def f_X3_byteAt (S : CS) (a1 : Int32) : Option (Int32) :=
  if a1 < 0 then (some (-1)) else (if (cF S 8) ≤ a1 then (some (-1)) else (if 400 ≤ a1 then (some (-1)) else (if ok a1 400 then some ((cA S 5 a1.toNatClampNeg) &&& 255) else none)))
def f_X3_isBlank (a1 : Int32) : Bool :=
  if a1 = 32 then true else (if a1 = 10 then true else false)
def f_X3_isLetter (a1 : Int32) : Bool :=
  if a1 < 97 then false else (if 122 < a1 then false else true)
def l_X3_readWord_5 : Nat → CS → Option (CS)
  | 0, _ => none
  | n + 1, S => if (cF S 8) ≤ (cF S 12) then (some S) else ((f_X3_byteAt S (cF S 12)).bind fun q1 => if (f_X3_isLetter q1) = true then (l_X3_readWord_5 n (sF S 12 ((cF S 12) + 1))) else (some S))
def f_X3_readWord (S : CS) : Option (CS) :=
  l_X3_readWord_5 fu (sF S 9 1)
def f_X3_isDigit (a1 : Int32) : Bool :=
  if a1 < 48 then false else (if 57 < a1 then false else true)
def j_X3_readNumber_79 (S : CS) : Option (CS) :=
  if ((cF S 12) - (cF S 10)) ≤ 4 then (some (sF S 9 2)) else (some (sF S 9 4))
def l_X3_readNumber_5 : Nat → CS → Option (CS)
  | 0, _ => none
  | n + 1, S => if (cF S 8) ≤ (cF S 12) then (j_X3_readNumber_79 S) else ((f_X3_byteAt S (cF S 12)).bind fun q1 => if (f_X3_isDigit q1) = true then (if 4 ≤ ((cF S 12) - (cF S 10)) then (l_X3_readNumber_5 n (sF S 12 ((cF S 12) + 1))) else ((f_X3_byteAt S (cF S 12)).bind fun q3 => l_X3_readNumber_5 n (sF (sF S 11 ((((cF S 11) * 10) + q3) - 48)) 12 ((cF (sF S 11 ((((cF S 11) * 10) + q3) - 48)) 12) + 1)))) else (j_X3_readNumber_79 S))
def f_X3_readNumber (S : CS) : Option (CS) :=
  l_X3_readNumber_5 fu (sF S 11 0)
def j_X3_readToken_38 (S : CS) : Option (CS) :=
  (f_X3_byteAt (sF S 10 (cF S 12)) (cF (sF S 10 (cF S 12)) 12)).bind fun q1 => if q1 = (-1) then (some (sF (sF S 10 (cF S 12)) 9 0)) else (if (f_X3_isLetter q1) = true then ((f_X3_readWord (sF S 10 (cF S 12))).bind fun q5 => some q5) else (if (f_X3_isDigit q1) = true then ((f_X3_readNumber (sF S 10 (cF S 12))).bind fun q3 => some q3) else (if q1 = 59 then (some (sF (sF (sF S 10 (cF S 12)) 9 3) 12 ((cF (sF (sF S 10 (cF S 12)) 9 3) 12) + 1))) else (some (sF (sF (sF S 10 (cF S 12)) 9 4) 12 ((cF (sF (sF S 10 (cF S 12)) 9 4) 12) + 1))))))
def l_X3_readToken_0 : Nat → CS → Option (CS)
  | 0, _ => none
  | n + 1, S => if (cF S 8) ≤ (cF S 12) then (j_X3_readToken_38 S) else ((f_X3_byteAt S (cF S 12)).bind fun q7 => if (f_X3_isBlank q7) = true then (l_X3_readToken_0 n (sF S 12 ((cF S 12) + 1))) else (j_X3_readToken_38 S))
def f_X3_readToken (S : CS) : Option (CS) :=
  l_X3_readToken_0 fu S
def f_J0_coder_7d493 (i : Nat) : Int32 :=
  if (1 : Int32) = 0 then 1 else 0
def f_J0_length_8abf5 (i : Nat) : Int32 :=
  ((Int32.ofNat (cLen.getD i 0)) >>> ((f_J0_coder_7d493 i) &&& 31))
def f_J0_isLatin1_aae02 (i : Nat) : Bool :=
  if (1 : Int32) = 0 then false else (if (0 : Int32) = 0 then true else false)
def f_J3_checkIndex_8e157 (i n : Int32) : Option Int32 := if i < 0 then none else if i < n then some i else none
def f_J0_checkIndex_df160 (i n : Int32) : Option Unit := if i < 0 then none else if i < n then some () else none
def f_J1_charAt_3b067 (S : CS) (i : Nat) (a2 : Int32) : Option (Int32) :=
  (f_J0_checkIndex_df160 a2 (Int32.ofNat (cLen.getD i 0))).bind fun q1 => if ok a2 (cLen.getD i 0) then some (((((cByt.getD i []).getD a2.toNatClampNeg 0) &&& 255).toUInt32 % 65536).toInt32) else none
def f_J0_charAt_5068e (S : CS) (i : Nat) (a1 : Int32) : Option (Int32) :=
  if (f_J0_isLatin1_aae02 i) = true then ((f_J1_charAt_3b067 S i a1).bind fun q1 => some q1) else none
def l_X3_isWord_28 (i : Nat) (S : CS) : Nat → Int32 → Option (Bool)
  | 0, _ => none
  | n + 1, x2 => if (f_J0_length_8abf5 i) ≤ x2 then (some true) else ((f_X3_byteAt S ((cF S 10) + x2)).bind fun q1 => (f_J0_charAt_5068e S i x2).bind fun q3 => if q1 = q3 then (l_X3_isWord_28 i S n (x2 + 1)) else (some false))
def f_X3_isWord (S : CS) (i : Nat) : Option (Bool) :=
  if (cF S 9) = 1 then (if ((cF S 12) - (cF S 10)) = (f_J0_length_8abf5 i) then (l_X3_isWord_28 i S fu 0) else (some false)) else (some false)
def f_X4_refuse (S : CS) (a1 : Int32) (a2 : Int32) : Bool × CS :=
  (false, (sF S 13 (a1 + (8 * a2))))
def f_X4_formOfWord (S : CS) : Option (Int32) :=
  (f_X3_isWord S 0).bind fun q1 => if q1 = true then (some 0) else ((f_X3_isWord S 1).bind fun q3 => if q3 = true then (some 1) else ((f_X3_isWord S 2).bind fun q5 => if q5 = true then (some 2) else ((f_X3_isWord S 3).bind fun q7 => if q7 = true then (some 3) else ((f_X3_isWord S 4).bind fun q9 => if q9 = true then (some 4) else ((f_X3_isWord S 5).bind fun q11 => if q11 = true then (some 5) else (some (-1)))))))
def f_X5_canBeRisk (a1 : Int32) : Bool :=
  if a1 < 1 then false else (if 9 < a1 then false else true)
def f_X4_canBeOfFiling (S : CS) (a1 : Int32) (a2 : Int32) : Bool :=
  if a1 = 1 then (f_X5_canBeFiledDay a2) else (if a1 = 2 then (f_X5_canBeSpan (cA S 6 1) a2) else (if a1 = 3 then (f_X5_canBeFiledHour a2) else (f_X5_canBePlace a2)))
def f_X4_isFailure (h : Nat → Bool) (S : CS) (r : Nat) (a2 : Int32) : Option (Bool) :=
  (f_X0_find h S r (cA S 6 0)).bind fun q1 => oC q1 (some false) (fun j3 => if (f_X1_hasFailure S j3 a2) = true then (some true) else (some false))
def f_X4_canBeNumber (h : Nat → Bool) (S : CS) (r : Nat) (a2 : Int32) (a3 : Int32) (a4 : Int32) : Option (Bool) :=
  if a2 = 0 then (some (f_X5_canBeRisk a4)) else (if a2 = 1 then (if a3 = 0 then (some (f_X5_isSetting a4)) else ((f_X5_canBeSetting S (cA S 6 0) a4).bind fun q3 => some q3)) else (if a2 = 2 then (if a3 = 0 then (some (f_X5_canBeDay a4)) else (some (f_X5_canBeHour a4))) else (if a2 = 3 then (if a3 = 0 then ((f_X0_find h S r a4).bind fun q7 => oC q7 (some false) (fun j9 => some true)) else (some (f_X4_canBeOfFiling S a3 a4))) else (if a2 = 4 then (if a3 = 0 then ((f_X0_find h S r a4).bind fun q12 => oC q12 (some false) (fun j14 => some true)) else (some (f_X5_canBePlace a4))) else (if a3 = 0 then ((f_X0_find h S r a4).bind fun q18 => oC q18 (some false) (fun j20 => some true)) else ((f_X4_isFailure h S r a4).bind fun q16 => some q16))))))
def l_X4_readNumbers_9 (h : Nat → Bool) (r : Nat) : Nat → CS → Int32 → Int32 → Int32 → Option (Bool × CS)
  | 0, _, _, _, _ => none
  | n + 1, S, x2, x3, x4 => if x3 ≤ x4 then (some (true, S)) else (if 5 ≤ x4 then (some (true, S)) else ((f_X3_readToken S).bind fun q2 => if (cF q2 9) = 2 then ((f_X4_canBeNumber h q2 r x2 x4 (cF q2 11)).bind fun q4 => if q4 = true then (if ok x4 5 then l_X4_readNumbers_9 h r n (sA q2 6 x4.toNatClampNeg (cF q2 11)) x2 x3 (x4 + 1) else none) else (some ((f_X4_refuse q2 2 (cF q2 10)).1, (f_X4_refuse q2 2 (cF q2 10)).2))) else (some ((f_X4_refuse q2 1 (cF q2 10)).1, (f_X4_refuse q2 1 (cF q2 10)).2))))
def f_X4_readNumbers (h : Nat → Bool) (S : CS) (r : Nat) (a2 : Int32) : Option (Bool × CS) :=
  if ok a2 6 then l_X4_readNumbers_9 h r fu S a2 (cTab 3 a2.toNatClampNeg) 0 else none
def f_X4_readOutcome (S : CS) : Option (Bool × CS) :=
  (f_X3_readToken S).bind fun q1 => (f_X3_isWord q1 6).bind fun q3 => if (cF (sF q1 14 (bI q3)) 14) = 0 then ((f_X3_isWord (sF q1 14 (bI q3)) 7).bind fun q5 => if q5 = true then (some (true, (sF q1 14 (bI q3)))) else (if (f_X4_refuse (sF q1 14 (bI q3)) 1 (cF (sF q1 14 (bI q3)) 10)).1 = true then (some (true, (f_X4_refuse (sF q1 14 (bI q3)) 1 (cF (sF q1 14 (bI q3)) 10)).2)) else (some (false, (f_X4_refuse (sF q1 14 (bI q3)) 1 (cF (sF q1 14 (bI q3)) 10)).2)))) else (some (true, (sF q1 14 (bI q3))))
def f_X5_feed (S : CS) (a1 : Int32) (a2 : Int32) (a3 : Int32) (a4 : Int32) (a5 : Int32) : Option (Int32 × CS) :=
  if (f_X3_hasRoomForFive S) = true then ((f_X3_put S a1).bind fun q1 => (f_X3_put q1 a2).bind fun q3 => (f_X3_put q3 a3).bind fun q5 => (f_X3_put q5 a4).bind fun q7 => (f_X3_put q7 a5).bind fun q9 => some ((cF q9 8), q9)) else (some ((-1), S))
def f_X5_end (S : CS) (a1 : Int32) : Bool × CS :=
  if a1 < 0 then (false, S) else (if a1 ≤ (cF S 8) then (true, (sF S 8 a1)) else (false, S))
def f_X5_fault (S : CS) : Int32 :=
  (cF S 0)
def f_X5_set (lk : Nat × Nat) (S : CS) (a1 : Int32) (a2 : Int32) : Option (Bool × CS) :=
  (f_X0_change S lk.1 a1 a2).bind fun q1 => some (q1.1, q1.2)
def f_X5_at (h : Nat → Bool) (lk : Nat × Nat) (S : CS) (a1 : Int32) (a2 : Int32) : Option (Int32 × CS) :=
  (f_X0_goOn h S lk.1 a1 a2).bind fun q1 => some (q1.1, q1.2)
def f_X5_file (h : Nat → Bool) (lk : Nat × Nat) (S : CS) (a1 : Int32) (a2 : Int32) (a3 : Int32) (a4 : Int32) (a5 : Int32) : Option (Int32 × CS) :=
  (f_X0_enterSpan h S lk.1 a1 a2 a3 a4 a5).bind fun q1 => some (q1.1, q1.2)
def f_X5_test (h : Nat → Bool) (lk : Nat × Nat) (S : CS) (a1 : Int32) (a2 : Int32) (a3 : Bool) : Option (Int32 × CS) :=
  (f_X0_visit h S lk.1 a1 a2 a3).bind fun q1 => some (q1.1, q1.2)
def f_X5_appeal (h : Nat → Bool) (lk : Nat × Nat) (S : CS) (a1 : Int32) (a2 : Int32) : Option (Bool × CS) :=
  (f_X0_strike h S lk.1 a1 a2).bind fun q1 => some (q1.1, q1.2)
def f_X5_count (lk : Nat × Nat) (S : CS) (a1 : Int32) : Option (Int32) :=
  if a1 = 0 then (some (cR S lk.1 2)) else (if a1 = 1 then (some (cR S lk.1 0)) else (if a1 = 2 then (some (cR S lk.1 1)) else (if a1 = 3 then (some (cF S 8)) else (if 10 ≤ a1 then ((f_X0_settingOrNone S lk.1 (a1 - 10)).bind fun q5 => some q5) else ((f_X0_settingOrNone S lk.1 (-1)).bind fun q7 => some q7)))))
def f_X5_filed (h : Nat → Bool) (lk : Nat × Nat) (S : CS) (a1 : Int32) (a2 : Int32) (a3 : Int32) : Option (Int32) :=
  (f_X0_find h S lk.1 a1).bind fun q1 => oC q1 (some (-1)) (fun j3 => if (f_X5_canBeFiledDay a2) = true then (if ok a2 1100 then if (cQ S j3 3 a2.toNatClampNeg) = 0 then (some (-1)) else (if a3 = 0 then (some (f_X1_hourOf (cQ S j3 3 a2.toNatClampNeg))) else (if a3 = 1 then (some (f_X1_placeOf (cQ S j3 3 a2.toNatClampNeg))) else (some (-1)))) else none) else (some (-1)))
def f_X5_failure (h : Nat → Bool) (lk : Nat × Nat) (S : CS) (a1 : Int32) (a2 : Int32) (a3 : Int32) : Option (Int32 × CS) :=
  (f_X0_find h S lk.1 a1).bind fun q1 => oC q1 (some ((-1), S)) (fun j3 => if (f_X1_hasFailure S j3 a2) = true then ((f_X2_goThrough S j3 lk.1 (-1)).bind fun q5 => if a3 = 0 then (if ok a2 60 then some ((cQ q5 j3 0 a2.toNatClampNeg), q5) else none) else (if a3 = 1 then (if ok a2 60 then some ((cQ q5 j3 1 a2.toNatClampNeg), q5) else none) else (if a3 = 2 then (if ok a2 60 then some ((cQ q5 j3 2 a2.toNatClampNeg), q5) else none) else (if a3 = 3 then ((f_X2_doesCount q5 a2).bind fun q14 => if q14 = true then (some (1, q5)) else (some (0, q5))) else (if a3 = 4 then ((f_X2_isOpen q5 a2).bind fun q17 => if q17 = true then (some (1, q5)) else (some (0, q5))) else (some ((-1), q5))))))) else (some ((-1), S)))
def f_X5_violation (h : Nat → Bool) (lk : Nat × Nat) (S : CS) (a1 : Int32) (a2 : Int32) : Option (Int32 × CS) :=
  (f_X0_find h S lk.1 a1).bind fun q1 => oC q1 (some ((-1), S)) (fun j3 => (f_X2_goThrough S j3 lk.1 (-1)).bind fun q5 => (f_X2_dayOfViolation q5 a2).bind fun q7 => some (q7, q5))
def f_X5_hole (h : Nat → Bool) (lk : Nat × Nat) (S : CS) (a1 : Int32) (a2 : Int32) : Option (Int32) :=
  (f_X0_find h S lk.1 a1).bind fun q1 => oC q1 (some (-1)) (fun j3 => (f_X1_firstGap S j3 a2).bind fun q5 => some q5)
def f_X5_pointsOf (lk : Nat × Nat) (S : CS) (j : Nat) : Option (Int32 × CS) :=
  (f_X2_goThrough S j lk.1 (-1)).bind fun q1 => (f_X2_pointsOn q1 (cR q1 lk.1 0)).bind fun q3 => some (q3, q1)
def j_X5_weightOf_19 (lk : Nat × Nat) (j : Nat) (S : CS) (t0 : Int32) : Option (Int32 × CS) :=
  (f_X5_pointsOf lk S j).bind fun q1 => some ((((cP S j 0) * ((1 + (cR S lk.1 0)) - t0)) * (1 + q1.1)), q1.2)
def f_X5_weightOf (lk : Nat × Nat) (S : CS) (j : Nat) : Option (Int32 × CS) :=
  if (cP S j 5) = (-1) then (j_X5_weightOf_19 lk j S (cP S j 1)) else (j_X5_weightOf_19 lk j S (cP S j 5))
def j_X5_weighAll_37 (h : Nat → Bool) (lk : Nat × Nat) (r4 : CS → Int32 → Int32 → Option (Int32 × CS)) (S : CS) (x1 : Int32) (x2 : Int32) (t0 : Int32) (t1 : Int32) : Option (Int32 × CS) :=
  if ok t1 6 then if ok x2 6 then r4 (sA S 7 t1.toNatClampNeg t0) (x1 + (cA (sA S 7 t1.toNatClampNeg t0) 7 x2.toNatClampNeg)) (x2 + 1) else none else none
def l_X5_weighAll_4 (h : Nat → Bool) (lk : Nat × Nat) : Nat → CS → Int32 → Int32 → Option (Int32 × CS)
  | 0, _, _, _ => none
  | n + 1, S, x1, x2 => if 6 ≤ x2 then (some (x1, S)) else ((f_X0_find h S lk.1 x2).bind fun q1 => oC q1 (j_X5_weighAll_37 h lk (l_X5_weighAll_4 h lk n) S x1 x2 0 x2) (fun j3 => (f_X5_weightOf lk S j3).bind fun q7 => j_X5_weighAll_37 h lk (l_X5_weighAll_4 h lk n) q7.2 x1 x2 q7.1 x2))
def f_X5_weighAll (h : Nat → Bool) (lk : Nat × Nat) (S : CS) : Option (Int32 × CS) :=
  l_X5_weighAll_4 h lk fu S 0 0
def l_X5_firstAbove_5 (S : CS) : Nat → Int64 → Int64 → Int32 → Option (Int32)
  | 0, _, _, _ => none
  | n + 1, x1, x3, x5 => if 6 ≤ x5 then (some (-1)) else (if ok x5 6 then if (lg_cmp (x3 + (cA S 7 x5.toNatClampNeg).toInt64) x1) ≤ 0 then (l_X5_firstAbove_5 S n x1 (x3 + (cA S 7 x5.toNatClampNeg).toInt64) (x5 + 1)) else (some x5) else none)
def f_X5_firstAbove (S : CS) (a1 : Int64) : Option (Int32) :=
  l_X5_firstAbove_5 S fu a1 0 0
def l_X5_lot_38 (h : Nat → Bool) (lk : Nat × Nat) : Nat → CS → Int32 → Int64 → Int64 → Int32 → Int32 → Option (Int32 × CS)
  | 0, _, _, _, _, _, _ => none
  | n + 1, S, x2, x3, x5, x7, x8 => if x2 ≤ x8 then (some (x7, S)) else (if (lg_cmp x3 0) ≤ 0 then (some (x7, S)) else (if ¬ x3 = 0 then (f_X5_firstAbove S ((((1103515245 * x5) + 12345) - ((1103515245 * x5) + 12345) / 2147483648 * 2147483648) - (((1103515245 * x5) + 12345) - ((1103515245 * x5) + 12345) / 2147483648 * 2147483648) / x3 * x3)).bind fun q4 => if q4 = (-1) then (some ((-1), S)) else (if ok q4 6 then if ok q4 6 then l_X5_lot_38 h lk n (sA S 7 q4.toNatClampNeg 0) x2 (x3 - (cA S 7 q4.toNatClampNeg).toInt64) (((1103515245 * x5) + 12345) - ((1103515245 * x5) + 12345) / 2147483648 * 2147483648) ((x7 * 10) + q4) (x8 + 1) else none else none) else none))
def f_X5_lot (h : Nat → Bool) (lk : Nat × Nat) (S : CS) (a1 : Int32) (a2 : Int32) : Option (Int32 × CS) :=
  if a1 < 0 then (some ((-1), S)) else (if a2 < 1 then (some ((-1), S)) else (if a2 ≤ (cR S lk.1 2) then ((f_X5_weighAll h lk S).bind fun q1 => l_X5_lot_38 h lk fu q1.2 a2 q1.1.toInt64 a1.toInt64 0 0) else (some ((-1), S))))
def l_X5_greatestDivisor_7 : Nat → Int32 → Int32 → Int32 → Option (Int32)
  | 0, _, _, _ => none
  | n + 1, x2, x3, x4 => if 64 ≤ x4 then (some x2) else (if x3 = 0 then (some x2) else (if ¬ x3 = 0 then l_X5_greatestDivisor_7 n x3 (x2 - x2 / x3 * x3) (x4 + 1) else none))
def f_X5_greatestDivisor (a1 : Int32) (a2 : Int32) : Option (Int32) :=
  l_X5_greatestDivisor_7 fu a1 a2 0
def f_X5_chance (h : Nat → Bool) (lk : Nat × Nat) (S : CS) (a1 : Int32) (a2 : Bool) : Option (Int32 × CS) :=
  if a1 < 0 then (some ((-1), S)) else (if (cR S lk.1 2) ≤ a1 then (some ((-1), S)) else (if a1 < 6 then ((f_X5_weighAll h lk S).bind fun q1 => if ok a1 6 then (f_X5_greatestDivisor (cA q1.2 7 a1.toNatClampNeg) q1.1).bind fun q4 => if 1 ≤ q4 then (if a2 = true then (if ¬ q4 = 0 then some ((q1.1 / q4), q1.2) else none) else (if ¬ q4 = 0 then some (((cA q1.2 7 a1.toNatClampNeg) / q4), q1.2) else none)) else (some ((-1), q1.2)) else none) else (some ((-1), S))))
def l_X5_hoursOfRound_4 (h : Nat → Bool) (lk : Nat × Nat) (S : CS) : Nat → Int32 → Int32 → Int32 → Option (Int32)
  | 0, _, _, _ => none
  | n + 1, x1, x2, x3 => if 22 < x3 then (some x2) else ((f_X0_fullestPlace h S lk.1 x1 x3).bind fun q1 => if q1 = (-1) then (l_X5_hoursOfRound_4 h lk S n x1 x2 (x3 + 1)) else (l_X5_hoursOfRound_4 h lk S n x1 (x2 + 1) (x3 + 1)))
def f_X5_hoursOfRound (h : Nat → Bool) (lk : Nat × Nat) (S : CS) (a1 : Int32) : Option (Int32) :=
  l_X5_hoursOfRound_4 h lk S fu a1 0 5
def l_X5_athletesOfRound_4 (h : Nat → Bool) (lk : Nat × Nat) (S : CS) : Nat → Int32 → Int32 → Int32 → Option (Int32)
  | 0, _, _, _ => none
  | n + 1, x1, x2, x3 => if 22 < x3 then (some x2) else ((f_X0_fullestPlace h S lk.1 x1 x3).bind fun q1 => if q1 = (-1) then (l_X5_athletesOfRound_4 h lk S n x1 x2 (x3 + 1)) else ((f_X0_bitsOfThose h S lk.1 x1 x3 q1).bind fun q3 => l_X5_athletesOfRound_4 h lk S n x1 (x2 + (f_J6_bitCount_0f7a4 q3)) (x3 + 1)))
def f_X5_athletesOfRound (h : Nat → Bool) (lk : Nat × Nat) (S : CS) (a1 : Int32) : Option (Int32) :=
  l_X5_athletesOfRound_4 h lk S fu a1 0 5
def f_X5_round (h : Nat → Bool) (lk : Nat × Nat) (S : CS) (a1 : Int32) (a2 : Int32) (a3 : Int32) : Option (Int32) :=
  if (f_X5_canBeFiledDay a1) = true then (if a3 < 0 then (some (-1)) else (if a3 ≤ 1 then (if a2 = (-1) then (if a3 = 0 then ((f_X5_hoursOfRound h lk S a1).bind fun q7 => some q7) else ((f_X5_athletesOfRound h lk S a1).bind fun q5 => some q5)) else (if (f_X5_canBeHour a2) = true then ((f_X0_fullestPlace h S lk.1 a1 a2).bind fun q1 => if q1 = (-1) then (some (-1)) else (if a3 = 0 then (some q1) else ((f_X0_bitsOfThose h S lk.1 a1 a2 q1).bind fun q3 => some q3))) else (some (-1)))) else (some (-1)))) else (some (-1))
def f_X5_there (h : Nat → Bool) (lk : Nat × Nat) (S : CS) (a1 : Int32) (a2 : Int32) (a3 : Int32) : Option (Int32) :=
  if (f_X5_canBeFiledDay a1) = true then (if (f_X5_canBeFiledHour a2) = true then (if (f_X5_canBePlace a3) = true then ((f_X0_bitsOfThose h S lk.1 a1 a2 a3).bind fun q1 => some q1) else (some (-1))) else (some (-1))) else (some (-1))
def f_X5_violationsOf (lk : Nat × Nat) (S : CS) (j : Nat) : Option (Int32 × CS) :=
  (f_X2_goThrough S j lk.1 (-1)).bind fun q1 => some ((cF q1 1), q1)
def f_X5_danger (h : Nat → Bool) (lk : Nat × Nat) (S : CS) (a1 : Int32) : Option (Int32 × CS) :=
  (f_X0_find h S lk.1 a1).bind fun q1 => oC q1 (some ((-1), S)) (fun j3 => (f_X5_violationsOf lk S j3).bind fun q5 => (f_X2_add q5.2 (cR q5.2 lk.1 0) false).bind fun q7 => if (cF q7 1) ≤ q5.1 then (some (0, q7)) else (some (1, q7)))
def f_X5_easier (h : Nat → Bool) (lk : Nat × Nat) (S : CS) (a1 : Int32) : Option (Int32 × CS) :=
  (f_X0_find h S lk.1 a1).bind fun q1 => oC q1 (some ((-1), S)) (fun j3 => (f_X2_goThrough S j3 lk.1 (-1)).bind fun q5 => (f_X2_dayOfOldestPoint q5 (cR q5 lk.1 0)).bind fun q7 => if q7 = (-1) then (some ((-1), q5)) else (some ((q7 + (cA q5 lk.1 0)), q5)))
def f_X5_without (h : Nat → Bool) (lk : Nat × Nat) (S : CS) (a1 : Int32) (a2 : Int32) : Option (Int32 × CS) :=
  (f_X0_find h S lk.1 a1).bind fun q1 => oC q1 (some ((-1), S)) (fun j3 => if (f_X1_hasFailure S j3 a2) = true then ((f_X2_goThrough S j3 lk.1 a2).bind fun q5 => some ((cF q5 1), q5)) else (some ((-1), S)))
def f_J6_compare_7cf53 (a1 : Int32) (a2 : Int32) : Int32 :=
  if a2 ≤ a1 then (if a1 = a2 then 0 else 1) else (-1)
def j_X5_worst_106 (h : Nat → Bool) (lk : Nat × Nat) (r12 : CS → Int32 → Int32 → Int32 → Int32 → Int32 → Option (Int32 × CS)) (S : CS) (x5 : Int32) (x6 : Nat) (x7 : Int32) (x8 : Int32) : Option (Int32 × CS) :=
  r12 S x5 x7 x8 (cP S x6 6) (x5 + 1)
def j_X5_worst_96 (h : Nat → Bool) (lk : Nat × Nat) (r12 : CS → Int32 → Int32 → Int32 → Int32 → Int32 → Option (Int32 × CS)) (S : CS) (x1 : Int32) (x2 : Int32) (x3 : Int32) (x4 : Int32) (x5 : Int32) (x6 : Nat) (x7 : Int32) (x8 : Int32) (x9 : Int32) : Option (Int32 × CS) :=
  if x1 = (-1) then (j_X5_worst_106 h lk r12 S x5 x6 x7 x8) else (if x9 ≤ 0 then (r12 S x1 x2 x3 x4 (x5 + 1)) else (j_X5_worst_106 h lk r12 S x5 x6 x7 x8))
def j_X5_worst_79 (h : Nat → Bool) (lk : Nat × Nat) (r12 : CS → Int32 → Int32 → Int32 → Int32 → Int32 → Option (Int32 × CS)) (S : CS) (x1 : Int32) (x2 : Int32) (x3 : Int32) (x4 : Int32) (x5 : Int32) (x6 : Nat) (x7 : Int32) (x8 : Int32) (x9 : Int32) : Option (Int32 × CS) :=
  if x9 = 0 then (j_X5_worst_96 h lk r12 S x1 x2 x3 x4 x5 x6 x7 x8 (f_J6_compare_7cf53 (cP S x6 6) x4)) else (j_X5_worst_96 h lk r12 S x1 x2 x3 x4 x5 x6 x7 x8 x9)
def l_X5_worst_12 (h : Nat → Bool) (lk : Nat × Nat) : Nat → CS → Int32 → Int32 → Int32 → Int32 → Int32 → Option (Int32 × CS)
  | 0, _, _, _, _, _, _ => none
  | n + 1, S, x1, x2, x3, x4, x5 => if (cR S lk.1 2) ≤ x5 then (some (x1, S)) else ((f_X0_find h S lk.1 x5).bind fun q1 => oC q1 (some ((-1), S)) (fun j3 => (f_X5_violationsOf lk S j3).bind fun q5 => (f_X5_pointsOf lk q5.2 j3).bind fun q7 => if (f_J6_compare_7cf53 q5.1 x2) = 0 then (j_X5_worst_79 h lk (l_X5_worst_12 h lk n) q7.2 x1 x2 x3 x4 x5 j3 q5.1 q7.1 (f_J6_compare_7cf53 q7.1 x3)) else (j_X5_worst_79 h lk (l_X5_worst_12 h lk n) q7.2 x1 x2 x3 x4 x5 j3 q5.1 q7.1 (f_J6_compare_7cf53 q5.1 x2))))
def f_X5_worst (h : Nat → Bool) (lk : Nat × Nat) (S : CS) : Option (Int32 × CS) :=
  l_X5_worst_12 h lk fu S (-1) 0 0 0 0
theorem find_has {h : Nat → Bool} {S : CS} {r : Nat} {a : Int32} {j : Nat} (e : f_X0_find h S r a = some (some j)) : h j = true := by
  unfold f_X0_find at e
  repeat' split at e
  all_goals first | (cases e; done) | skip
  all_goals (
    unfold hN at e
    split at e
    · next hh => cases e; exact hh
    · cases e)
theorem f_J1_charAt_3b067_nar {S : CS} {i : Nat} {k q : Int32} (e : f_J1_charAt_3b067 S i k = some q) : narrow .char (.int q) = .int q := by
  unfold f_J1_charAt_3b067 at e
  obtain ⟨_, _, e⟩ := op_bd e
  obtain ⟨_, e⟩ := op_ok e
  obtain rfl := Option.some.inj e
  exact pk_nc _
theorem f_J0_charAt_5068e_nar {S : CS} {i : Nat} {k q : Int32} (e : f_J0_charAt_5068e S i k = some q) : narrow .char (.int q) = .int q := by
  unfold f_J0_charAt_5068e at e
  rcases op_if e with ⟨_, e⟩ | ⟨_, e⟩
  · obtain ⟨z, hz, e⟩ := op_bd e
    obtain rfl := Option.some.inj e
    exact f_J1_charAt_3b067_nar hz
  · cases e
