def f_X6_thrown (S : MS) : Int32 :=
  (S.1 0)
def f_X6_in (a1 : Int32) (a2 : Int32) (a3 : Int32) : Bool :=
  if a1 < a2 then false else (if a3 < a1 then false else true)
def f_X6_isAthlete (S : MS) (a1 : Int32) : Bool :=
  (f_X6_in a1 0 ((S.2 1 2) - 1))
def f_X6_cell (a1 : Int32) (a2 : Int32) : Int32 :=
  ((9 + (1288 * a1)) + a2)
def f_X6_its (S : MS) (a1 : Int32) (a2 : Int32) : Option (Int32) :=
  if ok (f_X6_cell a1 a2) 7737 then some (S.2 1 (f_X6_cell a1 a2).toNatClampNeg) else none
def f_X6_fails (S : MS) (a1 : Int32) (a2 : Int32) (a3 : Int32) : Option (Bool × MS) :=
  (f_X6_its S a1 7).bind fun q1 => if q1 = 60 then (some (false, S)) else (if ok (f_X6_cell a1 (8 + (3 * q1))) 7737 then if ok (f_X6_cell a1 ((8 + (3 * q1)) + 1)) 7737 then if ok (f_X6_cell a1 ((8 + (3 * q1)) + 2)) 7737 then if ok (f_X6_cell a1 7) 7737 then if ok (f_X6_cell a1 7) 7737 then some (true, (mA (mA (mA (mA S 1 (f_X6_cell a1 (8 + (3 * q1))).toNatClampNeg a2) 1 (f_X6_cell a1 ((8 + (3 * q1)) + 1)).toNatClampNeg a3) 1 (f_X6_cell a1 ((8 + (3 * q1)) + 2)).toNatClampNeg 0) 1 (f_X6_cell a1 7).toNatClampNeg (((mA (mA (mA S 1 (f_X6_cell a1 (8 + (3 * q1))).toNatClampNeg a2) 1 (f_X6_cell a1 ((8 + (3 * q1)) + 1)).toNatClampNeg a3) 1 (f_X6_cell a1 ((8 + (3 * q1)) + 2)).toNatClampNeg 0).2 1 (f_X6_cell a1 7).toNatClampNeg) + 1))) else none else none else none else none else none)
def l_X6_comes_9 : Nat → MS → Int32 → Int32 → Int32 → Option (Int32 × MS)
  | 0, _, _, _, _ => none
  | n + 1, S, x1, x2, x3 => if 1288 ≤ x3 then (if ok (f_X6_cell x2 0) 7737 then if ok (f_X6_cell x2 1) 7737 then if ok (f_X6_cell x2 4) 7737 then if ok (f_X6_cell x2 6) 7737 then some (x2, (mA (mA (mA (mA (mA S 1 (f_X6_cell x2 0).toNatClampNeg x1) 1 (f_X6_cell x2 1).toNatClampNeg ((mA S 1 (f_X6_cell x2 0).toNatClampNeg x1).2 1 0)) 1 (f_X6_cell x2 4).toNatClampNeg (-1)) 1 (f_X6_cell x2 6).toNatClampNeg (-1)) 1 2 (((mA (mA (mA (mA S 1 (f_X6_cell x2 0).toNatClampNeg x1) 1 (f_X6_cell x2 1).toNatClampNeg ((mA S 1 (f_X6_cell x2 0).toNatClampNeg x1).2 1 0)) 1 (f_X6_cell x2 4).toNatClampNeg (-1)) 1 (f_X6_cell x2 6).toNatClampNeg (-1)).2 1 2) + 1))) else none else none else none else none) else (if ok (f_X6_cell x2 x3) 7737 then l_X6_comes_9 n (mA S 1 (f_X6_cell x2 x3).toNatClampNeg 0) x1 x2 (x3 + 1) else none)
def f_X6_comes (S : MS) (a1 : Int32) : Option (Int32 × MS) :=
  l_X6_comes_9 fu S a1 (S.2 1 2) 0
def f_X6_isBehind (S : MS) (a1 : Int32) (a2 : Int32) : Bool :=
  if (S.2 1 0) < a1 then true else (if a1 = (S.2 1 0) then (if a2 ≤ (S.2 1 1) then false else true) else false)
def f_X6_isFiled (S : MS) (a1 : Int32) (a2 : Int32) : Option (Bool) :=
  (f_X6_its S a1 (188 + a2)).bind fun q1 => if q1 ≤ 0 then (some false) else (some true)
def l_X6_holeOf_5 (S : MS) : Nat → Int32 → Int32 → Int32 → Option (Int32)
  | 0, _, _, _ => none
  | n + 1, x1, x2, x3 => if ((30 * x2) + 30) ≤ x3 then (some (-1)) else ((f_X6_isFiled S x1 x3).bind fun q1 => if q1 = true then (l_X6_holeOf_5 S n x1 x2 (x3 + 1)) else (some x3))
def f_X6_holeOf (S : MS) (a1 : Int32) (a2 : Int32) : Option (Int32) :=
  l_X6_holeOf_5 S fu a1 a2 (30 * a2)
def l_X6_goesOn_27 (r15 : MS → Int32 → Int32 → Int32 → Int32 → Option (Int32 × MS)) : Nat → MS → Int32 → Int32 → Int32 → Int32 → Int32 → Option (Int32 × MS)
  | 0, _, _, _, _, _, _ => none
  | n + 1, S, x1, x2, x3, x4, x5 => if (S.2 1 2) ≤ x5 then (r15 S x1 x2 x3 (x4 + 1)) else ((f_X6_holeOf S x5 x4).bind fun q1 => if q1 = (-1) then (l_X6_goesOn_27 r15 n S x1 x2 (x3 + 0) x4 (x5 + 1)) else ((f_X6_fails S x5 (30 * x4) 0).bind fun q3 => if q3.1 = true then (l_X6_goesOn_27 r15 n q3.2 x1 x2 (x3 + 1) x4 (x5 + 1)) else (l_X6_goesOn_27 r15 n q3.2 x1 x2 (x3 + 0) x4 (x5 + 1))))
def l_X6_goesOn_15 : Nat → MS → Int32 → Int32 → Int32 → Int32 → Option (Int32 × MS)
  | 0, _, _, _, _, _ => none
  | n + 1, S, x1, x2, x3, x4 => if (x1 / 30) < x4 then (some (x3, (mA (mA S 1 0 x1) 1 1 x2))) else (l_X6_goesOn_27 (l_X6_goesOn_15 n) fu S x1 x2 x3 x4 0)
def f_X6_goesOn (S : MS) (a1 : Int32) (a2 : Int32) : Option (Int32 × MS) :=
  l_X6_goesOn_15 fu S a1 a2 0 (((S.2 1 0) / 30) + 1)
def f_X6_hourOf (S : MS) (a1 : Int32) (a2 : Int32) : Option (Int32) :=
  (f_X6_its S a1 (188 + a2)).bind fun q1 => some ((q1 - 1) / 10)
def f_X6_placeOf (S : MS) (a1 : Int32) (a2 : Int32) : Option (Int32) :=
  (f_X6_its S a1 (188 + a2)).bind fun q1 => some ((q1 - 1) - (q1 - 1) / 10 * 10)
def f_X6_mayFile (S : MS) (a1 : Int32) (a2 : Int32) (a3 : Int32) : Option (Bool) :=
  if a2 = (S.2 1 0) then (if a3 ≤ (S.2 1 1) then (some false) else ((f_X6_isFiled S a1 a2).bind fun q1 => if q1 = true then ((f_X6_hourOf S a1 a2).bind fun q3 => if q3 ≤ (S.2 1 1) then (some false) else (some true)) else (some true))) else (if a2 ≤ (S.2 1 0) then (some false) else (some true))
def j_X6_isLate_44 (S : MS) (x1 : Int32) : Option (MS) :=
  if ok (f_X6_cell x1 5) 7737 then if ok (f_X6_cell x1 5) 7737 then (f_X6_its (mA S 1 (f_X6_cell x1 5).toNatClampNeg ((S.2 1 (f_X6_cell x1 5).toNatClampNeg) + 1)) x1 5).bind fun q5 => if q5 ≤ ((mA S 1 (f_X6_cell x1 5).toNatClampNeg ((S.2 1 (f_X6_cell x1 5).toNatClampNeg) + 1)).2 1 7) then (some (mA S 1 (f_X6_cell x1 5).toNatClampNeg ((S.2 1 (f_X6_cell x1 5).toNatClampNeg) + 1))) else ((f_X6_fails (mA S 1 (f_X6_cell x1 5).toNatClampNeg ((S.2 1 (f_X6_cell x1 5).toNatClampNeg) + 1)) x1 ((mA S 1 (f_X6_cell x1 5).toNatClampNeg ((S.2 1 (f_X6_cell x1 5).toNatClampNeg) + 1)).2 1 0) 1).bind fun q7 => some q7.2) else none else none
def f_X6_isLate (S : MS) (a1 : Int32) : Option (MS) :=
  (f_X6_its S a1 6).bind fun q1 => if q1 = ((S.2 1 0) / 30) then (j_X6_isLate_44 S a1) else (if ok (f_X6_cell a1 6) 7737 then if ok (f_X6_cell a1 5) 7737 then j_X6_isLate_44 (mA (mA S 1 (f_X6_cell a1 6).toNatClampNeg ((S.2 1 0) / 30)) 1 (f_X6_cell a1 5).toNatClampNeg 0) a1 else none else none)
def j_X6_files_76 (r18 : MS → Int32 → Int32 → Int32 → Int32 → Int32 → Int32 → Option (Int32 × MS)) (S : MS) (x1 : Int32) (x3 : Int32) (x4 : Int32) (x6 : Int32) (x7 : Int32) (x8 : Int32) (t0 : Int32) : Option (Int32 × MS) :=
  if (S.2 1 6) ≤ (((24 * (x8 - (S.2 1 0))) + t0) - (S.2 1 1)) then (if ok (f_X6_cell x1 (188 + x8)) 7737 then r18 (mA S 1 (f_X6_cell x1 (188 + x8)).toNatClampNeg x7) x1 x3 x4 x6 x7 (x8 + 1) else none) else ((f_X6_isLate S x1).bind fun q10 => if ok (f_X6_cell x1 (188 + x8)) 7737 then r18 (mA q10 1 (f_X6_cell x1 (188 + x8)).toNatClampNeg x7) x1 x3 x4 x6 x7 (x8 + 1) else none)
def l_X6_files_18 : Nat → MS → Int32 → Int32 → Int32 → Int32 → Int32 → Int32 → Option (Int32 × MS)
  | 0, _, _, _, _, _, _, _ => none
  | n + 1, S, x1, x3, x4, x6, x7, x8 => if x3 < x8 then (some (x6, S)) else ((f_X6_isFiled S x1 x8).bind fun q1 => if q1 = true then ((f_X6_its S x1 (188 + x8)).bind fun q4 => if q4 = x7 then (if ok (f_X6_cell x1 (188 + x8)) 7737 then l_X6_files_18 n (mA S 1 (f_X6_cell x1 (188 + x8)).toNatClampNeg x7) x1 x3 x4 x6 x7 (x8 + 1) else none) else ((f_X6_hourOf S x1 x8).bind fun q7 => if x4 ≤ q7 then (j_X6_files_76 (l_X6_files_18 n) S x1 x3 x4 (x6 + 1) x7 x8 x4) else (j_X6_files_76 (l_X6_files_18 n) S x1 x3 x4 (x6 + 1) x7 x8 q7))) else (if ok (f_X6_cell x1 (188 + x8)) 7737 then l_X6_files_18 n (mA S 1 (f_X6_cell x1 (188 + x8)).toNatClampNeg x7) x1 x3 x4 x6 x7 (x8 + 1) else none))
def f_X6_files (S : MS) (a1 : Int32) (a2 : Int32) (a3 : Int32) (a4 : Int32) (a5 : Int32) : Option (Int32 × MS) :=
  l_X6_files_18 fu S a1 a3 a4 0 (((10 * a4) + a5) + 1) a2
def j_X6_tests_54 (S : MS) (x1 : Int32) (x3 : Bool) (t0 : Int32) : Option (Int32 × MS) :=
  if ok (f_X6_cell x1 2) 7737 then if ok (f_X6_cell x1 2) 7737 then if ok (f_X6_cell x1 4) 7737 then if x3 = true then (some (0, (mA (mA S 1 (f_X6_cell x1 2).toNatClampNeg ((S.2 1 (f_X6_cell x1 2).toNatClampNeg) + 1)) 1 (f_X6_cell x1 4).toNatClampNeg ((mA S 1 (f_X6_cell x1 2).toNatClampNeg ((S.2 1 (f_X6_cell x1 2).toNatClampNeg) + 1)).2 1 0)))) else (if t0 = 0 then (some (2, (mA (mA S 1 (f_X6_cell x1 2).toNatClampNeg ((S.2 1 (f_X6_cell x1 2).toNatClampNeg) + 1)) 1 (f_X6_cell x1 4).toNatClampNeg ((mA S 1 (f_X6_cell x1 2).toNatClampNeg ((S.2 1 (f_X6_cell x1 2).toNatClampNeg) + 1)).2 1 0)))) else (if ok (f_X6_cell x1 3) 7737 then if ok (f_X6_cell x1 3) 7737 then (f_X6_fails (mA (mA (mA S 1 (f_X6_cell x1 2).toNatClampNeg ((S.2 1 (f_X6_cell x1 2).toNatClampNeg) + 1)) 1 (f_X6_cell x1 4).toNatClampNeg ((mA S 1 (f_X6_cell x1 2).toNatClampNeg ((S.2 1 (f_X6_cell x1 2).toNatClampNeg) + 1)).2 1 0)) 1 (f_X6_cell x1 3).toNatClampNeg (((mA (mA S 1 (f_X6_cell x1 2).toNatClampNeg ((S.2 1 (f_X6_cell x1 2).toNatClampNeg) + 1)) 1 (f_X6_cell x1 4).toNatClampNeg ((mA S 1 (f_X6_cell x1 2).toNatClampNeg ((S.2 1 (f_X6_cell x1 2).toNatClampNeg) + 1)).2 1 0)).2 1 (f_X6_cell x1 3).toNatClampNeg) + 1)) x1 ((mA (mA (mA S 1 (f_X6_cell x1 2).toNatClampNeg ((S.2 1 (f_X6_cell x1 2).toNatClampNeg) + 1)) 1 (f_X6_cell x1 4).toNatClampNeg ((mA S 1 (f_X6_cell x1 2).toNatClampNeg ((S.2 1 (f_X6_cell x1 2).toNatClampNeg) + 1)).2 1 0)) 1 (f_X6_cell x1 3).toNatClampNeg (((mA (mA S 1 (f_X6_cell x1 2).toNatClampNeg ((S.2 1 (f_X6_cell x1 2).toNatClampNeg) + 1)) 1 (f_X6_cell x1 4).toNatClampNeg ((mA S 1 (f_X6_cell x1 2).toNatClampNeg ((S.2 1 (f_X6_cell x1 2).toNatClampNeg) + 1)).2 1 0)).2 1 (f_X6_cell x1 3).toNatClampNeg) + 1)).2 1 0) 2).bind fun q8 => some (1, q8.2) else none else none)) else none else none else none
def f_X6_tests (S : MS) (a1 : Int32) (a2 : Int32) (a3 : Bool) : Option (Int32 × MS) :=
  (f_X6_isFiled S a1 (S.2 1 0)).bind fun q1 => if q1 = true then ((f_X6_placeOf S a1 (S.2 1 0)).bind fun q10 => if q10 = a2 then ((f_X6_hourOf S a1 (S.2 1 0)).bind fun q12 => if q12 = (S.2 1 1) then (j_X6_tests_54 S a1 a3 1) else (j_X6_tests_54 S a1 a3 0)) else (j_X6_tests_54 S a1 a3 0)) else (j_X6_tests_54 S a1 a3 0)
def f_X6_isFailure (S : MS) (a1 : Int32) (a2 : Int32) : Option (Bool) :=
  if (f_X6_isAthlete S a1) = true then ((f_X6_its S a1 7).bind fun q1 => if (f_X6_in a2 0 (q1 - 1)) = true then (some true) else (some false)) else (some false)
def f_X6_strikes (S : MS) (a1 : Int32) (a2 : Int32) : Option (Bool × MS) :=
  if ok (f_X6_cell a1 ((8 + (3 * a2)) + 2)) 7737 then if (S.2 1 (f_X6_cell a1 ((8 + (3 * a2)) + 2)).toNatClampNeg) = 1 then (some (false, S)) else (if ok (f_X6_cell a1 (8 + (3 * a2))) 7737 then if (S.2 1 0) ≤ ((S.2 1 (f_X6_cell a1 (8 + (3 * a2))).toNatClampNeg) + (S.2 1 8)) then (if ok (f_X6_cell a1 ((8 + (3 * a2)) + 2)) 7737 then some (true, (mA S 1 (f_X6_cell a1 ((8 + (3 * a2)) + 2)).toNatClampNeg 1)) else none) else (some (false, S)) else none) else none
def f_X6_athlete (S : MS) (a1 : Int32) : Option (Int32 × MS) :=
  if (f_X6_in a1 1 9) = true then (if ((mS S 0 0).2 1 2) = 6 then (some ((-2), (mS S 0 0))) else ((f_X6_comes (mS S 0 0) a1).bind fun q1 => some (q1.1, q1.2))) else (some ((-1), (mS S 0 0)))
def f_X6_set (S : MS) (a1 : Int32) (a2 : Int32) : Option (Bool × MS) :=
  if (f_X6_in a1 0 5) = true then (if ok a1 6 then if ok a1 6 then if (f_X6_in a2 ((mS S 0 0).2 3 a1.toNatClampNeg) ((mS S 0 0).2 4 a1.toNatClampNeg)) = true then (if ok (3 + a1) 7737 then if ((mS S 0 0).2 1 (3 + a1).toNatClampNeg) = a2 then (some (false, (mS S 0 0))) else (if ok (3 + a1) 7737 then some (true, (mA (mS S 0 0) 1 (3 + a1).toNatClampNeg a2)) else none) else none) else (some (false, (mS S 0 0))) else none else none) else (some (false, (mS S 0 0)))
def f_X6_at (S : MS) (a1 : Int32) (a2 : Int32) : Option (Int32 × MS) :=
  if (f_X6_in a1 0 999) = true then (if (f_X6_in a2 0 23) = true then (if (f_X6_isBehind (mS S 0 0) a1 a2) = true then ((f_X6_goesOn (mS S 0 0) a1 a2).bind fun q1 => some (q1.1, q1.2)) else (some ((-1), (mS S 0 0)))) else (some ((-1), (mS S 0 0)))) else (some ((-1), (mS S 0 0)))
def f_X6_canFile (a1 : Int32) (a2 : Int32) (a3 : Int32) (a4 : Int32) : Bool :=
  if a1 < 0 then false else (if 1100 ≤ a2 then false else (if a2 < a1 then false else (if 60 ≤ (a2 - a1) then false else (if (f_X6_in a3 5 22) = true then (if (f_X6_in a4 0 9) = true then true else false) else false))))
def f_X6_file (S : MS) (a1 : Int32) (a2 : Int32) (a3 : Int32) (a4 : Int32) (a5 : Int32) : Option (Int32 × MS) :=
  if (f_X6_isAthlete (mS S 0 0) a1) = true then (if (f_X6_canFile a2 a3 a4 a5) = true then ((f_X6_mayFile (mS S 0 0) a1 a2 a4).bind fun q1 => if q1 = true then ((f_X6_files (mS S 0 0) a1 a2 a3 a4 a5).bind fun q3 => some (q3.1, q3.2)) else (some ((-1), (mS S 0 0)))) else (some ((-1), (mS S 0 0)))) else (some ((-1), (mS S 0 0)))
def f_X6_test (S : MS) (a1 : Int32) (a2 : Int32) (a3 : Bool) : Option (Int32 × MS) :=
  if (f_X6_isAthlete (mS S 0 0) a1) = true then (if (f_X6_in a2 0 9) = true then ((f_X6_tests (mS S 0 0) a1 a2 a3).bind fun q1 => some (q1.1, q1.2)) else (some ((-1), (mS S 0 0)))) else (some ((-1), (mS S 0 0)))
def f_X6_appeal (S : MS) (a1 : Int32) (a2 : Int32) : Option (Bool × MS) :=
  (f_X6_isFailure (mS S 0 0) a1 a2).bind fun q1 => if q1 = true then ((f_X6_strikes (mS S 0 0) a1 a2).bind fun q3 => if q3.1 = true then (some (true, q3.2)) else (some (false, q3.2))) else (some (false, (mS S 0 0)))
def l_X6_four_3 : Nat → MS → Int32 → Int32 → Option (MS)
  | 0, _, _, _ => none
  | n + 1, S, x1, x2 => if x2 < 0 then (some S) else (if ok (S.1 6) 400 then l_X6_four_3 n (mS (mA S 5 (S.1 6).toNatClampNeg ((x1 >>> (x2 &&& 31)) &&& 255)) 6 (((mA S 5 (S.1 6).toNatClampNeg ((x1 >>> (x2 &&& 31)) &&& 255)).1 6) + 1)) x1 (x2 + (-8)) else none)
def f_X6_four (S : MS) (a1 : Int32) : Option (MS) :=
  l_X6_four_3 fu S a1 24
def f_X6_feed (S : MS) (a1 : Int32) (a2 : Int32) (a3 : Int32) (a4 : Int32) (a5 : Int32) : Option (Int32 × MS) :=
  if (((mS S 0 0).1 6) + 20) ≤ 400 then ((f_X6_four (mS S 0 0) a1).bind fun q1 => (f_X6_four q1 a2).bind fun q3 => (f_X6_four q3 a3).bind fun q5 => (f_X6_four q5 a4).bind fun q7 => (f_X6_four q7 a5).bind fun q9 => some ((q9.1 6), q9)) else (some ((-1), (mS S 0 0)))
def f_X6_end (S : MS) (a1 : Int32) : Bool × MS :=
  if (f_X6_in a1 0 ((mS S 0 0).1 6)) = true then (true, (mS (mS S 0 0) 6 a1)) else (false, (mS S 0 0))
def l_X6_here_0 : Nat → MS → Option (Int32 × MS)
  | 0, _ => none
  | n + 1, S => if (S.1 6) ≤ (S.1 8) then (if (S.1 6) ≤ (S.1 8) then (some ((-1), S)) else (if ok (S.1 8) 400 then some ((S.2 5 (S.1 8).toNatClampNeg), S) else none)) else (if ok (S.1 8) 400 then if (S.2 5 (S.1 8).toNatClampNeg) = 32 then (l_X6_here_0 n (mS S 8 ((S.1 8) + 1))) else (if ok (S.1 8) 400 then if (S.2 5 (S.1 8).toNatClampNeg) = 10 then (l_X6_here_0 n (mS S 8 ((S.1 8) + 1))) else (if (S.1 6) ≤ (S.1 8) then (some ((-1), S)) else (if ok (S.1 8) 400 then some ((S.2 5 (S.1 8).toNatClampNeg), S) else none)) else none) else none)
def f_X6_here (S : MS) : Option (Int32 × MS) :=
  l_X6_here_0 fu S
def f_X6_wrong (S : MS) (a1 : Int32) (a2 : Int32) : Bool × MS :=
  (false, (mS S 9 (a1 + (8 * a2))))
def l_X6_readWord_12 : Nat → MS → Int64 → Int32 → Option (Int64 × MS)
  | 0, _, _, _ => none
  | n + 1, S, x1, x3 => if (S.1 6) ≤ (S.1 8) then (some (x1, S)) else (if ok (S.1 8) 400 then if (f_X6_in (S.2 5 (S.1 8).toNatClampNeg) 97 122) = true then (if 7 ≤ x3 then (l_X6_readWord_12 n (mS S 8 ((S.1 8) + 1)) (-1) (x3 + 1)) else (if ok (S.1 8) 400 then l_X6_readWord_12 n (mS S 8 ((S.1 8) + 1)) (((x1 * 27) + (S.2 5 (S.1 8).toNatClampNeg).toInt64) - 96) (x3 + 1) else none)) else (some (x1, S)) else none)
def f_X6_readWord (S : MS) : Option (Int64 × MS) :=
  l_X6_readWord_12 fu (mS S 11 (S.1 8)) 0 0
def j_X6_number_120 (S : MS) (x1 : Int32) (x2 : Int32) (x3 : Int32) (x4 : Int32) : Option (Bool × MS) :=
  if ((S.1 8) - x4) ≤ 4 then (if ok x1 6 then if (f_X6_in ((mA S 13 x1.toNatClampNeg (S.1 10)).1 10) x2 x3) = true then (some (true, (mA S 13 x1.toNatClampNeg (S.1 10)))) else (if (f_X6_wrong (mA S 13 x1.toNatClampNeg (S.1 10)) 2 x4).1 = true then (some (true, (f_X6_wrong (mA S 13 x1.toNatClampNeg (S.1 10)) 2 x4).2)) else (some (false, (f_X6_wrong (mA S 13 x1.toNatClampNeg (S.1 10)) 2 x4).2))) else none) else (some ((f_X6_wrong S 1 x4).1, (f_X6_wrong S 1 x4).2))
def l_X6_number_35 : Nat → MS → Int32 → Int32 → Int32 → Int32 → Option (Bool × MS)
  | 0, _, _, _, _, _ => none
  | n + 1, S, x1, x2, x3, x4 => if (S.1 6) ≤ (S.1 8) then (j_X6_number_120 S x1 x2 x3 x4) else (if ok (S.1 8) 400 then if (f_X6_in (S.2 5 (S.1 8).toNatClampNeg) 48 57) = true then (if 4 ≤ ((S.1 8) - x4) then (l_X6_number_35 n (mS (mS S 10 (S.1 10)) 8 (((mS S 10 (S.1 10)).1 8) + 1)) x1 x2 x3 x4) else (if ok (S.1 8) 400 then l_X6_number_35 n (mS (mS S 10 (((10 * (S.1 10)) + (S.2 5 (S.1 8).toNatClampNeg)) - 48)) 8 (((mS S 10 (((10 * (S.1 10)) + (S.2 5 (S.1 8).toNatClampNeg)) - 48)).1 8) + 1)) x1 x2 x3 x4 else none)) else (j_X6_number_120 S x1 x2 x3 x4) else none)
def f_X6_number (S : MS) (a1 : Int32) (a2 : Int32) (a3 : Int32) : Option (Bool × MS) :=
  (f_X6_here S).bind fun q1 => if (f_X6_in q1.1 48 57) = true then (l_X6_number_35 fu (mS q1.2 10 0) a1 a2 a3 (q1.2.1 8)) else (some ((f_X6_wrong q1.2 1 (q1.2.1 8)).1, (f_X6_wrong q1.2 1 (q1.2.1 8)).2))
def f_X6_who (S : MS) : Option (Bool × MS) :=
  (f_X6_number S 0 0 ((S.2 1 2) - 1)).bind fun q1 => some (q1.1, q1.2)
def f_X6_readFile (S : MS) : Option (Bool × MS) :=
  (f_X6_who S).bind fun q1 => if q1.1 = true then ((f_X6_number q1.2 1 0 1099).bind fun q3 => if q3.1 = true then (if 1099 ≤ (((q3.2.2 13 1) + 60) - 1) then ((f_X6_number q3.2 2 (q3.2.2 13 1) 1099).bind fun q5 => if q5.1 = true then ((f_X6_number q5.2 3 5 22).bind fun q7 => if q7.1 = true then ((f_X6_number q7.2 4 0 9).bind fun q9 => if q9.1 = true then (some (true, q9.2)) else (some (false, q9.2))) else (some (false, q7.2))) else (some (false, q5.2))) else ((f_X6_number q3.2 2 (q3.2.2 13 1) (((q3.2.2 13 1) + 60) - 1)).bind fun q11 => if q11.1 = true then ((f_X6_number q11.2 3 5 22).bind fun q13 => if q13.1 = true then ((f_X6_number q13.2 4 0 9).bind fun q15 => if q15.1 = true then (some (true, q15.2)) else (some (false, q15.2))) else (some (false, q13.2))) else (some (false, q11.2)))) else (some (false, q3.2))) else (some (false, q1.2))
def f_X6_readTest (S : MS) : Option (Bool × MS) :=
  (f_X6_who S).bind fun q1 => if q1.1 = true then ((f_X6_number q1.2 1 0 9).bind fun q3 => if q3.1 = true then ((f_X6_here q3.2).bind fun q5 => if (f_X6_in q5.1 97 122) = true then ((f_X6_readWord q5.2).bind fun q7 => if (lg_cmp q7.1 3499582) = 0 then (if (lg_cmp q7.1 3499582) = 0 then (some (true, (mA q7.2 13 2 1))) else (if (lg_cmp q7.1 191706727) = 0 then (some (true, (mA q7.2 13 2 1))) else (if (f_X6_wrong (mA q7.2 13 2 1) 1 ((mA q7.2 13 2 1).1 11)).1 = true then (some (true, (f_X6_wrong (mA q7.2 13 2 1) 1 ((mA q7.2 13 2 1).1 11)).2)) else (some (false, (f_X6_wrong (mA q7.2 13 2 1) 1 ((mA q7.2 13 2 1).1 11)).2))))) else (if (lg_cmp q7.1 3499582) = 0 then (some (true, (mA q7.2 13 2 0))) else (if (lg_cmp q7.1 191706727) = 0 then (some (true, (mA q7.2 13 2 0))) else (if (f_X6_wrong (mA q7.2 13 2 0) 1 ((mA q7.2 13 2 0).1 11)).1 = true then (some (true, (f_X6_wrong (mA q7.2 13 2 0) 1 ((mA q7.2 13 2 0).1 11)).2)) else (some (false, (f_X6_wrong (mA q7.2 13 2 0) 1 ((mA q7.2 13 2 0).1 11)).2)))))) else (some ((f_X6_wrong q5.2 1 (q5.2.1 8)).1, (f_X6_wrong q5.2 1 (q5.2.1 8)).2))) else (some (false, q3.2))) else (some (false, q1.2))
def f_X6_readRest (S : MS) (a1 : Int64) (a2 : Int32) : Option (Bool × MS) :=
  if (lg_cmp a1 678890543) = 0 then ((f_X6_number S 0 1 9).bind fun q21 => some (q21.1, q21.2)) else (if (lg_cmp a1 14006) = 0 then ((f_X6_number S 0 0 5).bind fun q15 => if q15.1 = true then (if ok (q15.2.2 13 0) 6 then if ok (q15.2.2 13 0) 6 then (f_X6_number q15.2 1 (q15.2.2 3 (q15.2.2 13 0).toNatClampNeg) (q15.2.2 4 (q15.2.2 13 0).toNatClampNeg)).bind fun q19 => if q19.1 = true then (some (true, q19.2)) else (some (false, q19.2)) else none else none) else (some (false, q15.2))) else (if (lg_cmp a1 47) = 0 then ((f_X6_number S 0 0 999).bind fun q11 => if q11.1 = true then ((f_X6_number q11.2 1 0 23).bind fun q13 => if q13.1 = true then (some (true, q13.2)) else (some (false, q13.2))) else (some (false, q11.2))) else (if (lg_cmp a1 124988) = 0 then ((f_X6_readFile S).bind fun q9 => some (q9.1, q9.2)) else (if (lg_cmp a1 397838) = 0 then ((f_X6_readTest S).bind fun q7 => some (q7.1, q7.2)) else (if (lg_cmp a1 23170575) = 0 then ((f_X6_who S).bind fun q1 => if q1.1 = true then ((f_X6_its q1.2 (q1.2.2 13 0) 7).bind fun q3 => (f_X6_number q1.2 1 0 (q3 - 1)).bind fun q5 => if q5.1 = true then (some (true, q5.2)) else (some (false, q5.2))) else (some (false, q1.2))) else (some ((f_X6_wrong S 1 a2).1, (f_X6_wrong S 1 a2).2)))))))
def f_X6_does (S : MS) (a1 : Int64) : Option (Bool × MS) :=
  if (lg_cmp a1 678890543) = 0 then (if 6 ≤ (S.2 1 2) then (some (false, S)) else ((f_X6_comes S (S.2 13 0)).bind fun q14 => if q14.1 < 0 then (some (false, q14.2)) else (some (true, q14.2)))) else (if (lg_cmp a1 14006) = 0 then (if ok (3 + (S.2 13 0)) 7737 then some (true, (mA S 1 (3 + (S.2 13 0)).toNatClampNeg (S.2 13 1))) else none) else (if (lg_cmp a1 47) = 0 then (if (f_X6_isBehind S (S.2 13 0) (S.2 13 1)) = true then ((f_X6_goesOn S (S.2 13 0) (S.2 13 1)).bind fun q11 => if q11.1 < 0 then (some (false, q11.2)) else (some (true, q11.2))) else (some (false, S))) else (if (lg_cmp a1 124988) = 0 then ((f_X6_mayFile S (S.2 13 0) (S.2 13 1) (S.2 13 3)).bind fun q7 => if q7 = true then ((f_X6_files S (S.2 13 0) (S.2 13 1) (S.2 13 2) (S.2 13 3) (S.2 13 4)).bind fun q9 => if q9.1 < 0 then (some (false, q9.2)) else (some (true, q9.2))) else (some (false, S))) else (if (lg_cmp a1 397838) = 0 then (if (S.2 13 2) = 1 then ((f_X6_tests S (S.2 13 0) (S.2 13 1) true).bind fun q5 => if q5.1 < 0 then (some (false, q5.2)) else (some (true, q5.2))) else ((f_X6_tests S (S.2 13 0) (S.2 13 1) false).bind fun q3 => if q3.1 < 0 then (some (false, q3.2)) else (some (true, q3.2)))) else ((f_X6_strikes S (S.2 13 0) (S.2 13 1)).bind fun q1 => some (q1.1, q1.2))))))
def f_X6_readStatement (S : MS) : Option (Bool × MS) :=
  (f_X6_here S).bind fun q1 => if (f_X6_in q1.1 97 122) = true then ((f_X6_readWord q1.2).bind fun q3 => (f_X6_readRest q3.2 q3.1 (q3.2.1 11)).bind fun q5 => if q5.1 = true then ((f_X6_here q5.2).bind fun q7 => if q7.1 = 59 then ((f_X6_does (mS q7.2 8 ((q7.2.1 8) + 1)) q3.1).bind fun q9 => if q9.1 = true then (some (true, q9.2)) else (if (f_X6_wrong q9.2 3 (q3.2.1 11)).1 = true then (some (true, (f_X6_wrong q9.2 3 (q3.2.1 11)).2)) else (some (false, (f_X6_wrong q9.2 3 (q3.2.1 11)).2)))) else (some ((f_X6_wrong q7.2 1 (q7.2.1 8)).1, (f_X6_wrong q7.2 1 (q7.2.1 8)).2))) else (some (false, q5.2))) else (some ((f_X6_wrong q1.2 1 (q1.2.1 8)).1, (f_X6_wrong q1.2 1 (q1.2.1 8)).2))
def l_X6_readText_15 : Nat → MS → Option (Bool × MS)
  | 0, _ => none
  | n + 1, S => (f_X6_here S).bind fun q1 => if q1.1 = (-1) then (some (true, q1.2)) else ((f_X6_readStatement q1.2).bind fun q3 => if q3.1 = true then (l_X6_readText_15 n (mS q3.2 12 ((q3.2.1 12) + 1))) else (some (false, q3.2)))
def f_X6_readText (S : MS) : Option (Bool × MS) :=
  l_X6_readText_15 fu (mS (mS (mS S 12 0) 8 0) 9 0)
def l_X6_tell_61 : Nat → MS → Int32 → Option (Int32 × MS)
  | 0, _, _ => none
  | n + 1, S, x2 => if 7737 ≤ x2 then (some ((-1), S)) else (if ok x2 7737 then if ok x2 7737 then l_X6_tell_61 n (mA S 1 x2.toNatClampNeg (S.2 2 x2.toNatClampNeg)) (x2 + 1) else none else none)
def l_X6_tell_7 : Nat → MS → Int32 → Option (Int32 × MS)
  | 0, _, _ => none
  | n + 1, S, x1 => if 7737 ≤ x1 then ((f_X6_readText S).bind fun q1 => if q1.1 = true then (some (((mS (mS q1.2 6 0) 7 ((mS q1.2 6 0).1 9)).1 12), (mS (mS q1.2 6 0) 7 ((mS q1.2 6 0).1 9)))) else (l_X6_tell_61 fu (mS (mS q1.2 6 0) 7 ((mS q1.2 6 0).1 9)) 0)) else (if ok x1 7737 then if ok x1 7737 then l_X6_tell_7 n (mA S 2 x1.toNatClampNeg (S.2 1 x1.toNatClampNeg)) (x1 + 1) else none else none)
def f_X6_tell (S : MS) : Option (Int32 × MS) :=
  l_X6_tell_7 fu (mS S 0 0) 0
def f_X6_fault (S : MS) : Int32 × MS :=
  (((mS S 0 0).1 7), (mS S 0 0))
def f_X6_dayOf (S : MS) (a1 : Int32) (a2 : Int32) : Option (Int32) :=
  (f_X6_its S a1 7).bind fun q1 => if a2 = q1 then (some (S.2 1 0)) else (if ok (f_X6_cell a1 (8 + (3 * a2))) 7737 then some (S.2 1 (f_X6_cell a1 (8 + (3 * a2))).toNatClampNeg) else none)
def l_X6_openBehind_6 (S : MS) : Nat → Int32 → Int32 → Int32 → Int32 → Int32 → Option (Int32)
  | 0, _, _, _, _, _ => none
  | n + 1, x1, x2, x3, x4, x5 => if x2 ≤ x5 then (some x4) else (if ok x5 61 then if (S.2 15 x5.toNatClampNeg) = 0 then (l_X6_openBehind_6 S n x1 x2 x3 (x4 + 0) (x5 + 1)) else ((f_X6_dayOf S x1 x5).bind fun q2 => if q2 ≤ x3 then (l_X6_openBehind_6 S n x1 x2 x3 (x4 + 0) (x5 + 1)) else (l_X6_openBehind_6 S n x1 x2 x3 (x4 + 1) (x5 + 1))) else none)
def f_X6_openBehind (S : MS) (a1 : Int32) (a2 : Int32) (a3 : Int32) : Option (Int32) :=
  l_X6_openBehind_6 S fu a1 a2 a3 0 0
def l_X6_walksBy_195 (r11 : MS → Int32 → Int32 → Int32 → Int32 → Int32 → Option (MS)) : Nat → MS → Int32 → Int32 → Int32 → Int32 → Int32 → Int32 → Option (MS)
  | 0, _, _, _, _, _, _, _ => none
  | n + 1, S, x1, x2, x3, x4, x5, x8 => if x5 < x8 then (r11 S x1 x2 x3 x4 (x5 + 1)) else (if ok x8 61 then l_X6_walksBy_195 r11 n (mA S 15 x8.toNatClampNeg (vp_nar .boolean 0)) x1 x2 x3 x4 x5 (x8 + 1) else none)
def j_X6_walksBy_109 (r11 : MS → Int32 → Int32 → Int32 → Int32 → Int32 → Option (MS)) (S : MS) (x1 : Int32) (x2 : Int32) (x3 : Int32) (x4 : Int32) (x5 : Int32) (x7 : Int32) (t0 : Int32) (t1 : Int32) : Option (MS) :=
  if ok t1 61 then if ok x5 61 then if ok x5 61 then if ok x5 61 then if ((mA (mA S 14 t1.toNatClampNeg (vp_nar .boolean t0)) 15 x5.toNatClampNeg (vp_nar .boolean ((mA S 14 t1.toNatClampNeg (vp_nar .boolean t0)).2 14 x5.toNatClampNeg))).2 14 x5.toNatClampNeg) = 0 then (r11 (mA (mA S 14 t1.toNatClampNeg (vp_nar .boolean t0)) 15 x5.toNatClampNeg (vp_nar .boolean ((mA S 14 t1.toNatClampNeg (vp_nar .boolean t0)).2 14 x5.toNatClampNeg))) x1 x2 x3 x4 (x5 + 1)) else ((f_X6_openBehind (mA (mA S 14 t1.toNatClampNeg (vp_nar .boolean t0)) 15 x5.toNatClampNeg (vp_nar .boolean ((mA S 14 t1.toNatClampNeg (vp_nar .boolean t0)).2 14 x5.toNatClampNeg))) x1 (x5 + 1) (x7 - ((mA (mA S 14 t1.toNatClampNeg (vp_nar .boolean t0)) 15 x5.toNatClampNeg (vp_nar .boolean ((mA S 14 t1.toNatClampNeg (vp_nar .boolean t0)).2 14 x5.toNatClampNeg))).2 1 3))).bind fun q7 => if ((mA (mA S 14 t1.toNatClampNeg (vp_nar .boolean t0)) 15 x5.toNatClampNeg (vp_nar .boolean ((mA S 14 t1.toNatClampNeg (vp_nar .boolean t0)).2 14 x5.toNatClampNeg))).2 1 4) ≤ q7 then (if ok ((mA (mA S 14 t1.toNatClampNeg (vp_nar .boolean t0)) 15 x5.toNatClampNeg (vp_nar .boolean ((mA S 14 t1.toNatClampNeg (vp_nar .boolean t0)).2 14 x5.toNatClampNeg))).1 17) 61 then l_X6_walksBy_195 r11 fu (mS (mA (mA (mA S 14 t1.toNatClampNeg (vp_nar .boolean t0)) 15 x5.toNatClampNeg (vp_nar .boolean ((mA S 14 t1.toNatClampNeg (vp_nar .boolean t0)).2 14 x5.toNatClampNeg))) 16 ((mA (mA S 14 t1.toNatClampNeg (vp_nar .boolean t0)) 15 x5.toNatClampNeg (vp_nar .boolean ((mA S 14 t1.toNatClampNeg (vp_nar .boolean t0)).2 14 x5.toNatClampNeg))).1 17).toNatClampNeg x7) 17 (((mA (mA (mA S 14 t1.toNatClampNeg (vp_nar .boolean t0)) 15 x5.toNatClampNeg (vp_nar .boolean ((mA S 14 t1.toNatClampNeg (vp_nar .boolean t0)).2 14 x5.toNatClampNeg))) 16 ((mA (mA S 14 t1.toNatClampNeg (vp_nar .boolean t0)) 15 x5.toNatClampNeg (vp_nar .boolean ((mA S 14 t1.toNatClampNeg (vp_nar .boolean t0)).2 14 x5.toNatClampNeg))).1 17).toNatClampNeg x7).1 17) + 1)) x1 x2 x3 x7 x5 0 else none) else (r11 (mA (mA S 14 t1.toNatClampNeg (vp_nar .boolean t0)) 15 x5.toNatClampNeg (vp_nar .boolean ((mA S 14 t1.toNatClampNeg (vp_nar .boolean t0)).2 14 x5.toNatClampNeg))) x1 x2 x3 x7 (x5 + 1))) else none else none else none else none
def j_X6_walksBy_62 (r11 : MS → Int32 → Int32 → Int32 → Int32 → Int32 → Option (MS)) (S : MS) (x1 : Int32) (x2 : Int32) (x3 : Int32) (x4 : Int32) (x5 : Int32) (t0 : Int32) : Option (MS) :=
  (f_X6_dayOf S x1 x5).bind fun q1 => if t0 = 0 then (if x4 = (-1) then (j_X6_walksBy_109 r11 S x1 x2 x3 x4 x5 q1 1 x5) else (if q1 < (x4 + (S.2 1 5)) then (j_X6_walksBy_109 r11 S x1 x2 x3 x4 x5 q1 0 x5) else (j_X6_walksBy_109 r11 S x1 x2 x3 x4 x5 q1 1 x5))) else (j_X6_walksBy_109 r11 S x1 x2 x3 x4 x5 q1 0 x5)
def l_X6_walksBy_11 : Nat → MS → Int32 → Int32 → Int32 → Int32 → Int32 → Option (MS)
  | 0, _, _, _, _, _, _ => none
  | n + 1, S, x1, x2, x3, x4, x5 => if x2 ≤ x5 then (some S) else (if x5 = x3 then (j_X6_walksBy_62 (l_X6_walksBy_11 n) S x1 x2 x3 x4 x5 1) else ((f_X6_its S x1 7).bind fun q11 => if q11 ≤ x5 then (j_X6_walksBy_62 (l_X6_walksBy_11 n) S x1 x2 x3 x4 x5 0) else (if ok (f_X6_cell x1 ((8 + (3 * x5)) + 2)) 7737 then if (S.2 1 (f_X6_cell x1 ((8 + (3 * x5)) + 2)).toNatClampNeg) = 1 then (j_X6_walksBy_62 (l_X6_walksBy_11 n) S x1 x2 x3 x4 x5 1) else (j_X6_walksBy_62 (l_X6_walksBy_11 n) S x1 x2 x3 x4 x5 0) else none)))
def f_X6_walksBy (S : MS) (a1 : Int32) (a2 : Int32) (a3 : Int32) : Option (MS) :=
  l_X6_walksBy_11 fu (mS S 17 0) a1 a2 a3 (-1) 0
def f_X6_walks (S : MS) (a1 : Int32) : Option (MS) :=
  (f_X6_its S a1 7).bind fun q1 => (f_X6_walksBy S a1 q1 (-1)).bind fun q3 => some q3
def f_X6_pointsNow (S : MS) (a1 : Int32) : Option (Int32 × MS) :=
  (f_X6_walks S a1).bind fun q1 => (f_X6_its q1 a1 7).bind fun q3 => (f_X6_openBehind q1 a1 q3 ((q1.2 1 0) - (q1.2 1 3))).bind fun q5 => some (q5, q1)
def j_X6_weightOf_25 (S : MS) (x1 : Int32) (t0 : Int32) : Option (Int32 × MS) :=
  (f_X6_its S x1 0).bind fun q5 => (f_X6_pointsNow S x1).bind fun q7 => some (((q5 * ((1 + (S.2 1 0)) - t0)) * (1 + q7.1)), q7.2)
def f_X6_weightOf (S : MS) (a1 : Int32) : Option (Int32 × MS) :=
  (f_X6_its S a1 4).bind fun q1 => if q1 = (-1) then ((f_X6_its S a1 1).bind fun q9 => j_X6_weightOf_25 S a1 q9) else ((f_X6_its S a1 4).bind fun q3 => j_X6_weightOf_25 S a1 q3)
def f_X6_latesOf (S : MS) (a1 : Int32) : Option (Int32) :=
  (f_X6_its S a1 6).bind fun q1 => if q1 = ((S.2 1 0) / 30) then ((f_X6_its S a1 5).bind fun q3 => some q3) else (some 0)
def f_X6_violationsOf (S : MS) (a1 : Int32) : Option (Int32 × MS) :=
  (f_X6_walks S a1).bind fun q1 => some ((q1.1 17), q1)
def j_X6_of_24 (S : MS) (x1 : Int32) (x2 : Int32) (t0 : Int32) : Option (Int32 × MS) :=
  if ((mS S 0 t0).1 0) ≤ 0 then (if x2 = 0 then ((f_X6_its (mS S 0 t0) x1 0).bind fun q2 => some (q2, (mS S 0 t0))) else (if x2 = 1 then ((f_X6_pointsNow (mS S 0 t0) x1).bind fun q5 => some (q5.1, q5.2)) else (if x2 = 2 then ((f_X6_its (mS S 0 t0) x1 7).bind fun q8 => some (q8, (mS S 0 t0))) else (if x2 = 3 then ((f_X6_violationsOf (mS S 0 t0) x1).bind fun q11 => some (q11.1, q11.2)) else (if x2 = 4 then ((f_X6_latesOf (mS S 0 t0) x1).bind fun q14 => some (q14, (mS S 0 t0))) else (if x2 = 5 then ((f_X6_its (mS S 0 t0) x1 2).bind fun q17 => some (q17, (mS S 0 t0))) else (if x2 = 6 then ((f_X6_its (mS S 0 t0) x1 3).bind fun q20 => some (q20, (mS S 0 t0))) else (if x2 = 7 then ((f_X6_its (mS S 0 t0) x1 4).bind fun q23 => some (q23, (mS S 0 t0))) else (if x2 = 8 then ((f_X6_weightOf (mS S 0 t0) x1).bind fun q26 => some (q26.1, q26.2)) else ((f_X6_its (mS S 0 t0) x1 1).bind fun q28 => some (q28, (mS S 0 t0)))))))))))) else (some (0, (mS S 0 t0)))
def f_X6_of (S : MS) (a1 : Int32) (a2 : Int32) : Option (Int32 × MS) :=
  if (f_X6_isAthlete S a1) = true then (if (f_X6_in a2 0 9) = true then (j_X6_of_24 S a1 a2 0) else (j_X6_of_24 S a1 a2 1)) else (j_X6_of_24 S a1 a2 1)
def f_X6_count (S : MS) (a1 : Int32) : Option (Int32 × MS) :=
  if (f_X6_in a1 10 15) = true then (if ok ((3 + a1) - 10) 7737 then some (((mS S 0 0).2 1 ((3 + a1) - 10).toNatClampNeg), (mS S 0 0)) else none) else (if a1 = 0 then (some (((mS S 0 0).2 1 2), (mS S 0 0))) else (if a1 = 1 then (some (((mS S 0 0).2 1 0), (mS S 0 0))) else (if a1 = 2 then (some (((mS S 0 0).2 1 1), (mS S 0 0))) else (if a1 = 3 then (some (((mS S 0 0).1 6), (mS S 0 0))) else (some ((-1), (mS S 0 0)))))))
def f_X6_isDay (a1 : Int32) : Bool :=
  (f_X6_in a1 0 1099)
def f_X6_filed (S : MS) (a1 : Int32) (a2 : Int32) (a3 : Int32) : Option (Int32 × MS) :=
  if (f_X6_isAthlete (mS S 0 0) a1) = true then (if (f_X6_isDay a2) = true then (if (f_X6_in a3 0 1) = true then ((f_X6_isFiled (mS S 0 0) a1 a2).bind fun q1 => if q1 = true then (if a3 = 0 then ((f_X6_hourOf (mS S 0 0) a1 a2).bind fun q5 => some (q5, (mS S 0 0))) else ((f_X6_placeOf (mS S 0 0) a1 a2).bind fun q3 => some (q3, (mS S 0 0)))) else (some ((-1), (mS S 0 0)))) else (some ((-1), (mS S 0 0)))) else (some ((-1), (mS S 0 0)))) else (some ((-1), (mS S 0 0)))
def f_X6_failure (S : MS) (a1 : Int32) (a2 : Int32) (a3 : Int32) : Option (Int32 × MS) :=
  (f_X6_isFailure (mS S 0 0) a1 a2).bind fun q1 => if q1 = true then (if (f_X6_in a3 0 4) = true then ((f_X6_walks (mS S 0 0) a1).bind fun q3 => if 3 ≤ a3 then (if a3 = 3 then (if ok a2 61 then if (q3.2 14 a2.toNatClampNeg) = 0 then (some (0, q3)) else (some (1, q3)) else none) else (if ok a2 61 then if (q3.2 15 a2.toNatClampNeg) = 0 then (some (0, q3)) else (some (1, q3)) else none)) else (if ok (f_X6_cell a1 ((8 + (3 * a2)) + a3)) 7737 then some ((q3.2 1 (f_X6_cell a1 ((8 + (3 * a2)) + a3)).toNatClampNeg), q3) else none)) else (some ((-1), (mS S 0 0)))) else (some ((-1), (mS S 0 0)))
def f_X6_violation (S : MS) (a1 : Int32) (a2 : Int32) : Option (Int32 × MS) :=
  if (f_X6_isAthlete (mS S 0 0) a1) = true then ((f_X6_walks (mS S 0 0) a1).bind fun q1 => if (f_X6_in a2 0 ((q1.1 17) - 1)) = true then (if ok a2 61 then some ((q1.2 16 a2.toNatClampNeg), q1) else none) else (some ((-1), q1))) else (some ((-1), (mS S 0 0)))
def f_X6_hole (S : MS) (a1 : Int32) (a2 : Int32) : Option (Int32 × MS) :=
  if (f_X6_isAthlete (mS S 0 0) a1) = true then (if (f_X6_in a2 0 35) = true then ((f_X6_holeOf (mS S 0 0) a1 a2).bind fun q1 => some (q1, (mS S 0 0))) else (some ((-1), (mS S 0 0)))) else (some ((-1), (mS S 0 0)))
def l_X6_sumBut_4 : Nat → MS → Int32 → Int32 → Int32 → Option (Int32 × MS)
  | 0, _, _, _, _ => none
  | n + 1, S, x1, x2, x3 => if (S.2 1 2) ≤ x3 then (some (x2, S)) else (if ((x1 >>> (x3 &&& 31)) &&& 1) = 1 then (l_X6_sumBut_4 n S x1 (x2 + 0) (x3 + 1)) else ((f_X6_weightOf S x3).bind fun q1 => l_X6_sumBut_4 n q1.2 x1 (x2 + q1.1) (x3 + 1)))
def f_X6_sumBut (S : MS) (a1 : Int32) : Option (Int32 × MS) :=
  l_X6_sumBut_4 fu S a1 0 0
def l_X6_lot_72 (r37 : MS → Int32 → Int64 → Int32 → Int32 → Int32 → Option (Int32 × MS)) : Nat → MS → Int32 → Int64 → Int32 → Int32 → Int32 → Int32 → Int32 → Option (Int32 × MS)
  | 0, _, _, _, _, _, _, _, _ => none
  | n + 1, S, x2, x3, x5, x6, x7, x8, x9 => if x8 < 0 then (r37 S x2 x3 (x5 ||| (1 <<< (x9 &&& 31))) ((10 * x6) + x9) (x7 + 1)) else (if ((x5 >>> ((x9 + 1) &&& 31)) &&& 1) = 1 then (l_X6_lot_72 r37 n S x2 x3 x5 x6 x7 (x8 - 0) (x9 + 1)) else ((f_X6_weightOf S (x9 + 1)).bind fun q4 => l_X6_lot_72 r37 n q4.2 x2 x3 x5 x6 x7 (x8 - q4.1) (x9 + 1)))
def l_X6_lot_37 : Nat → MS → Int32 → Int64 → Int32 → Int32 → Int32 → Option (Int32 × MS)
  | 0, _, _, _, _, _, _ => none
  | n + 1, S, x2, x3, x5, x6, x7 => if x2 ≤ x7 then (some (x6, S)) else ((f_X6_sumBut S x5).bind fun q1 => if ¬ q1.1.toInt64 = 0 then l_X6_lot_72 (l_X6_lot_37 n) fu q1.2 x2 (((1103515245 * x3) + 12345) - ((1103515245 * x3) + 12345) / 2147483648 * 2147483648) x5 x6 x7 (((((1103515245 * x3) + 12345) - ((1103515245 * x3) + 12345) / 2147483648 * 2147483648) - (((1103515245 * x3) + 12345) - ((1103515245 * x3) + 12345) / 2147483648 * 2147483648) / q1.1.toInt64 * q1.1.toInt64).toInt32) (-1) else none)
def f_X6_lot (S : MS) (a1 : Int32) (a2 : Int32) : Option (Int32 × MS) :=
  if a1 < 0 then (some ((-1), (mS S 0 0))) else (if (f_X6_in a2 1 ((mS S 0 0).2 1 2)) = true then (l_X6_lot_37 fu (mS S 0 0) a2 a1.toInt64 0 0 0) else (some ((-1), (mS S 0 0))))
def l_X6_divisor_4 : Nat → Int32 → Int32 → Option (Int32)
  | 0, _, _ => none
  | n + 1, x2, x3 => if x3 = 0 then (some x2) else (if ¬ x3 = 0 then l_X6_divisor_4 n x3 (x2 - x2 / x3 * x3) else none)
def f_X6_divisor (a1 : Int32) (a2 : Int32) : Option (Int32) :=
  l_X6_divisor_4 fu a1 a2
def f_X6_chance (S : MS) (a1 : Int32) (a2 : Bool) : Option (Int32 × MS) :=
  if (f_X6_isAthlete (mS S 0 0) a1) = true then ((f_X6_weightOf (mS S 0 0) a1).bind fun q1 => (f_X6_sumBut q1.2 0).bind fun q3 => (f_X6_divisor q1.1 q3.1).bind fun q5 => if a2 = true then (if ¬ q5 = 0 then some ((q3.1 / q5), q3.2) else none) else (if ¬ q5 = 0 then some ((q1.1 / q5), q3.2) else none)) else (some ((-1), (mS S 0 0)))
def l_X6_thereAt_6 (S : MS) : Nat → Int32 → Int32 → Int32 → Int32 → Int32 → Option (Int32)
  | 0, _, _, _, _, _ => none
  | n + 1, x1, x2, x3, x4, x5 => if (S.2 1 2) ≤ x5 then (some x4) else ((f_X6_its S x5 (188 + x1)).bind fun q1 => if q1 = (((10 * x2) + x3) + 1) then (l_X6_thereAt_6 S n x1 x2 x3 (x4 ||| (1 <<< (x5 &&& 31))) (x5 + 1)) else (l_X6_thereAt_6 S n x1 x2 x3 (x4 ||| 0) (x5 + 1)))
def f_X6_thereAt (S : MS) (a1 : Int32) (a2 : Int32) (a3 : Int32) : Option (Int32) :=
  l_X6_thereAt_6 S fu a1 a2 a3 0 0
def l_X6_bits_4 : Nat → Int32 → Int32 → Option (Int32)
  | 0, _, _ => none
  | n + 1, x1, x2 => if x2 = 0 then (some x1) else (l_X6_bits_4 n (x1 + 1) (x2 &&& (x2 - 1)))
def f_X6_bits (a1 : Int32) : Option (Int32) :=
  l_X6_bits_4 fu 0 a1
def l_X6_bestPlace_8 (S : MS) : Nat → Int32 → Int32 → Int32 → Int32 → Int32 → Option (Int32)
  | 0, _, _, _, _, _ => none
  | n + 1, x1, x2, x3, x4, x5 => if 10 ≤ x5 then (some x3) else ((f_X6_thereAt S x1 x2 x5).bind fun q1 => (f_X6_bits q1).bind fun q3 => if q3 ≤ x4 then (if q3 ≤ x4 then (l_X6_bestPlace_8 S n x1 x2 x3 x4 (x5 + 1)) else (l_X6_bestPlace_8 S n x1 x2 x3 q3 (x5 + 1))) else (if q3 ≤ x4 then (l_X6_bestPlace_8 S n x1 x2 x5 x4 (x5 + 1)) else (l_X6_bestPlace_8 S n x1 x2 x5 q3 (x5 + 1))))
def f_X6_bestPlace (S : MS) (a1 : Int32) (a2 : Int32) : Option (Int32) :=
  l_X6_bestPlace_8 S fu a1 a2 (-1) 0 0
def l_X6_round_81 : Nat → MS → Int32 → Int32 → Int32 → Int32 → Option (Int32 × MS)
  | 0, _, _, _, _, _ => none
  | n + 1, S, x1, x3, x4, x5 => if 22 < x5 then (some (x4, S)) else ((f_X6_bestPlace S x1 x5).bind fun q1 => if q1 = (-1) then (l_X6_round_81 n S x1 x3 (x4 + 0) (x5 + 1)) else (if x3 = 0 then (l_X6_round_81 n S x1 x3 (x4 + 1) (x5 + 1)) else ((f_X6_thereAt S x1 x5 q1).bind fun q3 => (f_X6_bits q3).bind fun q5 => l_X6_round_81 n S x1 x3 (x4 + q5) (x5 + 1))))
def j_X6_round_38 (S : MS) (x1 : Int32) (x2 : Int32) (x3 : Int32) : Option (Int32 × MS) :=
  if x2 = (-1) then (l_X6_round_81 fu S x1 x3 0 5) else ((f_X6_bestPlace S x1 x2).bind fun q7 => if q7 = (-1) then (some (q7, S)) else (if x3 = 0 then (some (q7, S)) else ((f_X6_thereAt S x1 x2 q7).bind fun q9 => some (q9, S))))
def f_X6_round (S : MS) (a1 : Int32) (a2 : Int32) (a3 : Int32) : Option (Int32 × MS) :=
  if (f_X6_isDay a1) = true then (if (f_X6_in a3 0 1) = true then (if a2 = (-1) then (j_X6_round_38 (mS S 0 0) a1 a2 a3) else (if (f_X6_in a2 5 22) = true then (j_X6_round_38 (mS S 0 0) a1 a2 a3) else (some ((-1), (mS S 0 0))))) else (some ((-1), (mS S 0 0)))) else (some ((-1), (mS S 0 0)))
def f_X6_there (S : MS) (a1 : Int32) (a2 : Int32) (a3 : Int32) : Option (Int32 × MS) :=
  if (f_X6_isDay a1) = true then (if (f_X6_in a2 5 22) = true then (if (f_X6_in a3 0 9) = true then ((f_X6_thereAt (mS S 0 0) a1 a2 a3).bind fun q1 => some (q1, (mS S 0 0))) else (some ((-1), (mS S 0 0)))) else (some ((-1), (mS S 0 0)))) else (some ((-1), (mS S 0 0)))
def f_X6_danger (S : MS) (a1 : Int32) : Option (Int32 × MS) :=
  if (f_X6_isAthlete (mS S 0 0) a1) = true then ((f_X6_its (mS S 0 0) a1 7).bind fun q1 => (f_X6_violationsOf (mS S 0 0) a1).bind fun q3 => (f_X6_walksBy q3.2 a1 (q1 + 1) (-1)).bind fun q5 => if (q5.1 17) ≤ q3.1 then (some (0, q5)) else (some (1, q5))) else (some ((-1), (mS S 0 0)))
def l_X6_easier_22 : Nat → MS → Int32 → Int32 → Option (Int32 × MS)
  | 0, _, _, _ => none
  | n + 1, S, x1, x2 => (f_X6_its S x1 7).bind fun q3 => if q3 ≤ x2 then (some ((-1), S)) else (if ok x2 61 then if (S.2 15 x2.toNatClampNeg) = 0 then (l_X6_easier_22 n S x1 (x2 + 1)) else ((f_X6_dayOf S x1 x2).bind fun q6 => if q6 ≤ ((S.2 1 0) - (S.2 1 3)) then (l_X6_easier_22 n S x1 (x2 + 1)) else ((f_X6_dayOf S x1 x2).bind fun q8 => some ((q8 + (S.2 1 3)), S))) else none)
def f_X6_easier (S : MS) (a1 : Int32) : Option (Int32 × MS) :=
  if (f_X6_isAthlete (mS S 0 0) a1) = true then ((f_X6_walks (mS S 0 0) a1).bind fun q1 => l_X6_easier_22 fu q1 a1 0) else (some ((-1), (mS S 0 0)))
def f_X6_without (S : MS) (a1 : Int32) (a2 : Int32) : Option (Int32 × MS) :=
  (f_X6_isFailure (mS S 0 0) a1 a2).bind fun q1 => if q1 = true then ((f_X6_its (mS S 0 0) a1 7).bind fun q3 => (f_X6_walksBy (mS S 0 0) a1 q3 a2).bind fun q5 => some ((q5.1 17), q5)) else (some ((-1), (mS S 0 0)))
def f_X6_isWorse (S : MS) (a1 : Int32) (a2 : Int32) : Option (Bool × MS) :=
  (f_X6_violationsOf S a1).bind fun q1 => (f_X6_violationsOf q1.2 a2).bind fun q3 => if (q1.1 - q3.1) = 0 then ((f_X6_pointsNow q3.2 a1).bind fun q9 => (f_X6_pointsNow q9.2 a2).bind fun q11 => if (q9.1 - q11.1) = 0 then ((f_X6_its q11.2 a1 7).bind fun q13 => (f_X6_its q11.2 a2 7).bind fun q15 => if (q13 - q15) ≤ 0 then (some (false, q11.2)) else (some (true, q11.2))) else (if (q9.1 - q11.1) ≤ 0 then (some (false, q11.2)) else (some (true, q11.2)))) else (if (q1.1 - q3.1) = 0 then ((f_X6_its q3.2 a1 7).bind fun q5 => (f_X6_its q3.2 a2 7).bind fun q7 => if (q5 - q7) ≤ 0 then (some (false, q3.2)) else (some (true, q3.2))) else (if (q1.1 - q3.1) ≤ 0 then (some (false, q3.2)) else (some (true, q3.2))))
def l_X6_worst_22 : Nat → MS → Int32 → Int32 → Option (Int32 × MS)
  | 0, _, _, _ => none
  | n + 1, S, x1, x2 => if (S.2 1 2) ≤ x2 then (some (x1, S)) else ((f_X6_isWorse S x2 x1).bind fun q1 => if q1.1 = true then (l_X6_worst_22 n q1.2 x2 (x2 + 1)) else (l_X6_worst_22 n q1.2 x1 (x2 + 1)))
def f_X6_worst (S : MS) : Option (Int32 × MS) :=
  if ((mS S 0 0).2 1 2) = 0 then (l_X6_worst_22 fu (mS S 0 0) (-1) 1) else (l_X6_worst_22 fu (mS S 0 0) 0 1)
