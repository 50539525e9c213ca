set_option maxHeartbeats 4000000 in
set_option maxRecDepth 100000 in
theorem w_J6_bitCount_0f7a4 (B : CB) (sa : Nat → Nat) (h : Nat → Bool) (lk : Nat × Nat) (hw : cWf h lk) (K : Ctx) (F : Fx K cJ6_bitCount_0f7a4 RJ6 (cKf B (kA K)) 0 0) (hn : kn K = 1) (S : CS) (a1 : Int32) (q : Int32) (hf : f_J6_bitCount_0f7a4 a1 = q) (hR : ∀ (pc : Nat) (lv : List (Nat × Value)), decode cJ6_bitCount_0f7a4 pc = .ok (.ireturn, 1) → G K (cX B (kA K) sa h lk) 0 0 pc S lv [.int q]) : G K (cX B (kA K) sa h lk) 0 0 0 S [(0, .int a1)] [] := by
  have hok := cKf_ok B (kA K)
  unfold f_J6_bitCount_0f7a4 at hf
  refine g_iload_n 1 0 F dJ6_bitCount_0f7a4_0 rfl rfl ?_
  refine g_iload_n 2 0 F dJ6_bitCount_0f7a4_1 rfl rfl ?_
  refine g_iconst 3 (v := 1) F dJ6_bitCount_0f7a4_2 (by decide) rfl ?_
  refine g_iushr 4 F dJ6_bitCount_0f7a4_3 rfl ?_
  refine g_ldcw 7 F cn_J6_265 dJ6_bitCount_0f7a4_4 rfl ?_
  refine g_iand 8 F dJ6_bitCount_0f7a4_7 rfl ?_
  refine g_isub 9 F dJ6_bitCount_0f7a4_8 rfl ?_
  refine g_istore_n 10 [(0, .int (a1 - ((a1.toUInt32 >>> (Int32.toUInt32 1 &&& Int32.toUInt32 31)).toInt32 &&& 1431655765)))] F dJ6_bitCount_0f7a4_9 (lt_kn hn (by decide)) rfl rfl ?_
  refine g_iload_n 11 0 F dJ6_bitCount_0f7a4_10 rfl rfl ?_
  refine g_ldcw 14 F cn_J6_266 dJ6_bitCount_0f7a4_11 rfl ?_
  refine g_iand 15 F dJ6_bitCount_0f7a4_14 rfl ?_
  refine g_iload_n 16 0 F dJ6_bitCount_0f7a4_15 rfl rfl ?_
  refine g_iconst 17 (v := 2) F dJ6_bitCount_0f7a4_16 (by decide) rfl ?_
  refine g_iushr 18 F dJ6_bitCount_0f7a4_17 rfl ?_
  refine g_ldcw 21 F cn_J6_266 dJ6_bitCount_0f7a4_18 rfl ?_
  refine g_iand 22 F dJ6_bitCount_0f7a4_21 rfl ?_
  refine g_iadd 23 F dJ6_bitCount_0f7a4_22 rfl ?_
  refine g_istore_n 24 [(0, .int (((a1 - ((a1.toUInt32 >>> (Int32.toUInt32 1 &&& Int32.toUInt32 31)).toInt32 &&& 1431655765)) &&& 858993459) + (((a1 - ((a1.toUInt32 >>> (Int32.toUInt32 1 &&& Int32.toUInt32 31)).toInt32 &&& 1431655765)).toUInt32 >>> (Int32.toUInt32 2 &&& Int32.toUInt32 31)).toInt32 &&& 858993459)))] F dJ6_bitCount_0f7a4_23 (lt_kn hn (by decide)) rfl rfl ?_
  refine g_iload_n 25 0 F dJ6_bitCount_0f7a4_24 rfl rfl ?_
  refine g_iload_n 26 0 F dJ6_bitCount_0f7a4_25 rfl rfl ?_
  refine g_iconst 27 (v := 4) F dJ6_bitCount_0f7a4_26 (by decide) rfl ?_
  refine g_iushr 28 F dJ6_bitCount_0f7a4_27 rfl ?_
  refine g_iadd 29 F dJ6_bitCount_0f7a4_28 rfl ?_
  refine g_ldcw 32 F cn_J6_267 dJ6_bitCount_0f7a4_29 rfl ?_
  refine g_iand 33 F dJ6_bitCount_0f7a4_32 rfl ?_
  refine g_istore_n 34 [(0, .int (((((a1 - ((a1.toUInt32 >>> (Int32.toUInt32 1 &&& Int32.toUInt32 31)).toInt32 &&& 1431655765)) &&& 858993459) + (((a1 - ((a1.toUInt32 >>> (Int32.toUInt32 1 &&& Int32.toUInt32 31)).toInt32 &&& 1431655765)).toUInt32 >>> (Int32.toUInt32 2 &&& Int32.toUInt32 31)).toInt32 &&& 858993459)) + ((((a1 - ((a1.toUInt32 >>> (Int32.toUInt32 1 &&& Int32.toUInt32 31)).toInt32 &&& 1431655765)) &&& 858993459) + (((a1 - ((a1.toUInt32 >>> (Int32.toUInt32 1 &&& Int32.toUInt32 31)).toInt32 &&& 1431655765)).toUInt32 >>> (Int32.toUInt32 2 &&& Int32.toUInt32 31)).toInt32 &&& 858993459)).toUInt32 >>> (Int32.toUInt32 4 &&& Int32.toUInt32 31)).toInt32) &&& 252645135))] F dJ6_bitCount_0f7a4_33 (lt_kn hn (by decide)) rfl rfl ?_
  refine g_iload_n 35 0 F dJ6_bitCount_0f7a4_34 rfl rfl ?_
  refine g_iload_n 36 0 F dJ6_bitCount_0f7a4_35 rfl rfl ?_
  refine g_bipush 38 (v := 8) F dJ6_bitCount_0f7a4_36 (by decide) rfl ?_
  refine g_iushr 39 F dJ6_bitCount_0f7a4_38 rfl ?_
  refine g_iadd 40 F dJ6_bitCount_0f7a4_39 rfl ?_
  refine g_istore_n 41 [(0, .int ((((((a1 - ((a1.toUInt32 >>> (Int32.toUInt32 1 &&& Int32.toUInt32 31)).toInt32 &&& 1431655765)) &&& 858993459) + (((a1 - ((a1.toUInt32 >>> (Int32.toUInt32 1 &&& Int32.toUInt32 31)).toInt32 &&& 1431655765)).toUInt32 >>> (Int32.toUInt32 2 &&& Int32.toUInt32 31)).toInt32 &&& 858993459)) + ((((a1 - ((a1.toUInt32 >>> (Int32.toUInt32 1 &&& Int32.toUInt32 31)).toInt32 &&& 1431655765)) &&& 858993459) + (((a1 - ((a1.toUInt32 >>> (Int32.toUInt32 1 &&& Int32.toUInt32 31)).toInt32 &&& 1431655765)).toUInt32 >>> (Int32.toUInt32 2 &&& Int32.toUInt32 31)).toInt32 &&& 858993459)).toUInt32 >>> (Int32.toUInt32 4 &&& Int32.toUInt32 31)).toInt32) &&& 252645135) + ((((((a1 - ((a1.toUInt32 >>> (Int32.toUInt32 1 &&& Int32.toUInt32 31)).toInt32 &&& 1431655765)) &&& 858993459) + (((a1 - ((a1.toUInt32 >>> (Int32.toUInt32 1 &&& Int32.toUInt32 31)).toInt32 &&& 1431655765)).toUInt32 >>> (Int32.toUInt32 2 &&& Int32.toUInt32 31)).toInt32 &&& 858993459)) + ((((a1 - ((a1.toUInt32 >>> (Int32.toUInt32 1 &&& Int32.toUInt32 31)).toInt32 &&& 1431655765)) &&& 858993459) + (((a1 - ((a1.toUInt32 >>> (Int32.toUInt32 1 &&& Int32.toUInt32 31)).toInt32 &&& 1431655765)).toUInt32 >>> (Int32.toUInt32 2 &&& Int32.toUInt32 31)).toInt32 &&& 858993459)).toUInt32 >>> (Int32.toUInt32 4 &&& Int32.toUInt32 31)).toInt32) &&& 252645135).toUInt32 >>> (Int32.toUInt32 8 &&& Int32.toUInt32 31)).toInt32))] F dJ6_bitCount_0f7a4_40 (lt_kn hn (by decide)) rfl rfl ?_
  refine g_iload_n 42 0 F dJ6_bitCount_0f7a4_41 rfl rfl ?_
  refine g_iload_n 43 0 F dJ6_bitCount_0f7a4_42 rfl rfl ?_
  refine g_bipush 45 (v := 16) F dJ6_bitCount_0f7a4_43 (by decide) rfl ?_
  refine g_iushr 46 F dJ6_bitCount_0f7a4_45 rfl ?_
  refine g_iadd 47 F dJ6_bitCount_0f7a4_46 rfl ?_
  refine g_istore_n 48 [(0, .int (((((((a1 - ((a1.toUInt32 >>> (Int32.toUInt32 1 &&& Int32.toUInt32 31)).toInt32 &&& 1431655765)) &&& 858993459) + (((a1 - ((a1.toUInt32 >>> (Int32.toUInt32 1 &&& Int32.toUInt32 31)).toInt32 &&& 1431655765)).toUInt32 >>> (Int32.toUInt32 2 &&& Int32.toUInt32 31)).toInt32 &&& 858993459)) + ((((a1 - ((a1.toUInt32 >>> (Int32.toUInt32 1 &&& Int32.toUInt32 31)).toInt32 &&& 1431655765)) &&& 858993459) + (((a1 - ((a1.toUInt32 >>> (Int32.toUInt32 1 &&& Int32.toUInt32 31)).toInt32 &&& 1431655765)).toUInt32 >>> (Int32.toUInt32 2 &&& Int32.toUInt32 31)).toInt32 &&& 858993459)).toUInt32 >>> (Int32.toUInt32 4 &&& Int32.toUInt32 31)).toInt32) &&& 252645135) + ((((((a1 - ((a1.toUInt32 >>> (Int32.toUInt32 1 &&& Int32.toUInt32 31)).toInt32 &&& 1431655765)) &&& 858993459) + (((a1 - ((a1.toUInt32 >>> (Int32.toUInt32 1 &&& Int32.toUInt32 31)).toInt32 &&& 1431655765)).toUInt32 >>> (Int32.toUInt32 2 &&& Int32.toUInt32 31)).toInt32 &&& 858993459)) + ((((a1 - ((a1.toUInt32 >>> (Int32.toUInt32 1 &&& Int32.toUInt32 31)).toInt32 &&& 1431655765)) &&& 858993459) + (((a1 - ((a1.toUInt32 >>> (Int32.toUInt32 1 &&& Int32.toUInt32 31)).toInt32 &&& 1431655765)).toUInt32 >>> (Int32.toUInt32 2 &&& Int32.toUInt32 31)).toInt32 &&& 858993459)).toUInt32 >>> (Int32.toUInt32 4 &&& Int32.toUInt32 31)).toInt32) &&& 252645135).toUInt32 >>> (Int32.toUInt32 8 &&& Int32.toUInt32 31)).toInt32) + (((((((a1 - ((a1.toUInt32 >>> (Int32.toUInt32 1 &&& Int32.toUInt32 31)).toInt32 &&& 1431655765)) &&& 858993459) + (((a1 - ((a1.toUInt32 >>> (Int32.toUInt32 1 &&& Int32.toUInt32 31)).toInt32 &&& 1431655765)).toUInt32 >>> (Int32.toUInt32 2 &&& Int32.toUInt32 31)).toInt32 &&& 858993459)) + ((((a1 - ((a1.toUInt32 >>> (Int32.toUInt32 1 &&& Int32.toUInt32 31)).toInt32 &&& 1431655765)) &&& 858993459) + (((a1 - ((a1.toUInt32 >>> (Int32.toUInt32 1 &&& Int32.toUInt32 31)).toInt32 &&& 1431655765)).toUInt32 >>> (Int32.toUInt32 2 &&& Int32.toUInt32 31)).toInt32 &&& 858993459)).toUInt32 >>> (Int32.toUInt32 4 &&& Int32.toUInt32 31)).toInt32) &&& 252645135) + ((((((a1 - ((a1.toUInt32 >>> (Int32.toUInt32 1 &&& Int32.toUInt32 31)).toInt32 &&& 1431655765)) &&& 858993459) + (((a1 - ((a1.toUInt32 >>> (Int32.toUInt32 1 &&& Int32.toUInt32 31)).toInt32 &&& 1431655765)).toUInt32 >>> (Int32.toUInt32 2 &&& Int32.toUInt32 31)).toInt32 &&& 858993459)) + ((((a1 - ((a1.toUInt32 >>> (Int32.toUInt32 1 &&& Int32.toUInt32 31)).toInt32 &&& 1431655765)) &&& 858993459) + (((a1 - ((a1.toUInt32 >>> (Int32.toUInt32 1 &&& Int32.toUInt32 31)).toInt32 &&& 1431655765)).toUInt32 >>> (Int32.toUInt32 2 &&& Int32.toUInt32 31)).toInt32 &&& 858993459)).toUInt32 >>> (Int32.toUInt32 4 &&& Int32.toUInt32 31)).toInt32) &&& 252645135).toUInt32 >>> (Int32.toUInt32 8 &&& Int32.toUInt32 31)).toInt32).toUInt32 >>> (Int32.toUInt32 16 &&& Int32.toUInt32 31)).toInt32))] F dJ6_bitCount_0f7a4_47 (lt_kn hn (by decide)) rfl rfl ?_
  refine g_iload_n 49 0 F dJ6_bitCount_0f7a4_48 rfl rfl ?_
  refine g_bipush 51 (v := 63) F dJ6_bitCount_0f7a4_49 (by decide) rfl ?_
  refine g_iand 52 F dJ6_bitCount_0f7a4_51 rfl ?_
  subst hf
  exact hR _ _ dJ6_bitCount_0f7a4_52
theorem c_J6_bitCount_0f7a4 (l : Launch) (B : CB) (sa : Nat → Nat) (h : Nat → Bool) (lk : Nat × Nat) (hw : cWf h lk) (A : Nat → Prop) (S : CS) (a1 : Int32) (q : Int32) (hf : f_J6_bitCount_0f7a4 a1 = q) : Ci l yJ6_bitCount_0f7a4 cJ6_bitCount_0f7a4 1 (some .int) 0 0 (cX B A sa h lk) (cKf B A) A S [.int a1] q S := by
  refine met_i (by decide +kernel) (Nat.le_of_ble_eq_true rfl) (fun K hl hA hn F hR => ?_)
  subst hl; subst hA
  exact w_J6_bitCount_0f7a4 B sa h lk hw K F hn S a1 q hf hR
set_option maxHeartbeats 4000000 in
set_option maxRecDepth 100000 in
theorem w_X0_fullestPlace (B : CB) (sa : Nat → Nat) (h : Nat → Bool) (lk : Nat × Nat) (hw : cWf h lk) (K : Ctx) (F : Fx K cX0_fullestPlace RX0 (cKf B (kA K)) 2 48) (hn : kn K = 7) (S : CS) (r : Nat) (a1 : Int32) (a2 : Int32) (hr : r < 2) (q : Int32) (hf : f_X0_fullestPlace h S r a1 a2 = some q) (hR : ∀ (pc : Nat) (lv : List (Nat × Value)), decode cX0_fullestPlace pc = .ok (.ireturn, 1) → G K (cX B (kA K) sa h lk) 0 0 pc S lv [.int q]) : G K (cX B (kA K) sa h lk) 0 0 0 S [(0, .ref (cAf B (1 + r))), (1, .int a1), (2, .int a2)] [] := by
  have hok := cKf_ok B (kA K)
  have L_8 : ∀ (n : Nat) (x1 : Int32) (x2 : Int32) (x3 : Int32) (x4 : Int32) (x5 : Int32), l_X0_fullestPlace_8 h r S n x1 x2 x3 x4 x5 = some q → G K (cX B (kA K) sa h lk) 0 0 8 S [(0, .ref (cAf B (1 + r))), (1, .int x1), (2, .int x2), (3, .int x3), (4, .int x4), (5, .int x5)] [] := by
    intro n
    induction n with
    | zero =>
      intro x1 x2 x3 x4 x5 hf
      rw [l_X0_fullestPlace_8] at hf
      cases hf
    | succ n ih =>
      intro x1 x2 x3 x4 x5 hf
      rw [l_X0_fullestPlace_8] at hf
      refine g_iload 10 5 F dX0_fullestPlace_8 rfl rfl ?_
      refine g_bipush 12 (v := 10) F dX0_fullestPlace_10 (by decide) rfl ?_
      refine g_icmp_ge 48 15 F dX0_fullestPlace_12 rfl rfl hf (fun _ hf => ?_) (fun _ hf => ?_)
      · refine g_iload_n 49 3 F dX0_fullestPlace_48 rfl rfl ?_
        obtain rfl := Option.some.inj hf
        exact hR _ _ dX0_fullestPlace_49
      · refine g_aload_n 16 0 F dX0_fullestPlace_15 rfl rfl ?_
        refine g_iload_n 17 1 F dX0_fullestPlace_16 rfl rfl ?_
        refine g_iload_n 18 2 F dX0_fullestPlace_17 rfl rfl ?_
        refine g_iload 20 5 F dX0_fullestPlace_18 rfl rfl ?_
        obtain ⟨q1, e2, hf⟩ := op_bd hf
        refine g_cVi 23 (st := []) F hok (c_X0_bitsOfThose (kl K) B sa h lk hw (kA K) S r x1 x2 x5 hr q1 e2) wy_X0_bitsOfThose ml_X0_146 (c_rc_X0 F hr) ⟨Nat.le_of_ble_eq_true rfl, Nat.le_of_ble_eq_true rfl⟩ rfl rfl (Nat.le_of_ble_eq_true rfl) ⟨Nat.zero_le _, Nat.zero_le _⟩ dX0_fullestPlace_20 rfl ?_
        refine g_cSi 26 (st := []) F hok (c_J6_bitCount_0f7a4 (kl K) B sa h lk hw (kA K) S q1 _ rfl) ws_J6_bitCount_0f7a4 ml_X0_150 ⟨Nat.le_of_ble_eq_true rfl, Nat.le_of_ble_eq_true rfl⟩ rfl rfl (Nat.le_of_ble_eq_true rfl) ⟨Nat.zero_le _, Nat.zero_le _⟩ dX0_fullestPlace_23 rfl ?_
        refine g_istore 28 [(6, .int (f_J6_bitCount_0f7a4 q1)), (0, .ref (cAf B (1 + r))), (1, .int x1), (2, .int x2), (3, .int x3), (4, .int x4), (5, .int x5)] F dX0_fullestPlace_26 (lt_kn hn (by decide)) rfl rfl ?_
        refine g_iload 30 0 F dX0_fullestPlace_28 rfl rfl ?_
        refine g_iload 32 5 F dX0_fullestPlace_30 rfl rfl ?_
        refine g_icmp_le 42 35 F dX0_fullestPlace_32 rfl rfl hf (fun _ hf => ?_) (fun _ hf => ?_)
        · refine g_iinc 45 6 (x5 + 1) [(5, .int (x5 + 1)), (6, .int (f_J6_bitCount_0f7a4 q1)), (0, .ref (cAf B (1 + r))), (1, .int x1), (2, .int x2), (3, .int x3), (4, .int x4)] F dX0_fullestPlace_42 rfl rfl (lt_kn hn (by decide)) rfl rfl ?_
          refine g_goto 8 F dX0_fullestPlace_45 rfl ?_
          exact G.lvs [2, 3, 4, 5, 6, 0] rfl (ih x1 x2 x3 x4 (x5 + 1) hf)
        · refine g_iload 37 0 F dX0_fullestPlace_35 rfl rfl ?_
          refine g_istore 39 [(4, .int (f_J6_bitCount_0f7a4 q1)), (6, .int (f_J6_bitCount_0f7a4 q1)), (0, .ref (cAf B (1 + r))), (1, .int x1), (2, .int x2), (3, .int x3), (5, .int x5)] F dX0_fullestPlace_37 (lt_kn hn (by decide)) rfl rfl ?_
          refine g_iload 41 6 F dX0_fullestPlace_39 rfl rfl ?_
          refine g_istore_n 42 [(3, .int x5), (4, .int (f_J6_bitCount_0f7a4 q1)), (6, .int (f_J6_bitCount_0f7a4 q1)), (0, .ref (cAf B (1 + r))), (1, .int x1), (2, .int x2), (5, .int x5)] F dX0_fullestPlace_41 (lt_kn hn (by decide)) rfl rfl ?_
          refine g_iinc 45 6 (x5 + 1) [(5, .int (x5 + 1)), (3, .int x5), (4, .int (f_J6_bitCount_0f7a4 q1)), (6, .int (f_J6_bitCount_0f7a4 q1)), (0, .ref (cAf B (1 + r))), (1, .int x1), (2, .int x2)] F dX0_fullestPlace_42 rfl rfl (lt_kn hn (by decide)) rfl rfl ?_
          refine g_goto 8 F dX0_fullestPlace_45 rfl ?_
          exact G.lvs [4, 5, 6, 1, 2, 0] rfl (ih x1 x2 x5 (f_J6_bitCount_0f7a4 q1) (x5 + 1) hf)
  unfold f_X0_fullestPlace at hf
  refine g_iconst 1 (v := (-1)) F dX0_fullestPlace_0 (by decide) rfl ?_
  refine g_istore_n 2 [(3, .int (-1)), (0, .ref (cAf B (1 + r))), (1, .int a1), (2, .int a2)] F dX0_fullestPlace_1 (lt_kn hn (by decide)) rfl rfl ?_
  refine g_iconst 3 (v := 0) F dX0_fullestPlace_2 (by decide) rfl ?_
  refine g_istore 5 [(4, .int 0), (3, .int (-1)), (0, .ref (cAf B (1 + r))), (1, .int a1), (2, .int a2)] F dX0_fullestPlace_3 (lt_kn hn (by decide)) rfl rfl ?_
  refine g_iconst 6 (v := 0) F dX0_fullestPlace_5 (by decide) rfl ?_
  refine g_istore 8 [(5, .int 0), (4, .int 0), (3, .int (-1)), (0, .ref (cAf B (1 + r))), (1, .int a1), (2, .int a2)] F dX0_fullestPlace_6 (lt_kn hn (by decide)) rfl rfl ?_
  exact G.lvs [3, 4, 5, 2, 1, 0] rfl (L_8 fu a1 a2 (-1) 0 0 hf)
theorem c_X0_fullestPlace (l : Launch) (B : CB) (sa : Nat → Nat) (h : Nat → Bool) (lk : Nat × Nat) (hw : cWf h lk) (A : Nat → Prop) (S : CS) (r : Nat) (a1 : Int32) (a2 : Int32) (hr : r < 2) (q : Int32) (hf : f_X0_fullestPlace h S r a1 a2 = some q) : Ci l yX0_fullestPlace cX0_fullestPlace 7 (some .int) 2 48 (cX B A sa h lk) (cKf B A) A S [.ref (cAf B (1 + r)), .int a1, .int a2] q S := by
  refine met_i (by decide +kernel) (Nat.le_of_ble_eq_true rfl) (fun K hl hA hn F hR => ?_)
  subst hl; subst hA
  exact w_X0_fullestPlace B sa h lk hw K F hn S r a1 a2 hr q hf hR
set_option maxHeartbeats 4000000 in
set_option maxRecDepth 100000 in
theorem w_X1_placeOf (B : CB) (sa : Nat → Nat) (h : Nat → Bool) (lk : Nat × Nat) (hw : cWf h lk) (K : Ctx) (F : Fx K cX1_placeOf RX1 (cKf B (kA K)) 0 0) (hn : kn K = 1) (S : CS) (a1 : Int32) (q : Int32) (hf : f_X1_placeOf a1 = q) (hR : ∀ (pc : Nat) (lv : List (Nat × Value)), decode cX1_placeOf pc = .ok (.ireturn, 1) → G K (cX B (kA K) sa h lk) 0 0 pc S lv [.int q]) : G K (cX B (kA K) sa h lk) 0 0 0 S [(0, .int a1)] [] := by
  have hok := cKf_ok B (kA K)
  unfold f_X1_placeOf at hf
  refine g_iload_n 1 0 F dX1_placeOf_0 rfl rfl ?_
  refine g_iconst 2 (v := 1) F dX1_placeOf_1 (by decide) rfl ?_
  refine g_isub 3 F dX1_placeOf_2 rfl ?_
  refine g_bipush 5 (v := 10) F dX1_placeOf_3 (by decide) rfl ?_
  refine g_irem 6 F dX1_placeOf_5 (by decide) rfl ?_
  subst hf
  exact hR _ _ dX1_placeOf_6
theorem c_X1_placeOf (l : Launch) (B : CB) (sa : Nat → Nat) (h : Nat → Bool) (lk : Nat × Nat) (hw : cWf h lk) (A : Nat → Prop) (S : CS) (a1 : Int32) (q : Int32) (hf : f_X1_placeOf a1 = q) : Ci l yX1_placeOf cX1_placeOf 1 (some .int) 0 0 (cX B A sa h lk) (cKf B A) A S [.int a1] q S := by
  refine met_i (by decide +kernel) (Nat.le_of_ble_eq_true rfl) (fun K hl hA hn F hR => ?_)
  subst hl; subst hA
  exact w_X1_placeOf B sa h lk hw K F hn S a1 q hf hR
set_option maxHeartbeats 4000000 in
set_option maxRecDepth 100000 in
theorem w_J7_fill_53178 (B : CB) (sa : Nat → Nat) (h : Nat → Bool) (lk : Nat × Nat) (hw : cWf h lk) (K : Ctx) (F : Fx K cJ7_fill_53178 RJ7 (cKf B (kA K)) 0 0) (hn : kn K = 4) (S : CS) (j : Nat) (a2 : Int32) (hj : h j = true) (q : CS) (hf : f_J7_fill_53178 S j a2 = some q) (hR : ∀ (pc : Nat) (lv : List (Nat × Value)), decode cJ7_fill_53178 pc = .ok (.return_, 1) → G K (cX B (kA K) sa h lk) 0 0 pc q lv []) : G K (cX B (kA K) sa h lk) 0 0 0 S [(0, .ref (sa (5 * j + 4))), (1, .int a2)] [] := by
  have hok := cKf_ok B (kA K)
  have L_5 : ∀ (n : Nat) (S : CS) (x1 : Int32) (x2 : Int32) (x3 : Int32), l_J7_fill_53178_5 j n S x1 x2 x3 = some q → G K (cX B (kA K) sa h lk) 0 0 5 S [(0, .ref (sa (5 * j + 4))), (1, .int x1), (2, .int x2), (3, .int x3)] [] := by
    intro n
    induction n with
    | zero =>
      intro S x1 x2 x3 hf
      rw [l_J7_fill_53178_5] at hf
      cases hf
    | succ n ih =>
      intro S x1 x2 x3 hf
      rw [l_J7_fill_53178_5] at hf
      refine g_iload_n 6 2 F dJ7_fill_53178_5 rfl rfl ?_
      refine g_iload_n 7 3 F dJ7_fill_53178_6 rfl rfl ?_
      refine g_icmp_ge 20 10 F dJ7_fill_53178_7 rfl rfl hf (fun _ hf => ?_) (fun _ hf => ?_)
      · obtain rfl := Option.some.inj hf
        exact hR _ _ dJ7_fill_53178_20
      · refine g_aload_n 11 0 F dJ7_fill_53178_10 rfl rfl ?_
        refine g_iload_n 12 2 F dJ7_fill_53178_11 rfl rfl ?_
        refine g_iload_n 13 1 F dJ7_fill_53178_12 rfl rfl ?_
        obtain ⟨h1, hf⟩ := op_ok hf
        refine cs_Q3 14 F hw hj h1 dJ7_fill_53178_13 rfl ?_
        refine g_iinc 17 2 (x2 + 1) [(2, .int (x2 + 1)), (0, .ref (sa (5 * j + 4))), (1, .int x1), (3, .int x3)] F dJ7_fill_53178_14 rfl rfl (lt_kn hn (by decide)) rfl rfl ?_
        refine g_goto 5 F dJ7_fill_53178_17 rfl ?_
        exact G.lvs [1, 2, 0, 3] rfl (ih (sQ S j 3 x2.toNatClampNeg x1) x1 (x2 + 1) x3 hf)
  unfold f_J7_fill_53178 at hf
  refine g_iconst 1 (v := 0) F dJ7_fill_53178_0 (by decide) rfl ?_
  refine g_istore_n 2 [(2, .int 0), (0, .ref (sa (5 * j + 4))), (1, .int a2)] F dJ7_fill_53178_1 (lt_kn hn (by decide)) rfl rfl ?_
  refine g_aload_n 3 1 F dJ7_fill_53178_2 rfl rfl ?_
  refine c_lenQ3 4 F hw hj dJ7_fill_53178_3 rfl ?_
  refine g_istore_n 5 [(3, .int 1100), (2, .int 0), (0, .ref (sa (5 * j + 4))), (1, .int a2)] F dJ7_fill_53178_4 (lt_kn hn (by decide)) rfl rfl ?_
  exact G.lvs [2, 3, 1, 0] rfl (L_5 fu S a2 0 1100 hf)
theorem c_J7_fill_53178 (l : Launch) (B : CB) (sa : Nat → Nat) (h : Nat → Bool) (lk : Nat × Nat) (hw : cWf h lk) (A : Nat → Prop) (S : CS) (j : Nat) (a2 : Int32) (hj : h j = true) (q : CS) (hf : f_J7_fill_53178 S j a2 = some q) : Cv l yJ7_fill_53178 cJ7_fill_53178 4 none 0 0 (cX B A sa h lk) (cKf B A) A S [.ref (sa (5 * j + 4)), .int a2] q := by
  refine met_v (by decide +kernel) (Nat.le_of_ble_eq_true rfl) (fun K hl hA hn F hR => ?_)
  subst hl; subst hA
  exact w_J7_fill_53178 B sa h lk hw K F hn S j a2 hj q hf hR
set_option maxHeartbeats 4000000 in
set_option maxRecDepth 100000 in
theorem w_X1_begin (B : CB) (sa : Nat → Nat) (h : Nat → Bool) (lk : Nat × Nat) (hw : cWf h lk) (K : Ctx) (F : Fx K cX1_begin RX1 (cKf B (kA K)) 1 23) (hn : kn K = 3) (S : CS) (j : Nat) (a1 : Int32) (a2 : Int32) (hj : h j = true) (q : CS) (hf : f_X1_begin S j a1 a2 = some q) (hR : ∀ (pc : Nat) (lv : List (Nat × Value)), decode cX1_begin pc = .ok (.return_, 1) → G K (cX B (kA K) sa h lk) 0 0 pc q lv []) : G K (cX B (kA K) sa h lk) 0 0 0 S [(0, .ref (sa (5 * j))), (1, .int a1), (2, .int a2)] [] := by
  have hok := cKf_ok B (kA K)
  unfold f_X1_begin at hf
  refine g_aload_n 1 0 F dX1_begin_0 rfl rfl ?_
  refine g_iload_n 2 1 F dX1_begin_1 rfl rfl ?_
  refine cp_X1_risk 5 F hw hj fl_X1_24 dX1_begin_2 rfl ?_
  refine g_aload_n 6 0 F dX1_begin_5 rfl rfl ?_
  refine g_iload_n 7 2 F dX1_begin_6 rfl rfl ?_
  refine cp_X1_came 10 F hw hj fl_X1_28 dX1_begin_7 rfl ?_
  refine g_aload_n 11 0 F dX1_begin_10 rfl rfl ?_
  refine g_iconst 12 (v := 0) F dX1_begin_11 (by decide) rfl ?_
  refine cp_X1_late 15 F hw hj fl_X1_31 dX1_begin_12 rfl ?_
  refine g_aload_n 16 0 F dX1_begin_15 rfl rfl ?_
  refine g_iconst 17 (v := 0) F dX1_begin_16 (by decide) rfl ?_
  refine cp_X1_tests 20 F hw hj fl_X1_34 dX1_begin_17 rfl ?_
  refine g_aload_n 21 0 F dX1_begin_20 rfl rfl ?_
  refine g_iconst 22 (v := 0) F dX1_begin_21 (by decide) rfl ?_
  refine cp_X1_missed 25 F hw hj fl_X1_37 dX1_begin_22 rfl ?_
  refine g_aload_n 26 0 F dX1_begin_25 rfl rfl ?_
  refine g_iconst 27 (v := (-1)) F dX1_begin_26 (by decide) rfl ?_
  refine cp_X1_lastTest 30 F hw hj fl_X1_40 dX1_begin_27 rfl ?_
  refine g_aload_n 31 0 F dX1_begin_30 rfl rfl ?_
  refine g_iconst 32 (v := 0) F dX1_begin_31 (by decide) rfl ?_
  refine cp_X1_failures 35 F hw hj fl_X1_43 dX1_begin_32 rfl ?_
  refine g_aload_n 36 0 F dX1_begin_35 rfl rfl ?_
  refine cg_X1_slots 39 F hw hj fl_X1_21 dX1_begin_36 rfl ?_
  refine g_iconst 40 (v := 0) F dX1_begin_39 (by decide) rfl ?_
  obtain ⟨q1, e2, hf⟩ := op_bd hf
  refine g_cSv 43 (st := []) F hok (c_J7_fill_53178 (kl K) B sa h lk hw (kA K) (sP (sP (sP (sP (sP (sP (sP S j 0 a1) j 1 a2) j 2 0) j 3 0) j 4 0) j 5 (-1)) j 6 0) j 0 hj q1 e2) ws_J7_fill_53178 ml_X1_46 ⟨Nat.le_of_ble_eq_true rfl, Nat.le_of_ble_eq_true rfl⟩ rfl rfl (Nat.le_of_ble_eq_true rfl) ⟨Nat.zero_le _, Nat.zero_le _⟩ dX1_begin_40 rfl ?_
  obtain rfl := Option.some.inj hf
  exact hR _ _ dX1_begin_43
theorem c_X1_begin (l : Launch) (B : CB) (sa : Nat → Nat) (h : Nat → Bool) (lk : Nat × Nat) (hw : cWf h lk) (A : Nat → Prop) (S : CS) (j : Nat) (a1 : Int32) (a2 : Int32) (hj : h j = true) (q : CS) (hf : f_X1_begin S j a1 a2 = some q) : Cv l yX1_begin cX1_begin 3 none 1 23 (cX B A sa h lk) (cKf B A) A S [.ref (sa (5 * j)), .int a1, .int a2] q := by
  refine met_v (by decide +kernel) (Nat.le_of_ble_eq_true rfl) (fun K hl hA hn F hR => ?_)
  subst hl; subst hA
  exact w_X1_begin B sa h lk hw K F hn S j a1 a2 hj q hf hR
set_option maxHeartbeats 4000000 in
set_option maxRecDepth 100000 in
theorem w_X1_become (B : CB) (sa : Nat → Nat) (h : Nat → Bool) (lk : Nat × Nat) (hw : cWf h lk) (K : Ctx) (F : Fx K cX1_become RX1 (cKf B (kA K)) 1 60) (hn : kn K = 2) (S : CS) (j : Nat) (j2 : Nat) (hj : h j = true) (hj2 : h j2 = true) (q : CS) (hf : f_X1_become S j j2 = q) (hR : ∀ (pc : Nat) (lv : List (Nat × Value)), decode cX1_become pc = .ok (.return_, 1) → G K (cX B (kA K) sa h lk) 0 0 pc q lv []) : G K (cX B (kA K) sa h lk) 0 0 0 S [(0, .ref (sa (5 * j))), (1, .ref (sa (5 * j2)))] [] := by
  have hok := cKf_ok B (kA K)
  have J_117 : ∀ (S : CS), j_X1_become_117 j j2 S = q → G K (cX B (kA K) sa h lk) 0 0 117 S [] [] := by
    intro S hf
    unfold j_X1_become_117 at hf
    subst hf
    exact hR _ _ dX1_become_117
  have J_101 : ∀ (S : CS), j_X1_become_101 j j2 S = q → G K (cX B (kA K) sa h lk) 0 0 101 S [(0, .ref (sa (5 * j))), (1, .ref (sa (5 * j2)))] [] := by
    intro S hf
    unfold j_X1_become_101 at hf
    refine g_aload_n 102 1 F dX1_become_101 rfl rfl ?_
    refine cg_X1_slots 105 F hw hj2 fl_X1_21 dX1_become_102 rfl ?_
    refine g_iconst 106 (v := 0) F dX1_become_105 (by decide) rfl ?_
    refine g_aload_n 107 0 F dX1_become_106 rfl rfl ?_
    refine cg_X1_slots 110 F hw hj fl_X1_21 dX1_become_107 rfl ?_
    refine g_iconst 111 (v := 0) F dX1_become_110 (by decide) rfl ?_
    refine g_sipush 114 (v := 1100) F dX1_become_111 (by decide) rfl ?_
    refine c_cpQ 3 1100 (v := 1100) 117 F ml_X1_52 hw hj2 hj (by decide) rfl (by decide) (by decide) (Nat.le_of_ble_eq_true rfl) (Nat.le_of_ble_eq_true rfl) dX1_become_114 rfl ?_
    exact G.lvs [] rfl (J_117 (sQw S j 3 (va_cpy (cQ S j2 3) (cQ S j 3) 0 0 1100)) hf)
  have J_86 : ∀ (S : CS), j_X1_become_86 j j2 S = q → G K (cX B (kA K) sa h lk) 0 0 86 S [(0, .ref (sa (5 * j))), (1, .ref (sa (5 * j2)))] [] := by
    intro S hf
    unfold j_X1_become_86 at hf
    refine g_aload_n 87 1 F dX1_become_86 rfl rfl ?_
    refine cg_X1_struck 90 F hw hj2 fl_X1_18 dX1_become_87 rfl ?_
    refine g_iconst 91 (v := 0) F dX1_become_90 (by decide) rfl ?_
    refine g_aload_n 92 0 F dX1_become_91 rfl rfl ?_
    refine cg_X1_struck 95 F hw hj fl_X1_18 dX1_become_92 rfl ?_
    refine g_iconst 96 (v := 0) F dX1_become_95 (by decide) rfl ?_
    refine g_bipush 98 (v := 60) F dX1_become_96 (by decide) rfl ?_
    refine c_cpQ 2 60 (v := 60) 101 F ml_X1_52 hw hj2 hj (by decide) rfl (by decide) (by decide) (Nat.le_of_ble_eq_true rfl) (Nat.le_of_ble_eq_true rfl) dX1_become_98 rfl ?_
    exact G.lvs [0, 1] rfl (J_101 (sQw S j 2 (va_cpy (cQ S j2 2) (cQ S j 2) 0 0 60)) hf)
  have J_71 : ∀ (S : CS), j_X1_become_71 j j2 S = q → G K (cX B (kA K) sa h lk) 0 0 71 S [(0, .ref (sa (5 * j))), (1, .ref (sa (5 * j2)))] [] := by
    intro S hf
    unfold j_X1_become_71 at hf
    refine g_aload_n 72 1 F dX1_become_71 rfl rfl ?_
    refine cg_X1_failureKind 75 F hw hj2 fl_X1_15 dX1_become_72 rfl ?_
    refine g_iconst 76 (v := 0) F dX1_become_75 (by decide) rfl ?_
    refine g_aload_n 77 0 F dX1_become_76 rfl rfl ?_
    refine cg_X1_failureKind 80 F hw hj fl_X1_15 dX1_become_77 rfl ?_
    refine g_iconst 81 (v := 0) F dX1_become_80 (by decide) rfl ?_
    refine g_bipush 83 (v := 60) F dX1_become_81 (by decide) rfl ?_
    refine c_cpQ 1 60 (v := 60) 86 F ml_X1_52 hw hj2 hj (by decide) rfl (by decide) (by decide) (Nat.le_of_ble_eq_true rfl) (Nat.le_of_ble_eq_true rfl) dX1_become_83 rfl ?_
    exact G.lvs [0, 1] rfl (J_86 (sQw S j 1 (va_cpy (cQ S j2 1) (cQ S j 1) 0 0 60)) hf)
  have J_56 : ∀ (S : CS), j_X1_become_56 j j2 S = q → G K (cX B (kA K) sa h lk) 0 0 56 S [(0, .ref (sa (5 * j))), (1, .ref (sa (5 * j2)))] [] := by
    intro S hf
    unfold j_X1_become_56 at hf
    refine g_aload_n 57 1 F dX1_become_56 rfl rfl ?_
    refine cg_X1_failureDay 60 F hw hj2 fl_X1_9 dX1_become_57 rfl ?_
    refine g_iconst 61 (v := 0) F dX1_become_60 (by decide) rfl ?_
    refine g_aload_n 62 0 F dX1_become_61 rfl rfl ?_
    refine cg_X1_failureDay 65 F hw hj fl_X1_9 dX1_become_62 rfl ?_
    refine g_iconst 66 (v := 0) F dX1_become_65 (by decide) rfl ?_
    refine g_bipush 68 (v := 60) F dX1_become_66 (by decide) rfl ?_
    refine c_cpQ 0 60 (v := 60) 71 F ml_X1_52 hw hj2 hj (by decide) rfl (by decide) (by decide) (Nat.le_of_ble_eq_true rfl) (Nat.le_of_ble_eq_true rfl) dX1_become_68 rfl ?_
    exact G.lvs [0, 1] rfl (J_71 (sQw S j 0 (va_cpy (cQ S j2 0) (cQ S j 0) 0 0 60)) hf)
  have J_48 : ∀ (S : CS), j_X1_become_48 j j2 S = q → G K (cX B (kA K) sa h lk) 0 0 48 S [(0, .ref (sa (5 * j))), (1, .ref (sa (5 * j2)))] [] := by
    intro S hf
    unfold j_X1_become_48 at hf
    refine g_aload_n 49 0 F dX1_become_48 rfl rfl ?_
    refine g_aload_n 50 1 F dX1_become_49 rfl rfl ?_
    refine cg_X1_failures 53 F hw hj2 fl_X1_43 dX1_become_50 rfl ?_
    refine cp_X1_failures 56 F hw hj fl_X1_43 dX1_become_53 rfl ?_
    exact G.lvs [0, 1] rfl (J_56 (sP S j 6 (cP S j2 6)) hf)
  have J_40 : ∀ (S : CS), j_X1_become_40 j j2 S = q → G K (cX B (kA K) sa h lk) 0 0 40 S [(0, .ref (sa (5 * j))), (1, .ref (sa (5 * j2)))] [] := by
    intro S hf
    unfold j_X1_become_40 at hf
    refine g_aload_n 41 0 F dX1_become_40 rfl rfl ?_
    refine g_aload_n 42 1 F dX1_become_41 rfl rfl ?_
    refine cg_X1_lastTest 45 F hw hj2 fl_X1_40 dX1_become_42 rfl ?_
    refine cp_X1_lastTest 48 F hw hj fl_X1_40 dX1_become_45 rfl ?_
    exact G.lvs [0, 1] rfl (J_48 (sP S j 5 (cP S j2 5)) hf)
  have J_32 : ∀ (S : CS), j_X1_become_32 j j2 S = q → G K (cX B (kA K) sa h lk) 0 0 32 S [(0, .ref (sa (5 * j))), (1, .ref (sa (5 * j2)))] [] := by
    intro S hf
    unfold j_X1_become_32 at hf
    refine g_aload_n 33 0 F dX1_become_32 rfl rfl ?_
    refine g_aload_n 34 1 F dX1_become_33 rfl rfl ?_
    refine cg_X1_missed 37 F hw hj2 fl_X1_37 dX1_become_34 rfl ?_
    refine cp_X1_missed 40 F hw hj fl_X1_37 dX1_become_37 rfl ?_
    exact G.lvs [0, 1] rfl (J_40 (sP S j 4 (cP S j2 4)) hf)
  have J_24 : ∀ (S : CS), j_X1_become_24 j j2 S = q → G K (cX B (kA K) sa h lk) 0 0 24 S [(0, .ref (sa (5 * j))), (1, .ref (sa (5 * j2)))] [] := by
    intro S hf
    unfold j_X1_become_24 at hf
    refine g_aload_n 25 0 F dX1_become_24 rfl rfl ?_
    refine g_aload_n 26 1 F dX1_become_25 rfl rfl ?_
    refine cg_X1_tests 29 F hw hj2 fl_X1_34 dX1_become_26 rfl ?_
    refine cp_X1_tests 32 F hw hj fl_X1_34 dX1_become_29 rfl ?_
    exact G.lvs [0, 1] rfl (J_32 (sP S j 3 (cP S j2 3)) hf)
  have J_16 : ∀ (S : CS), j_X1_become_16 j j2 S = q → G K (cX B (kA K) sa h lk) 0 0 16 S [(0, .ref (sa (5 * j))), (1, .ref (sa (5 * j2)))] [] := by
    intro S hf
    unfold j_X1_become_16 at hf
    refine g_aload_n 17 0 F dX1_become_16 rfl rfl ?_
    refine g_aload_n 18 1 F dX1_become_17 rfl rfl ?_
    refine cg_X1_late 21 F hw hj2 fl_X1_31 dX1_become_18 rfl ?_
    refine cp_X1_late 24 F hw hj fl_X1_31 dX1_become_21 rfl ?_
    exact G.lvs [0, 1] rfl (J_24 (sP S j 2 (cP S j2 2)) hf)
  have J_8 : ∀ (S : CS), j_X1_become_8 j j2 S = q → G K (cX B (kA K) sa h lk) 0 0 8 S [(0, .ref (sa (5 * j))), (1, .ref (sa (5 * j2)))] [] := by
    intro S hf
    unfold j_X1_become_8 at hf
    refine g_aload_n 9 0 F dX1_become_8 rfl rfl ?_
    refine g_aload_n 10 1 F dX1_become_9 rfl rfl ?_
    refine cg_X1_came 13 F hw hj2 fl_X1_28 dX1_become_10 rfl ?_
    refine cp_X1_came 16 F hw hj fl_X1_28 dX1_become_13 rfl ?_
    exact G.lvs [0, 1] rfl (J_16 (sP S j 1 (cP S j2 1)) hf)
  unfold f_X1_become at hf
  refine g_aload_n 1 0 F dX1_become_0 rfl rfl ?_
  refine g_aload_n 2 1 F dX1_become_1 rfl rfl ?_
  refine cg_X1_risk 5 F hw hj2 fl_X1_24 dX1_become_2 rfl ?_
  refine cp_X1_risk 8 F hw hj fl_X1_24 dX1_become_5 rfl ?_
  exact G.lvs [0, 1] rfl (J_8 (sP S j 0 (cP S j2 0)) hf)
theorem c_X1_become (l : Launch) (B : CB) (sa : Nat → Nat) (h : Nat → Bool) (lk : Nat × Nat) (hw : cWf h lk) (A : Nat → Prop) (S : CS) (j : Nat) (j2 : Nat) (hj : h j = true) (hj2 : h j2 = true) (q : CS) (hf : f_X1_become S j j2 = q) : Cv l yX1_become cX1_become 2 none 1 60 (cX B A sa h lk) (cKf B A) A S [.ref (sa (5 * j)), .ref (sa (5 * j2))] q := by
  refine met_v (by decide +kernel) (Nat.le_of_ble_eq_true rfl) (fun K hl hA hn F hR => ?_)
  subst hl; subst hA
  exact w_X1_become B sa h lk hw K F hn S j j2 hj hj2 q hf hR
set_option maxHeartbeats 4000000 in
set_option maxRecDepth 100000 in
theorem w_X2_isNoticed (B : CB) (sa : Nat → Nat) (h : Nat → Bool) (lk : Nat × Nat) (hw : cWf h lk) (K : Ctx) (F : Fx K cX2_isNoticed RX2 (cKf B (kA K)) 0 0) (hn : kn K = 2) (S : CS) (a1 : Int32) (q : Bool) (hf : f_X2_isNoticed S a1 = some q) (hR : ∀ (pc : Nat) (lv : List (Nat × Value)), decode cX2_isNoticed pc = .ok (.ireturn, 1) → G K (cX B (kA K) sa h lk) 0 0 pc S lv [.int (bI q)]) : G K (cX B (kA K) sa h lk) 0 0 0 S [(0, .ref (cAf B 7)), (1, .int a1)] [] := by
  have hok := cKf_ok B (kA K)
  unfold f_X2_isNoticed at hf
  refine g_aload_n 1 0 F dX2_isNoticed_0 rfl rfl ?_
  refine cg_X2_lastCounting 4 F fl_X2_41 dX2_isNoticed_1 rfl ?_
  refine g_iconst 5 (v := (-1)) F dX2_isNoticed_4 (by decide) rfl ?_
  refine g_icmp_eq 26 8 F dX2_isNoticed_5 rfl rfl hf (fun _ hf => ?_) (fun _ hf => ?_)
  · refine g_iconst 27 (v := 1) F dX2_isNoticed_26 (by decide) rfl ?_
    refine g_goto 31 F dX2_isNoticed_27 rfl ?_
    obtain rfl := Option.some.inj hf
    exact hR _ _ dX2_isNoticed_31
  · refine g_iload_n 9 1 F dX2_isNoticed_8 rfl rfl ?_
    refine g_aload_n 10 0 F dX2_isNoticed_9 rfl rfl ?_
    refine cg_X2_days 13 F fl_X2_11 dX2_isNoticed_10 rfl ?_
    refine g_aload_n 14 0 F dX2_isNoticed_13 rfl rfl ?_
    refine cg_X2_lastCounting 17 F fl_X2_41 dX2_isNoticed_14 rfl ?_
    obtain ⟨h1, hf⟩ := op_ok hf
    refine cl_A2 18 F h1 dX2_isNoticed_17 rfl ?_
    refine g_isub 19 F dX2_isNoticed_18 rfl ?_
    refine g_aload_n 20 0 F dX2_isNoticed_19 rfl rfl ?_
    refine cg_X2_notice 23 F fl_X2_29 dX2_isNoticed_20 rfl ?_
    refine g_icmp_lt 30 26 F dX2_isNoticed_23 rfl rfl hf (fun _ hf => ?_) (fun _ hf => ?_)
    · refine g_iconst 31 (v := 0) F dX2_isNoticed_30 (by decide) rfl ?_
      obtain rfl := Option.some.inj hf
      exact hR _ _ dX2_isNoticed_31
    · refine g_iconst 27 (v := 1) F dX2_isNoticed_26 (by decide) rfl ?_
      refine g_goto 31 F dX2_isNoticed_27 rfl ?_
      obtain rfl := Option.some.inj hf
      exact hR _ _ dX2_isNoticed_31
theorem c_X2_isNoticed (l : Launch) (B : CB) (sa : Nat → Nat) (h : Nat → Bool) (lk : Nat × Nat) (hw : cWf h lk) (A : Nat → Prop) (S : CS) (a1 : Int32) (q : Bool) (hf : f_X2_isNoticed S a1 = some q) : Ci l yX2_isNoticed cX2_isNoticed 2 (some .boolean) 0 0 (cX B A sa h lk) (cKf B A) A S [.ref (cAf B 7), .int a1] (bI q) S := by
  refine met_z (by decide +kernel) (Nat.le_of_ble_eq_true rfl) (fun K hl hA hn F hR => ?_)
  subst hl; subst hA
  exact w_X2_isNoticed B sa h lk hw K F hn S a1 q hf hR
set_option maxHeartbeats 4000000 in
set_option maxRecDepth 100000 in
theorem w_X2_pointsOn (B : CB) (sa : Nat → Nat) (h : Nat → Bool) (lk : Nat × Nat) (hw : cWf h lk) (K : Ctx) (F : Fx K cX2_pointsOn RX2 (cKf B (kA K)) 0 0) (hn : kn K = 4) (S : CS) (a1 : Int32) (q : Int32) (hf : f_X2_pointsOn S a1 = some q) (hR : ∀ (pc : Nat) (lv : List (Nat × Value)), decode cX2_pointsOn pc = .ok (.ireturn, 1) → G K (cX B (kA K) sa h lk) 0 0 pc S lv [.int q]) : G K (cX B (kA K) sa h lk) 0 0 0 S [(0, .ref (cAf B 7)), (1, .int a1)] [] := by
  have hok := cKf_ok B (kA K)
  have L_7 : ∀ (n : Nat) (x1 : Int32) (x2 : Int32) (x3 : Int32), l_X2_pointsOn_7 S n x1 x2 x3 = some q → G K (cX B (kA K) sa h lk) 0 0 7 S [(0, .ref (cAf B 7)), (1, .int x1), (2, .int x2), (3, .int x3)] [] := by
    intro n
    induction n with
    | zero =>
      intro x1 x2 x3 hf
      rw [l_X2_pointsOn_7] at hf
      cases hf
    | succ n ih =>
      intro x1 x2 x3 hf
      rw [l_X2_pointsOn_7] at hf
      refine g_iload_n 8 3 F dX2_pointsOn_7 rfl rfl ?_
      refine g_aload_n 9 0 F dX2_pointsOn_8 rfl rfl ?_
      refine cg_X2_size 12 F fl_X2_35 dX2_pointsOn_9 rfl ?_
      refine g_icmp_ge 48 15 F dX2_pointsOn_12 rfl rfl hf (fun _ hf => ?_) (fun _ hf => ?_)
      · refine g_iload_n 49 2 F dX2_pointsOn_48 rfl rfl ?_
        obtain rfl := Option.some.inj hf
        exact hR _ _ dX2_pointsOn_49
      · refine g_aload_n 16 0 F dX2_pointsOn_15 rfl rfl ?_
        refine cg_X2_counting 19 F fl_X2_15 dX2_pointsOn_16 rfl ?_
        refine g_iload_n 20 3 F dX2_pointsOn_19 rfl rfl ?_
        obtain ⟨h1, hf⟩ := op_ok hf
        refine cl_A3 21 F h1 dX2_pointsOn_20 rfl ?_
        refine g_if_eq 42 24 F dX2_pointsOn_21 rfl rfl hf (fun _ hf => ?_) (fun _ hf => ?_)
        · refine g_iinc 45 3 (x3 + 1) [(3, .int (x3 + 1)), (0, .ref (cAf B 7)), (1, .int x1), (2, .int x2)] F dX2_pointsOn_42 rfl rfl (lt_kn hn (by decide)) rfl rfl ?_
          refine g_goto 7 F dX2_pointsOn_45 rfl ?_
          exact G.lvs [1, 2, 3, 0] rfl (ih x1 x2 (x3 + 1) hf)
        · refine g_aload_n 25 0 F dX2_pointsOn_24 rfl rfl ?_
          refine cg_X2_days 28 F fl_X2_11 dX2_pointsOn_25 rfl ?_
          refine g_iload_n 29 3 F dX2_pointsOn_28 rfl rfl ?_
          obtain ⟨h2, hf⟩ := op_ok hf
          refine cl_A2 30 F h2 dX2_pointsOn_29 rfl ?_
          refine g_iload_n 31 1 F dX2_pointsOn_30 rfl rfl ?_
          refine g_aload_n 32 0 F dX2_pointsOn_31 rfl rfl ?_
          refine cg_X2_window 35 F fl_X2_22 dX2_pointsOn_32 rfl ?_
          refine g_isub 36 F dX2_pointsOn_35 rfl ?_
          refine g_icmp_le 42 39 F dX2_pointsOn_36 rfl rfl hf (fun _ hf => ?_) (fun _ hf => ?_)
          · refine g_iinc 45 3 (x3 + 1) [(3, .int (x3 + 1)), (0, .ref (cAf B 7)), (1, .int x1), (2, .int x2)] F dX2_pointsOn_42 rfl rfl (lt_kn hn (by decide)) rfl rfl ?_
            refine g_goto 7 F dX2_pointsOn_45 rfl ?_
            exact G.lvs [1, 2, 3, 0] rfl (ih x1 x2 (x3 + 1) hf)
          · refine g_iinc 42 2 (x2 + 1) [(2, .int (x2 + 1)), (0, .ref (cAf B 7)), (1, .int x1), (3, .int x3)] F dX2_pointsOn_39 rfl rfl (lt_kn hn (by decide)) rfl rfl ?_
            refine g_iinc 45 3 (x3 + 1) [(3, .int (x3 + 1)), (2, .int (x2 + 1)), (0, .ref (cAf B 7)), (1, .int x1)] F dX2_pointsOn_42 rfl rfl (lt_kn hn (by decide)) rfl rfl ?_
            refine g_goto 7 F dX2_pointsOn_45 rfl ?_
            exact G.lvs [2, 3, 1, 0] rfl (ih x1 (x2 + 1) (x3 + 1) hf)
  unfold f_X2_pointsOn at hf
  refine g_iconst 1 (v := 0) F dX2_pointsOn_0 (by decide) rfl ?_
  refine g_istore_n 2 [(2, .int 0), (0, .ref (cAf B 7)), (1, .int a1)] F dX2_pointsOn_1 (lt_kn hn (by decide)) rfl rfl ?_
  refine g_aload_n 3 1 F dX2_pointsOn_2 rfl rfl ?_
  refine cg_X2_firstOpen 6 F fl_X2_38 dX2_pointsOn_3 rfl ?_
  refine g_istore_n 7 [(3, .int (cF S 6)), (2, .int 0), (0, .ref (cAf B 7)), (1, .int a1)] F dX2_pointsOn_6 (lt_kn hn (by decide)) rfl rfl ?_
  exact G.lvs [2, 3, 1, 0] rfl (L_7 fu a1 0 (cF S 6) hf)
theorem c_X2_pointsOn (l : Launch) (B : CB) (sa : Nat → Nat) (h : Nat → Bool) (lk : Nat × Nat) (hw : cWf h lk) (A : Nat → Prop) (S : CS) (a1 : Int32) (q : Int32) (hf : f_X2_pointsOn S a1 = some q) : Ci l yX2_pointsOn cX2_pointsOn 4 (some .int) 0 0 (cX B A sa h lk) (cKf B A) A S [.ref (cAf B 7), .int a1] q S := by
  refine met_i (by decide +kernel) (Nat.le_of_ble_eq_true rfl) (fun K hl hA hn F hR => ?_)
  subst hl; subst hA
  exact w_X2_pointsOn B sa h lk hw K F hn S a1 q hf hR
set_option maxHeartbeats 4000000 in
set_option maxRecDepth 100000 in
theorem w_X2_add (B : CB) (sa : Nat → Nat) (h : Nat → Bool) (lk : Nat × Nat) (hw : cWf h lk) (K : Ctx) (F : Fx K cX2_add RX2 (cKf B (kA K)) 1 23) (hn : kn K = 4) (S : CS) (a1 : Int32) (a2 : Bool) (q : CS) (hf : f_X2_add S a1 a2 = some q) (hR : ∀ (pc : Nat) (lv : List (Nat × Value)), decode cX2_add pc = .ok (.return_, 1) → G K (cX B (kA K) sa h lk) 0 0 pc q lv []) : G K (cX B (kA K) sa h lk) 0 0 0 S [(0, .ref (cAf B 7)), (1, .int a1), (2, .int (bI a2))] [] := by
  have hok := cKf_ok B (kA K)
  have J_51 : ∀ (S : CS) (x1 : Int32) (x3 : Int32) (t0 : Int32) (t1 : Int32), j_X2_add_51 S x1 x3 t0 t1 = some q → G K (cX B (kA K) sa h lk) 0 0 51 S [(0, .ref (cAf B 7)), (1, .int x1), (3, .int x3)] [.int t0, .int t1, .ref (cAf B 9)] := by
    intro S x1 x3 t0 t1 hf
    unfold j_X2_add_51 at hf
    obtain ⟨h2, hf⟩ := op_ok hf
    refine cs_A3 52 F h2 dX2_add_51 rfl ?_
    refine g_aload_n 53 0 F dX2_add_52 rfl rfl ?_
    refine cg_X2_counting 56 F fl_X2_15 dX2_add_53 rfl ?_
    refine g_iload_n 57 2 F dX2_add_56 rfl rfl ?_
    obtain ⟨h3, hf⟩ := op_ok hf
    refine cl_A3 58 F h3 dX2_add_57 rfl ?_
    refine g_if_ne 62 61 F dX2_add_58 rfl rfl hf (fun _ hf => ?_) (fun _ hf => ?_)
    · refine g_aload_n 63 0 F dX2_add_62 rfl rfl ?_
      refine g_iload_n 64 2 F dX2_add_63 rfl rfl ?_
      refine cp_X2_lastCounting 67 F fl_X2_41 dX2_add_64 rfl ?_
      refine g_aload_n 68 0 F dX2_add_67 rfl rfl ?_
      refine g_iload_n 69 1 F dX2_add_68 rfl rfl ?_
      obtain ⟨q4, e5, hf⟩ := op_bd hf
      refine g_cVi 72 (st := []) F hok (c_X2_pointsOn (kl K) B sa h lk hw (kA K) (sF (sA S 3 t1.toNatClampNeg (vp_nar .boolean t0)) 7 x3) x1 q4 e5) wy_X2_pointsOn ml_X2_63 (c_rc_X2 F) ⟨Nat.le_of_ble_eq_true rfl, Nat.le_of_ble_eq_true rfl⟩ rfl rfl (Nat.le_of_ble_eq_true rfl) ⟨Nat.zero_le _, Nat.zero_le _⟩ dX2_add_69 rfl ?_
      refine g_aload_n 73 0 F dX2_add_72 rfl rfl ?_
      refine cg_X2_limit 76 F fl_X2_26 dX2_add_73 rfl ?_
      refine g_icmp_lt 116 79 F dX2_add_76 rfl rfl hf (fun _ hf => ?_) (fun _ hf => ?_)
      · obtain rfl := Option.some.inj hf
        exact hR _ _ dX2_add_116
      · refine g_aload_n 80 0 F dX2_add_79 rfl rfl ?_
        refine cg_X2_violations 83 F fl_X2_32 dX2_add_80 rfl ?_
        refine g_bipush 85 (v := 61) F dX2_add_83 (by decide) rfl ?_
        refine g_icmp_ge 116 88 F dX2_add_85 rfl rfl hf (fun _ hf => ?_) (fun _ hf => ?_)
        · obtain rfl := Option.some.inj hf
          exact hR _ _ dX2_add_116
        · refine g_aload_n 89 0 F dX2_add_88 rfl rfl ?_
          refine cg_X2_violationDays 92 F fl_X2_19 dX2_add_89 rfl ?_
          refine g_aload_n 93 0 F dX2_add_92 rfl rfl ?_
          refine cg_X2_violations 96 F fl_X2_32 dX2_add_93 rfl ?_
          refine g_iload_n 97 1 F dX2_add_96 rfl rfl ?_
          obtain ⟨h6, hf⟩ := op_ok hf
          refine cs_A4 98 F h6 dX2_add_97 rfl ?_
          refine g_aload_n 99 0 F dX2_add_98 rfl rfl ?_
          refine g_dup 100 F dX2_add_99 rfl rfl ?_
          refine cg_X2_violations 103 F fl_X2_32 dX2_add_100 rfl ?_
          refine g_iconst 104 (v := 1) F dX2_add_103 (by decide) rfl ?_
          refine g_iadd 105 F dX2_add_104 rfl ?_
          refine cp_X2_violations 108 F fl_X2_32 dX2_add_105 rfl ?_
          refine g_aload_n 109 0 F dX2_add_108 rfl rfl ?_
          refine g_aload_n 110 0 F dX2_add_109 rfl rfl ?_
          refine cg_X2_size 113 F fl_X2_35 dX2_add_110 rfl ?_
          refine cp_X2_firstOpen 116 F fl_X2_38 dX2_add_113 rfl ?_
          obtain rfl := Option.some.inj hf
          exact hR _ _ dX2_add_116
    · obtain rfl := Option.some.inj hf
      exact hR _ _ dX2_add_61
  unfold f_X2_add at hf
  refine g_aload_n 1 0 F dX2_add_0 rfl rfl ?_
  refine cg_X2_size 4 F fl_X2_35 dX2_add_1 rfl ?_
  refine g_istore_n 5 [(3, .int (cF S 5)), (0, .ref (cAf B 7)), (1, .int a1), (2, .int (bI a2))] F dX2_add_4 (lt_kn hn (by decide)) rfl rfl ?_
  refine g_iload_n 6 0 F dX2_add_5 rfl rfl ?_
  refine g_bipush 8 (v := 61) F dX2_add_6 (by decide) rfl ?_
  refine g_icmp_lt 12 11 F dX2_add_8 rfl rfl hf (fun _ hf => ?_) (fun _ hf => ?_)
  · refine g_aload_n 13 1 F dX2_add_12 rfl rfl ?_
    refine g_dup 14 F dX2_add_13 rfl rfl ?_
    refine cg_X2_size 17 F fl_X2_35 dX2_add_14 rfl ?_
    refine g_iconst 18 (v := 1) F dX2_add_17 (by decide) rfl ?_
    refine g_iadd 19 F dX2_add_18 rfl ?_
    refine cp_X2_size 22 F fl_X2_35 dX2_add_19 rfl ?_
    refine g_aload_n 23 1 F dX2_add_22 rfl rfl ?_
    refine cg_X2_days 26 F fl_X2_11 dX2_add_23 rfl ?_
    refine g_iload_n 27 0 F dX2_add_26 rfl rfl ?_
    refine g_iload_n 28 2 F dX2_add_27 rfl rfl ?_
    obtain ⟨h1, hf⟩ := op_ok hf
    refine cs_A2 29 F h1 dX2_add_28 rfl ?_
    refine g_aload_n 30 1 F dX2_add_29 rfl rfl ?_
    refine cg_X2_counting 33 F fl_X2_15 dX2_add_30 rfl ?_
    refine g_iload_n 34 0 F dX2_add_33 rfl rfl ?_
    refine g_iload_n 35 3 F dX2_add_34 rfl rfl ?_
    refine g_ifne_b 50 38 F dX2_add_35 rfl rfl hf (fun _ hf => ?_) (fun _ hf => ?_)
    · refine g_iconst 51 (v := 0) F dX2_add_50 (by decide) rfl ?_
      exact G.lvs [1, 2, 0] rfl (J_51 (sA (sF S 5 ((cF S 5) + 1)) 2 (cF S 5).toNatClampNeg a1) a1 (cF S 5) 0 (cF S 5) hf)
    · refine g_aload_n 39 1 F dX2_add_38 rfl rfl ?_
      refine g_iload_n 40 2 F dX2_add_39 rfl rfl ?_
      obtain ⟨q7, e8, hf⟩ := op_bd hf
      refine g_cVi 43 (st := [.int (cF S 5), .ref (cAf B 9)]) F hok (c_X2_isNoticed (kl K) B sa h lk hw (kA K) (sA (sF S 5 ((cF S 5) + 1)) 2 (cF S 5).toNatClampNeg a1) a1 q7 e8) wy_X2_isNoticed ml_X2_59 (c_rc_X2 F) ⟨Nat.le_of_ble_eq_true rfl, Nat.le_of_ble_eq_true rfl⟩ rfl rfl (Nat.le_of_ble_eq_true rfl) ⟨Nat.zero_le _, Nat.zero_le _⟩ dX2_add_40 rfl ?_
      refine g_ifeq_b 50 46 F dX2_add_43 rfl rfl hf (fun _ hf => ?_) (fun _ hf => ?_)
      · refine g_iconst 51 (v := 0) F dX2_add_50 (by decide) rfl ?_
        exact G.lvs [1, 2, 0] rfl (J_51 (sA (sF S 5 ((cF S 5) + 1)) 2 (cF S 5).toNatClampNeg a1) a1 (cF S 5) 0 (cF S 5) hf)
      · refine g_iconst 47 (v := 1) F dX2_add_46 (by decide) rfl ?_
        refine g_goto 51 F dX2_add_47 rfl ?_
        exact G.lvs [1, 2, 0] rfl (J_51 (sA (sF S 5 ((cF S 5) + 1)) 2 (cF S 5).toNatClampNeg a1) a1 (cF S 5) 1 (cF S 5) hf)
  · obtain rfl := Option.some.inj hf
    exact hR _ _ dX2_add_11
theorem c_X2_add (l : Launch) (B : CB) (sa : Nat → Nat) (h : Nat → Bool) (lk : Nat × Nat) (hw : cWf h lk) (A : Nat → Prop) (S : CS) (a1 : Int32) (a2 : Bool) (q : CS) (hf : f_X2_add S a1 a2 = some q) : Cv l yX2_add cX2_add 4 none 1 23 (cX B A sa h lk) (cKf B A) A S [.ref (cAf B 7), .int a1, .int (bI a2)] q := by
  refine met_v (by decide +kernel) (Nat.le_of_ble_eq_true rfl) (fun K hl hA hn F hR => ?_)
  subst hl; subst hA
  exact w_X2_add B sa h lk hw K F hn S a1 a2 q hf hR
set_option maxHeartbeats 4000000 in
set_option maxRecDepth 100000 in
theorem w_X2_goThrough (B : CB) (sa : Nat → Nat) (h : Nat → Bool) (lk : Nat × Nat) (hw : cWf h lk) (K : Ctx) (F : Fx K cX2_goThrough RX2 (cKf B (kA K)) 2 46) (hn : kn K = 5) (S : CS) (j : Nat) (r : Nat) (a3 : Int32) (hj : h j = true) (hr : r < 2) (q : CS) (hf : f_X2_goThrough S j r a3 = some q) (hR : ∀ (pc : Nat) (lv : List (Nat × Value)), decode cX2_goThrough pc = .ok (.return_, 1) → G K (cX B (kA K) sa h lk) 0 0 pc q lv []) : G K (cX B (kA K) sa h lk) 0 0 0 S [(0, .ref (cAf B 7)), (1, .ref (sa (5 * j))), (2, .ref (cAf B (3 + r))), (3, .int a3)] [] := by
  have hok := cKf_ok B (kA K)
  have L_44 : ∀ (n : Nat) (S : CS) (x3 : Int32) (x4 : Int32), l_X2_goThrough_44 j r n S x3 x4 = some q → G K (cX B (kA K) sa h lk) 0 0 44 S [(0, .ref (cAf B 7)), (1, .ref (sa (5 * j))), (3, .int x3), (4, .int x4)] [] := by
    intro n
    induction n with
    | zero =>
      intro S x3 x4 hf
      rw [l_X2_goThrough_44] at hf
      cases hf
    | succ n ih =>
      intro S x3 x4 hf
      rw [l_X2_goThrough_44] at hf
      refine g_iload 46 3 F dX2_goThrough_44 rfl rfl ?_
      refine g_aload_n 47 1 F dX2_goThrough_46 rfl rfl ?_
      refine cg_X1_failures 50 F hw hj fl_X2_44 dX2_goThrough_47 rfl ?_
      refine g_icmp_ge 99 53 F dX2_goThrough_50 rfl rfl hf (fun _ hf => ?_) (fun _ hf => ?_)
      · obtain rfl := Option.some.inj hf
        exact hR _ _ dX2_goThrough_99
      · refine g_iload 55 3 F dX2_goThrough_53 rfl rfl ?_
        refine g_bipush 57 (v := 60) F dX2_goThrough_55 (by decide) rfl ?_
        refine g_icmp_ge 99 60 F dX2_goThrough_57 rfl rfl hf (fun _ hf => ?_) (fun _ hf => ?_)
        · obtain rfl := Option.some.inj hf
          exact hR _ _ dX2_goThrough_99
        · refine g_aload_n 61 0 F dX2_goThrough_60 rfl rfl ?_
          refine g_aload_n 62 1 F dX2_goThrough_61 rfl rfl ?_
          refine cg_X1_failureDay 65 F hw hj fl_X2_49 dX2_goThrough_62 rfl ?_
          refine g_iload 67 3 F dX2_goThrough_65 rfl rfl ?_
          obtain ⟨h1, hf⟩ := op_ok hf
          refine cl_Q0 68 F hw hj h1 dX2_goThrough_67 rfl ?_
          refine g_aload_n 69 1 F dX2_goThrough_68 rfl rfl ?_
          refine cg_X1_struck 72 F hw hj fl_X2_52 dX2_goThrough_69 rfl ?_
          refine g_iload 74 3 F dX2_goThrough_72 rfl rfl ?_
          obtain ⟨h2, hf⟩ := op_ok hf
          refine cl_Q2 75 F hw hj h2 dX2_goThrough_74 rfl ?_
          refine g_iconst 76 (v := 1) F dX2_goThrough_75 (by decide) rfl ?_
          refine g_icmp_eq 85 79 F dX2_goThrough_76 rfl rfl hf (fun _ hf => ?_) (fun _ hf => ?_)
          · refine g_iconst 86 (v := 1) F dX2_goThrough_85 (by decide) rfl ?_
            refine g_goto 90 F dX2_goThrough_86 rfl ?_
            obtain ⟨q3, e4, hf⟩ := op_bd hf
            refine g_cVv 93 (st := []) F hok (c_X2_add (kl K) B sa h lk hw (kA K) S (cQ S j 0 x4.toNatClampNeg) true q3 e4) wy_X2_add ml_X2_55 (c_rc_X2 F) ⟨Nat.le_of_ble_eq_true rfl, Nat.le_of_ble_eq_true rfl⟩ rfl rfl (Nat.le_of_ble_eq_true rfl) ⟨Nat.zero_le _, Nat.zero_le _⟩ dX2_goThrough_90 rfl ?_
            refine g_iinc 96 3 (x4 + 1) [(4, .int (x4 + 1)), (0, .ref (cAf B 7)), (1, .ref (sa (5 * j))), (3, .int x3)] F dX2_goThrough_93 rfl rfl (lt_kn hn (by decide)) rfl rfl ?_
            refine g_goto 44 F dX2_goThrough_96 rfl ?_
            exact G.lvs [1, 2, 3, 0] rfl (ih q3 x3 (x4 + 1) hf)
          · refine g_iload 81 3 F dX2_goThrough_79 rfl rfl ?_
            refine g_iload_n 82 2 F dX2_goThrough_81 rfl rfl ?_
            refine g_icmp_ne 89 85 F dX2_goThrough_82 rfl rfl hf (fun _ hf => ?_) (fun _ hf => ?_)
            · refine g_iconst 90 (v := 0) F dX2_goThrough_89 (by decide) rfl ?_
              obtain ⟨q5, e6, hf⟩ := op_bd hf
              refine g_cVv 93 (st := []) F hok (c_X2_add (kl K) B sa h lk hw (kA K) S (cQ S j 0 x4.toNatClampNeg) false q5 e6) wy_X2_add ml_X2_55 (c_rc_X2 F) ⟨Nat.le_of_ble_eq_true rfl, Nat.le_of_ble_eq_true rfl⟩ rfl rfl (Nat.le_of_ble_eq_true rfl) ⟨Nat.zero_le _, Nat.zero_le _⟩ dX2_goThrough_90 rfl ?_
              refine g_iinc 96 3 (x4 + 1) [(4, .int (x4 + 1)), (0, .ref (cAf B 7)), (1, .ref (sa (5 * j))), (3, .int x3)] F dX2_goThrough_93 rfl rfl (lt_kn hn (by decide)) rfl rfl ?_
              refine g_goto 44 F dX2_goThrough_96 rfl ?_
              exact G.lvs [1, 2, 3, 0] rfl (ih q5 x3 (x4 + 1) hf)
            · refine g_iconst 86 (v := 1) F dX2_goThrough_85 (by decide) rfl ?_
              refine g_goto 90 F dX2_goThrough_86 rfl ?_
              obtain ⟨q7, e8, hf⟩ := op_bd hf
              refine g_cVv 93 (st := []) F hok (c_X2_add (kl K) B sa h lk hw (kA K) S (cQ S j 0 x4.toNatClampNeg) true q7 e8) wy_X2_add ml_X2_55 (c_rc_X2 F) ⟨Nat.le_of_ble_eq_true rfl, Nat.le_of_ble_eq_true rfl⟩ rfl rfl (Nat.le_of_ble_eq_true rfl) ⟨Nat.zero_le _, Nat.zero_le _⟩ dX2_goThrough_90 rfl ?_
              refine g_iinc 96 3 (x4 + 1) [(4, .int (x4 + 1)), (0, .ref (cAf B 7)), (1, .ref (sa (5 * j))), (3, .int x3)] F dX2_goThrough_93 rfl rfl (lt_kn hn (by decide)) rfl rfl ?_
              refine g_goto 44 F dX2_goThrough_96 rfl ?_
              exact G.lvs [1, 2, 3, 0] rfl (ih q7 x3 (x4 + 1) hf)
  unfold f_X2_goThrough at hf
  refine g_aload_n 1 0 F dX2_goThrough_0 rfl rfl ?_
  refine g_aload_n 2 2 F dX2_goThrough_1 rfl rfl ?_
  refine g_iconst 3 (v := 0) F dX2_goThrough_2 (by decide) rfl ?_
  refine clK_As 4 0 F hr (by decide) (by decide) dX2_goThrough_3 rfl ?_
  refine cp_X2_window 7 F fl_X2_22 dX2_goThrough_4 rfl ?_
  refine g_aload_n 8 0 F dX2_goThrough_7 rfl rfl ?_
  refine g_aload_n 9 2 F dX2_goThrough_8 rfl rfl ?_
  refine g_iconst 10 (v := 1) F dX2_goThrough_9 (by decide) rfl ?_
  refine clK_As 11 1 F hr (by decide) (by decide) dX2_goThrough_10 rfl ?_
  refine cp_X2_limit 14 F fl_X2_26 dX2_goThrough_11 rfl ?_
  refine g_aload_n 15 0 F dX2_goThrough_14 rfl rfl ?_
  refine g_aload_n 16 2 F dX2_goThrough_15 rfl rfl ?_
  refine g_iconst 17 (v := 2) F dX2_goThrough_16 (by decide) rfl ?_
  refine clK_As 18 2 F hr (by decide) (by decide) dX2_goThrough_17 rfl ?_
  refine cp_X2_notice 21 F fl_X2_29 dX2_goThrough_18 rfl ?_
  refine g_aload_n 22 0 F dX2_goThrough_21 rfl rfl ?_
  refine g_iconst 23 (v := 0) F dX2_goThrough_22 (by decide) rfl ?_
  refine cp_X2_violations 26 F fl_X2_32 dX2_goThrough_23 rfl ?_
  refine g_aload_n 27 0 F dX2_goThrough_26 rfl rfl ?_
  refine g_iconst 28 (v := 0) F dX2_goThrough_27 (by decide) rfl ?_
  refine cp_X2_size 31 F fl_X2_35 dX2_goThrough_28 rfl ?_
  refine g_aload_n 32 0 F dX2_goThrough_31 rfl rfl ?_
  refine g_iconst 33 (v := 0) F dX2_goThrough_32 (by decide) rfl ?_
  refine cp_X2_firstOpen 36 F fl_X2_38 dX2_goThrough_33 rfl ?_
  refine g_aload_n 37 0 F dX2_goThrough_36 rfl rfl ?_
  refine g_iconst 38 (v := (-1)) F dX2_goThrough_37 (by decide) rfl ?_
  refine cp_X2_lastCounting 41 F fl_X2_41 dX2_goThrough_38 rfl ?_
  refine g_iconst 42 (v := 0) F dX2_goThrough_41 (by decide) rfl ?_
  refine g_istore 44 [(4, .int 0), (0, .ref (cAf B 7)), (1, .ref (sa (5 * j))), (2, .ref (cAf B (3 + r))), (3, .int a3)] F dX2_goThrough_42 (lt_kn hn (by decide)) rfl rfl ?_
  exact G.lvs [1, 2, 4, 0] rfl (L_44 fu (sF (sF (sF (sF (sF (sF (sF S 2 (cA S r 0)) 3 (cA (sF S 2 (cA S r 0)) r 1)) 4 (cA (sF (sF S 2 (cA S r 0)) 3 (cA (sF S 2 (cA S r 0)) r 1)) r 2)) 1 0) 5 0) 6 0) 7 (-1)) a3 0 hf)
theorem c_X2_goThrough (l : Launch) (B : CB) (sa : Nat → Nat) (h : Nat → Bool) (lk : Nat × Nat) (hw : cWf h lk) (A : Nat → Prop) (S : CS) (j : Nat) (r : Nat) (a3 : Int32) (hj : h j = true) (hr : r < 2) (q : CS) (hf : f_X2_goThrough S j r a3 = some q) : Cv l yX2_goThrough cX2_goThrough 5 none 2 46 (cX B A sa h lk) (cKf B A) A S [.ref (cAf B 7), .ref (sa (5 * j)), .ref (cAf B (3 + r)), .int a3] q := by
  refine met_v (by decide +kernel) (Nat.le_of_ble_eq_true rfl) (fun K hl hA hn F hR => ?_)
  subst hl; subst hA
  exact w_X2_goThrough B sa h lk hw K F hn S j r a3 hj hr q hf hR
set_option maxHeartbeats 4000000 in
set_option maxRecDepth 100000 in
theorem w_X2_doesCount (B : CB) (sa : Nat → Nat) (h : Nat → Bool) (lk : Nat × Nat) (hw : cWf h lk) (K : Ctx) (F : Fx K cX2_doesCount RX2 (cKf B (kA K)) 0 0) (hn : kn K = 2) (S : CS) (a1 : Int32) (q : Bool) (hf : f_X2_doesCount S a1 = some q) (hR : ∀ (pc : Nat) (lv : List (Nat × Value)), decode cX2_doesCount pc = .ok (.ireturn, 1) → G K (cX B (kA K) sa h lk) 0 0 pc S lv [.int (bI q)]) : G K (cX B (kA K) sa h lk) 0 0 0 S [(0, .ref (cAf B 7)), (1, .int a1)] [] := by
  have hok := cKf_ok B (kA K)
  unfold f_X2_doesCount at hf
  refine g_iload_n 1 1 F dX2_doesCount_0 rfl rfl ?_
  refine g_if_lt 25 4 F dX2_doesCount_1 rfl rfl hf (fun _ hf => ?_) (fun _ hf => ?_)
  · refine g_iconst 26 (v := 0) F dX2_doesCount_25 (by decide) rfl ?_
    obtain rfl := Option.some.inj hf
    exact hR _ _ dX2_doesCount_26
  · refine g_iload_n 5 1 F dX2_doesCount_4 rfl rfl ?_
    refine g_aload_n 6 0 F dX2_doesCount_5 rfl rfl ?_
    refine cg_X2_size 9 F fl_X2_35 dX2_doesCount_6 rfl ?_
    refine g_icmp_ge 25 12 F dX2_doesCount_9 rfl rfl hf (fun _ hf => ?_) (fun _ hf => ?_)
    · refine g_iconst 26 (v := 0) F dX2_doesCount_25 (by decide) rfl ?_
      obtain rfl := Option.some.inj hf
      exact hR _ _ dX2_doesCount_26
    · refine g_aload_n 13 0 F dX2_doesCount_12 rfl rfl ?_
      refine cg_X2_counting 16 F fl_X2_15 dX2_doesCount_13 rfl ?_
      refine g_iload_n 17 1 F dX2_doesCount_16 rfl rfl ?_
      obtain ⟨h1, hf⟩ := op_ok hf
      refine cl_A3 18 F h1 dX2_doesCount_17 rfl ?_
      refine g_if_eq 25 21 F dX2_doesCount_18 rfl rfl hf (fun _ hf => ?_) (fun _ hf => ?_)
      · refine g_iconst 26 (v := 0) F dX2_doesCount_25 (by decide) rfl ?_
        obtain rfl := Option.some.inj hf
        exact hR _ _ dX2_doesCount_26
      · refine g_iconst 22 (v := 1) F dX2_doesCount_21 (by decide) rfl ?_
        refine g_goto 26 F dX2_doesCount_22 rfl ?_
        obtain rfl := Option.some.inj hf
        exact hR _ _ dX2_doesCount_26
theorem c_X2_doesCount (l : Launch) (B : CB) (sa : Nat → Nat) (h : Nat → Bool) (lk : Nat × Nat) (hw : cWf h lk) (A : Nat → Prop) (S : CS) (a1 : Int32) (q : Bool) (hf : f_X2_doesCount S a1 = some q) : Ci l yX2_doesCount cX2_doesCount 2 (some .boolean) 0 0 (cX B A sa h lk) (cKf B A) A S [.ref (cAf B 7), .int a1] (bI q) S := by
  refine met_z (by decide +kernel) (Nat.le_of_ble_eq_true rfl) (fun K hl hA hn F hR => ?_)
  subst hl; subst hA
  exact w_X2_doesCount B sa h lk hw K F hn S a1 q hf hR
set_option maxHeartbeats 4000000 in
set_option maxRecDepth 100000 in
theorem w_X2_isOpen (B : CB) (sa : Nat → Nat) (h : Nat → Bool) (lk : Nat × Nat) (hw : cWf h lk) (K : Ctx) (F : Fx K cX2_isOpen RX2 (cKf B (kA K)) 1 21) (hn : kn K = 2) (S : CS) (a1 : Int32) (q : Bool) (hf : f_X2_isOpen S a1 = some q) (hR : ∀ (pc : Nat) (lv : List (Nat × Value)), decode cX2_isOpen pc = .ok (.ireturn, 1) → G K (cX B (kA K) sa h lk) 0 0 pc S lv [.int (bI q)]) : G K (cX B (kA K) sa h lk) 0 0 0 S [(0, .ref (cAf B 7)), (1, .int a1)] [] := by
  have hok := cKf_ok B (kA K)
  unfold f_X2_isOpen at hf
  refine g_iload_n 1 1 F dX2_isOpen_0 rfl rfl ?_
  refine g_aload_n 2 0 F dX2_isOpen_1 rfl rfl ?_
  refine cg_X2_firstOpen 5 F fl_X2_38 dX2_isOpen_2 rfl ?_
  refine g_icmp_lt 20 8 F dX2_isOpen_5 rfl rfl hf (fun _ hf => ?_) (fun _ hf => ?_)
  · refine g_iconst 21 (v := 0) F dX2_isOpen_20 (by decide) rfl ?_
    obtain rfl := Option.some.inj hf
    exact hR _ _ dX2_isOpen_21
  · refine g_aload_n 9 0 F dX2_isOpen_8 rfl rfl ?_
    refine g_iload_n 10 1 F dX2_isOpen_9 rfl rfl ?_
    obtain ⟨q1, e2, hf⟩ := op_bd hf
    refine g_cVi 13 (st := []) F hok (c_X2_doesCount (kl K) B sa h lk hw (kA K) S a1 q1 e2) wy_X2_doesCount ml_X2_67 (c_rc_X2 F) ⟨Nat.le_of_ble_eq_true rfl, Nat.le_of_ble_eq_true rfl⟩ rfl rfl (Nat.le_of_ble_eq_true rfl) ⟨Nat.zero_le _, Nat.zero_le _⟩ dX2_isOpen_10 rfl ?_
    refine g_ifeq_b 20 16 F dX2_isOpen_13 rfl rfl hf (fun _ hf => ?_) (fun _ hf => ?_)
    · refine g_iconst 21 (v := 0) F dX2_isOpen_20 (by decide) rfl ?_
      obtain rfl := Option.some.inj hf
      exact hR _ _ dX2_isOpen_21
    · refine g_iconst 17 (v := 1) F dX2_isOpen_16 (by decide) rfl ?_
      refine g_goto 21 F dX2_isOpen_17 rfl ?_
      obtain rfl := Option.some.inj hf
      exact hR _ _ dX2_isOpen_21
theorem c_X2_isOpen (l : Launch) (B : CB) (sa : Nat → Nat) (h : Nat → Bool) (lk : Nat × Nat) (hw : cWf h lk) (A : Nat → Prop) (S : CS) (a1 : Int32) (q : Bool) (hf : f_X2_isOpen S a1 = some q) : Ci l yX2_isOpen cX2_isOpen 2 (some .boolean) 1 21 (cX B A sa h lk) (cKf B A) A S [.ref (cAf B 7), .int a1] (bI q) S := by
  refine met_z (by decide +kernel) (Nat.le_of_ble_eq_true rfl) (fun K hl hA hn F hR => ?_)
  subst hl; subst hA
  exact w_X2_isOpen B sa h lk hw K F hn S a1 q hf hR
set_option maxHeartbeats 4000000 in
set_option maxRecDepth 100000 in
theorem w_X2_dayOfOldestPoint (B : CB) (sa : Nat → Nat) (h : Nat → Bool) (lk : Nat × Nat) (hw : cWf h lk) (K : Ctx) (F : Fx K cX2_dayOfOldestPoint RX2 (cKf B (kA K)) 0 0) (hn : kn K = 3) (S : CS) (a1 : Int32) (q : Int32) (hf : f_X2_dayOfOldestPoint S a1 = some q) (hR : ∀ (pc : Nat) (lv : List (Nat × Value)), decode cX2_dayOfOldestPoint pc = .ok (.ireturn, 1) → G K (cX B (kA K) sa h lk) 0 0 pc S lv [.int q]) : G K (cX B (kA K) sa h lk) 0 0 0 S [(0, .ref (cAf B 7)), (1, .int a1)] [] := by
  have hok := cKf_ok B (kA K)
  have L_5 : ∀ (n : Nat) (x1 : Int32) (x2 : Int32), l_X2_dayOfOldestPoint_5 S n x1 x2 = some q → G K (cX B (kA K) sa h lk) 0 0 5 S [(0, .ref (cAf B 7)), (1, .int x1), (2, .int x2)] [] := by
    intro n
    induction n with
    | zero =>
      intro x1 x2 hf
      rw [l_X2_dayOfOldestPoint_5] at hf
      cases hf
    | succ n ih =>
      intro x1 x2 hf
      rw [l_X2_dayOfOldestPoint_5] at hf
      refine g_iload_n 6 2 F dX2_dayOfOldestPoint_5 rfl rfl ?_
      refine g_aload_n 7 0 F dX2_dayOfOldestPoint_6 rfl rfl ?_
      refine cg_X2_size 10 F fl_X2_35 dX2_dayOfOldestPoint_7 rfl ?_
      refine g_icmp_ge 50 13 F dX2_dayOfOldestPoint_10 rfl rfl hf (fun _ hf => ?_) (fun _ hf => ?_)
      · refine g_iconst 51 (v := (-1)) F dX2_dayOfOldestPoint_50 (by decide) rfl ?_
        obtain rfl := Option.some.inj hf
        exact hR _ _ dX2_dayOfOldestPoint_51
      · refine g_aload_n 14 0 F dX2_dayOfOldestPoint_13 rfl rfl ?_
        refine cg_X2_counting 17 F fl_X2_15 dX2_dayOfOldestPoint_14 rfl ?_
        refine g_iload_n 18 2 F dX2_dayOfOldestPoint_17 rfl rfl ?_
        obtain ⟨h1, hf⟩ := op_ok hf
        refine cl_A3 19 F h1 dX2_dayOfOldestPoint_18 rfl ?_
        refine g_if_eq 44 22 F dX2_dayOfOldestPoint_19 rfl rfl hf (fun _ hf => ?_) (fun _ hf => ?_)
        · refine g_iinc 47 2 (x2 + 1) [(2, .int (x2 + 1)), (0, .ref (cAf B 7)), (1, .int x1)] F dX2_dayOfOldestPoint_44 rfl rfl (lt_kn hn (by decide)) rfl rfl ?_
          refine g_goto 5 F dX2_dayOfOldestPoint_47 rfl ?_
          exact G.lvs [1, 2, 0] rfl (ih x1 (x2 + 1) hf)
        · refine g_aload_n 23 0 F dX2_dayOfOldestPoint_22 rfl rfl ?_
          refine cg_X2_days 26 F fl_X2_11 dX2_dayOfOldestPoint_23 rfl ?_
          refine g_iload_n 27 2 F dX2_dayOfOldestPoint_26 rfl rfl ?_
          obtain ⟨h2, hf⟩ := op_ok hf
          refine cl_A2 28 F h2 dX2_dayOfOldestPoint_27 rfl ?_
          refine g_iload_n 29 1 F dX2_dayOfOldestPoint_28 rfl rfl ?_
          refine g_aload_n 30 0 F dX2_dayOfOldestPoint_29 rfl rfl ?_
          refine cg_X2_window 33 F fl_X2_22 dX2_dayOfOldestPoint_30 rfl ?_
          refine g_isub 34 F dX2_dayOfOldestPoint_33 rfl ?_
          refine g_icmp_le 44 37 F dX2_dayOfOldestPoint_34 rfl rfl hf (fun _ hf => ?_) (fun _ hf => ?_)
          · refine g_iinc 47 2 (x2 + 1) [(2, .int (x2 + 1)), (0, .ref (cAf B 7)), (1, .int x1)] F dX2_dayOfOldestPoint_44 rfl rfl (lt_kn hn (by decide)) rfl rfl ?_
            refine g_goto 5 F dX2_dayOfOldestPoint_47 rfl ?_
            exact G.lvs [1, 2, 0] rfl (ih x1 (x2 + 1) hf)
          · refine g_aload_n 38 0 F dX2_dayOfOldestPoint_37 rfl rfl ?_
            refine cg_X2_days 41 F fl_X2_11 dX2_dayOfOldestPoint_38 rfl ?_
            refine g_iload_n 42 2 F dX2_dayOfOldestPoint_41 rfl rfl ?_
            obtain ⟨h3, hf⟩ := op_ok hf
            refine cl_A2 43 F h3 dX2_dayOfOldestPoint_42 rfl ?_
            obtain rfl := Option.some.inj hf
            exact hR _ _ dX2_dayOfOldestPoint_43
  unfold f_X2_dayOfOldestPoint at hf
  refine g_aload_n 1 0 F dX2_dayOfOldestPoint_0 rfl rfl ?_
  refine cg_X2_firstOpen 4 F fl_X2_38 dX2_dayOfOldestPoint_1 rfl ?_
  refine g_istore_n 5 [(2, .int (cF S 6)), (0, .ref (cAf B 7)), (1, .int a1)] F dX2_dayOfOldestPoint_4 (lt_kn hn (by decide)) rfl rfl ?_
  exact G.lvs [1, 2, 0] rfl (L_5 fu a1 (cF S 6) hf)
theorem c_X2_dayOfOldestPoint (l : Launch) (B : CB) (sa : Nat → Nat) (h : Nat → Bool) (lk : Nat × Nat) (hw : cWf h lk) (A : Nat → Prop) (S : CS) (a1 : Int32) (q : Int32) (hf : f_X2_dayOfOldestPoint S a1 = some q) : Ci l yX2_dayOfOldestPoint cX2_dayOfOldestPoint 3 (some .int) 0 0 (cX B A sa h lk) (cKf B A) A S [.ref (cAf B 7), .int a1] q S := by
  refine met_i (by decide +kernel) (Nat.le_of_ble_eq_true rfl) (fun K hl hA hn F hR => ?_)
  subst hl; subst hA
  exact w_X2_dayOfOldestPoint B sa h lk hw K F hn S a1 q hf hR
set_option maxHeartbeats 4000000 in
set_option maxRecDepth 100000 in
theorem w_X2_dayOfViolation (B : CB) (sa : Nat → Nat) (h : Nat → Bool) (lk : Nat × Nat) (hw : cWf h lk) (K : Ctx) (F : Fx K cX2_dayOfViolation RX2 (cKf B (kA K)) 0 0) (hn : kn K = 2) (S : CS) (a1 : Int32) (q : Int32) (hf : f_X2_dayOfViolation S a1 = some q) (hR : ∀ (pc : Nat) (lv : List (Nat × Value)), decode cX2_dayOfViolation pc = .ok (.ireturn, 1) → G K (cX B (kA K) sa h lk) 0 0 pc S lv [.int q]) : G K (cX B (kA K) sa h lk) 0 0 0 S [(0, .ref (cAf B 7)), (1, .int a1)] [] := by
  have hok := cKf_ok B (kA K)
  unfold f_X2_dayOfViolation at hf
  refine g_iload_n 1 1 F dX2_dayOfViolation_0 rfl rfl ?_
  refine g_if_lt 21 4 F dX2_dayOfViolation_1 rfl rfl hf (fun _ hf => ?_) (fun _ hf => ?_)
  · refine g_iconst 22 (v := (-1)) F dX2_dayOfViolation_21 (by decide) rfl ?_
    obtain rfl := Option.some.inj hf
    exact hR _ _ dX2_dayOfViolation_22
  · refine g_iload_n 5 1 F dX2_dayOfViolation_4 rfl rfl ?_
    refine g_aload_n 6 0 F dX2_dayOfViolation_5 rfl rfl ?_
    refine cg_X2_violations 9 F fl_X2_32 dX2_dayOfViolation_6 rfl ?_
    refine g_icmp_ge 21 12 F dX2_dayOfViolation_9 rfl rfl hf (fun _ hf => ?_) (fun _ hf => ?_)
    · refine g_iconst 22 (v := (-1)) F dX2_dayOfViolation_21 (by decide) rfl ?_
      obtain rfl := Option.some.inj hf
      exact hR _ _ dX2_dayOfViolation_22
    · refine g_aload_n 13 0 F dX2_dayOfViolation_12 rfl rfl ?_
      refine cg_X2_violationDays 16 F fl_X2_19 dX2_dayOfViolation_13 rfl ?_
      refine g_iload_n 17 1 F dX2_dayOfViolation_16 rfl rfl ?_
      obtain ⟨h1, hf⟩ := op_ok hf
      refine cl_A4 18 F h1 dX2_dayOfViolation_17 rfl ?_
      refine g_goto 22 F dX2_dayOfViolation_18 rfl ?_
      obtain rfl := Option.some.inj hf
      exact hR _ _ dX2_dayOfViolation_22
theorem c_X2_dayOfViolation (l : Launch) (B : CB) (sa : Nat → Nat) (h : Nat → Bool) (lk : Nat × Nat) (hw : cWf h lk) (A : Nat → Prop) (S : CS) (a1 : Int32) (q : Int32) (hf : f_X2_dayOfViolation S a1 = some q) : Ci l yX2_dayOfViolation cX2_dayOfViolation 2 (some .int) 0 0 (cX B A sa h lk) (cKf B A) A S [.ref (cAf B 7), .int a1] q S := by
  refine met_i (by decide +kernel) (Nat.le_of_ble_eq_true rfl) (fun K hl hA hn F hR => ?_)
  subst hl; subst hA
  exact w_X2_dayOfViolation B sa h lk hw K F hn S a1 q hf hR
set_option maxHeartbeats 4000000 in
set_option maxRecDepth 100000 in
theorem w_X3_hasRoomForFive (B : CB) (sa : Nat → Nat) (h : Nat → Bool) (lk : Nat × Nat) (hw : cWf h lk) (K : Ctx) (F : Fx K cX3_hasRoomForFive RX3 (cKf B (kA K)) 0 0) (hn : kn K = 1) (S : CS) (q : Bool) (hf : f_X3_hasRoomForFive S = q) (hR : ∀ (pc : Nat) (lv : List (Nat × Value)), decode cX3_hasRoomForFive pc = .ok (.ireturn, 1) → G K (cX B (kA K) sa h lk) 0 0 pc S lv [.int (bI q)]) : G K (cX B (kA K) sa h lk) 0 0 0 S [(0, .ref (cAf B 11))] [] := by
  have hok := cKf_ok B (kA K)
  unfold f_X3_hasRoomForFive at hf
  refine g_aload_n 1 0 F dX3_hasRoomForFive_0 rfl rfl ?_
  refine cg_X3_size 4 F fl_X3_15 dX3_hasRoomForFive_1 rfl ?_
  refine g_bipush 6 (v := 20) F dX3_hasRoomForFive_4 (by decide) rfl ?_
  refine g_iadd 7 F dX3_hasRoomForFive_6 rfl ?_
  refine g_sipush 10 (v := 400) F dX3_hasRoomForFive_7 (by decide) rfl ?_
  refine g_icmp_gt 17 13 F dX3_hasRoomForFive_10 rfl rfl hf (fun _ hf => ?_) (fun _ hf => ?_)
  · refine g_iconst 18 (v := 0) F dX3_hasRoomForFive_17 (by decide) rfl ?_
    subst hf
    exact hR _ _ dX3_hasRoomForFive_18
  · refine g_iconst 14 (v := 1) F dX3_hasRoomForFive_13 (by decide) rfl ?_
    refine g_goto 18 F dX3_hasRoomForFive_14 rfl ?_
    subst hf
    exact hR _ _ dX3_hasRoomForFive_18
theorem c_X3_hasRoomForFive (l : Launch) (B : CB) (sa : Nat → Nat) (h : Nat → Bool) (lk : Nat × Nat) (hw : cWf h lk) (A : Nat → Prop) (S : CS) (q : Bool) (hf : f_X3_hasRoomForFive S = q) : Ci l yX3_hasRoomForFive cX3_hasRoomForFive 1 (some .boolean) 0 0 (cX B A sa h lk) (cKf B A) A S [.ref (cAf B 11)] (bI q) S := by
  refine met_z (by decide +kernel) (Nat.le_of_ble_eq_true rfl) (fun K hl hA hn F hR => ?_)
  subst hl; subst hA
  exact w_X3_hasRoomForFive B sa h lk hw K F hn S q hf hR
set_option maxHeartbeats 4000000 in
set_option maxRecDepth 100000 in
theorem w_X3_put (B : CB) (sa : Nat → Nat) (h : Nat → Bool) (lk : Nat × Nat) (hw : cWf h lk) (K : Ctx) (F : Fx K cX3_put RX3 (cKf B (kA K)) 0 0) (hn : kn K = 3) (S : CS) (a1 : Int32) (q : CS) (hf : f_X3_put S a1 = some q) (hR : ∀ (pc : Nat) (lv : List (Nat × Value)), decode cX3_put pc = .ok (.return_, 1) → G K (cX B (kA K) sa h lk) 0 0 pc q lv []) : G K (cX B (kA K) sa h lk) 0 0 0 S [(0, .ref (cAf B 11)), (1, .int a1)] [] := by
  have hok := cKf_ok B (kA K)
  have L_3 : ∀ (n : Nat) (S : CS) (x1 : Int32) (x2 : Int32), l_X3_put_3 n S x1 x2 = some q → G K (cX B (kA K) sa h lk) 0 0 3 S [(0, .ref (cAf B 11)), (1, .int x1), (2, .int x2)] [] := by
    intro n
    induction n with
    | zero =>
      intro S x1 x2 hf
      rw [l_X3_put_3] at hf
      cases hf
    | succ n ih =>
      intro S x1 x2 hf
      rw [l_X3_put_3] at hf
      refine g_iload_n 4 2 F dX3_put_3 rfl rfl ?_
      refine g_if_lt 53 7 F dX3_put_4 rfl rfl hf (fun _ hf => ?_) (fun _ hf => ?_)
      · obtain rfl := Option.some.inj hf
        exact hR _ _ dX3_put_53
      · refine g_aload_n 8 0 F dX3_put_7 rfl rfl ?_
        refine cg_X3_size 11 F fl_X3_15 dX3_put_8 rfl ?_
        refine g_if_lt 47 14 F dX3_put_11 rfl rfl hf (fun _ hf => ?_) (fun _ hf => ?_)
        · refine g_iinc 50 2 (x2 + (-8)) [(2, .int (x2 + (-8))), (0, .ref (cAf B 11)), (1, .int x1)] F dX3_put_47 rfl rfl (lt_kn hn (by decide)) rfl rfl ?_
          refine g_goto 3 F dX3_put_50 rfl ?_
          exact G.lvs [1, 2, 0] rfl (ih S x1 (x2 + (-8)) hf)
        · refine g_aload_n 15 0 F dX3_put_14 rfl rfl ?_
          refine cg_X3_size 18 F fl_X3_15 dX3_put_15 rfl ?_
          refine g_sipush 21 (v := 400) F dX3_put_18 (by decide) rfl ?_
          refine g_icmp_ge 47 24 F dX3_put_21 rfl rfl hf (fun _ hf => ?_) (fun _ hf => ?_)
          · refine g_iinc 50 2 (x2 + (-8)) [(2, .int (x2 + (-8))), (0, .ref (cAf B 11)), (1, .int x1)] F dX3_put_47 rfl rfl (lt_kn hn (by decide)) rfl rfl ?_
            refine g_goto 3 F dX3_put_50 rfl ?_
            exact G.lvs [1, 2, 0] rfl (ih S x1 (x2 + (-8)) hf)
          · refine g_aload_n 25 0 F dX3_put_24 rfl rfl ?_
            refine cg_X3_bytes 28 F fl_X3_11 dX3_put_25 rfl ?_
            refine g_aload_n 29 0 F dX3_put_28 rfl rfl ?_
            refine cg_X3_size 32 F fl_X3_15 dX3_put_29 rfl ?_
            refine g_iload_n 33 1 F dX3_put_32 rfl rfl ?_
            refine g_iload_n 34 2 F dX3_put_33 rfl rfl ?_
            refine g_ishr 35 F dX3_put_34 rfl ?_
            refine g_i2b 36 F dX3_put_35 rfl ?_
            obtain ⟨h1, hf⟩ := op_ok hf
            refine cs_A5 37 F h1 dX3_put_36 rfl ?_
            refine g_aload_n 38 0 F dX3_put_37 rfl rfl ?_
            refine g_dup 39 F dX3_put_38 rfl rfl ?_
            refine cg_X3_size 42 F fl_X3_15 dX3_put_39 rfl ?_
            refine g_iconst 43 (v := 1) F dX3_put_42 (by decide) rfl ?_
            refine g_iadd 44 F dX3_put_43 rfl ?_
            refine cp_X3_size 47 F fl_X3_15 dX3_put_44 rfl ?_
            refine g_iinc 50 2 (x2 + (-8)) [(2, .int (x2 + (-8))), (0, .ref (cAf B 11)), (1, .int x1)] F dX3_put_47 rfl rfl (lt_kn hn (by decide)) rfl rfl ?_
            refine g_goto 3 F dX3_put_50 rfl ?_
            exact G.lvs [1, 2, 0] rfl (ih (sF (sA S 5 (cF S 8).toNatClampNeg (vp_nar .byte ((x1 >>> (x2 &&& 31)).toInt8.toInt32))) 8 ((cF (sA S 5 (cF S 8).toNatClampNeg (vp_nar .byte ((x1 >>> (x2 &&& 31)).toInt8.toInt32))) 8) + 1)) x1 (x2 + (-8)) hf)
  unfold f_X3_put at hf
  refine g_bipush 2 (v := 24) F dX3_put_0 (by decide) rfl ?_
  refine g_istore_n 3 [(2, .int 24), (0, .ref (cAf B 11)), (1, .int a1)] F dX3_put_2 (lt_kn hn (by decide)) rfl rfl ?_
  exact G.lvs [1, 2, 0] rfl (L_3 fu S a1 24 hf)
theorem c_X3_put (l : Launch) (B : CB) (sa : Nat → Nat) (h : Nat → Bool) (lk : Nat × Nat) (hw : cWf h lk) (A : Nat → Prop) (S : CS) (a1 : Int32) (q : CS) (hf : f_X3_put S a1 = some q) : Cv l yX3_put cX3_put 3 none 0 0 (cX B A sa h lk) (cKf B A) A S [.ref (cAf B 11), .int a1] q := by
  refine met_v (by decide +kernel) (Nat.le_of_ble_eq_true rfl) (fun K hl hA hn F hR => ?_)
  subst hl; subst hA
  exact w_X3_put B sa h lk hw K F hn S a1 q hf hR
set_option maxHeartbeats 4000000 in
set_option maxRecDepth 100000 in
theorem w_X3_rewind (B : CB) (sa : Nat → Nat) (h : Nat → Bool) (lk : Nat × Nat) (hw : cWf h lk) (K : Ctx) (F : Fx K cX3_rewind RX3 (cKf B (kA K)) 0 0) (hn : kn K = 1) (S : CS) (q : CS) (hf : f_X3_rewind S = q) (hR : ∀ (pc : Nat) (lv : List (Nat × Value)), decode cX3_rewind pc = .ok (.return_, 1) → G K (cX B (kA K) sa h lk) 0 0 pc q lv []) : G K (cX B (kA K) sa h lk) 0 0 0 S [(0, .ref (cAf B 11))] [] := by
  have hok := cKf_ok B (kA K)
  unfold f_X3_rewind at hf
  refine g_aload_n 1 0 F dX3_rewind_0 rfl rfl ?_
  refine g_iconst 2 (v := 0) F dX3_rewind_1 (by decide) rfl ?_
  refine cp_X3_next 5 F fl_X3_19 dX3_rewind_2 rfl ?_
  subst hf
  exact hR _ _ dX3_rewind_5
theorem c_X3_rewind (l : Launch) (B : CB) (sa : Nat → Nat) (h : Nat → Bool) (lk : Nat × Nat) (hw : cWf h lk) (A : Nat → Prop) (S : CS) (q : CS) (hf : f_X3_rewind S = q) : Cv l yX3_rewind cX3_rewind 1 none 0 0 (cX B A sa h lk) (cKf B A) A S [.ref (cAf B 11)] q := by
  refine met_v (by decide +kernel) (Nat.le_of_ble_eq_true rfl) (fun K hl hA hn F hR => ?_)
  subst hl; subst hA
  exact w_X3_rewind B sa h lk hw K F hn S q hf hR
set_option maxHeartbeats 4000000 in
set_option maxRecDepth 100000 in
theorem w_X3_byteAt (B : CB) (sa : Nat → Nat) (h : Nat → Bool) (lk : Nat × Nat) (hw : cWf h lk) (K : Ctx) (F : Fx K cX3_byteAt RX3 (cKf B (kA K)) 0 0) (hn : kn K = 2) (S : CS) (a1 : Int32) (q : Int32) (hf : f_X3_byteAt S a1 = some q) (hR : ∀ (pc : Nat) (lv : List (Nat × Value)), decode cX3_byteAt pc = .ok (.ireturn, 1) → G K (cX B (kA K) sa h lk) 0 0 pc S lv [.int q]) : G K (cX B (kA K) sa h lk) 0 0 0 S [(0, .ref (cAf B 11)), (1, .int a1)] [] := by
  have hok := cKf_ok B (kA K)
  unfold f_X3_byteAt at hf
  refine g_iload_n 1 1 F dX3_byteAt_0 rfl rfl ?_
  refine g_if_lt 32 4 F dX3_byteAt_1 rfl rfl hf (fun _ hf => ?_) (fun _ hf => ?_)
  · refine g_iconst 33 (v := (-1)) F dX3_byteAt_32 (by decide) rfl ?_
    obtain rfl := Option.some.inj hf
    exact hR _ _ dX3_byteAt_33
  · refine g_iload_n 5 1 F dX3_byteAt_4 rfl rfl ?_
    refine g_aload_n 6 0 F dX3_byteAt_5 rfl rfl ?_
    refine cg_X3_size 9 F fl_X3_15 dX3_byteAt_6 rfl ?_
    refine g_icmp_ge 32 12 F dX3_byteAt_9 rfl rfl hf (fun _ hf => ?_) (fun _ hf => ?_)
    · refine g_iconst 33 (v := (-1)) F dX3_byteAt_32 (by decide) rfl ?_
      obtain rfl := Option.some.inj hf
      exact hR _ _ dX3_byteAt_33
    · refine g_iload_n 13 1 F dX3_byteAt_12 rfl rfl ?_
      refine g_sipush 16 (v := 400) F dX3_byteAt_13 (by decide) rfl ?_
      refine g_icmp_ge 32 19 F dX3_byteAt_16 rfl rfl hf (fun _ hf => ?_) (fun _ hf => ?_)
      · refine g_iconst 33 (v := (-1)) F dX3_byteAt_32 (by decide) rfl ?_
        obtain rfl := Option.some.inj hf
        exact hR _ _ dX3_byteAt_33
      · refine g_aload_n 20 0 F dX3_byteAt_19 rfl rfl ?_
        refine cg_X3_bytes 23 F fl_X3_11 dX3_byteAt_20 rfl ?_
        refine g_iload_n 24 1 F dX3_byteAt_23 rfl rfl ?_
        obtain ⟨h1, hf⟩ := op_ok hf
        refine cl_A5 25 F h1 dX3_byteAt_24 rfl ?_
        refine g_sipush 28 (v := 255) F dX3_byteAt_25 (by decide) rfl ?_
        refine g_iand 29 F dX3_byteAt_28 rfl ?_
        refine g_goto 33 F dX3_byteAt_29 rfl ?_
        obtain rfl := Option.some.inj hf
        exact hR _ _ dX3_byteAt_33
theorem c_X3_byteAt (l : Launch) (B : CB) (sa : Nat → Nat) (h : Nat → Bool) (lk : Nat × Nat) (hw : cWf h lk) (A : Nat → Prop) (S : CS) (a1 : Int32) (q : Int32) (hf : f_X3_byteAt S a1 = some q) : Ci l yX3_byteAt cX3_byteAt 2 (some .int) 0 0 (cX B A sa h lk) (cKf B A) A S [.ref (cAf B 11), .int a1] q S := by
  refine met_i (by decide +kernel) (Nat.le_of_ble_eq_true rfl) (fun K hl hA hn F hR => ?_)
  subst hl; subst hA
  exact w_X3_byteAt B sa h lk hw K F hn S a1 q hf hR
set_option maxHeartbeats 4000000 in
set_option maxRecDepth 100000 in
theorem w_X3_isBlank (B : CB) (sa : Nat → Nat) (h : Nat → Bool) (lk : Nat × Nat) (hw : cWf h lk) (K : Ctx) (F : Fx K cX3_isBlank RX3 (cKf B (kA K)) 0 0) (hn : kn K = 1) (S : CS) (a1 : Int32) (q : Bool) (hf : f_X3_isBlank a1 = q) (hR : ∀ (pc : Nat) (lv : List (Nat × Value)), decode cX3_isBlank pc = .ok (.ireturn, 1) → G K (cX B (kA K) sa h lk) 0 0 pc S lv [.int (bI q)]) : G K (cX B (kA K) sa h lk) 0 0 0 S [(0, .int a1)] [] := by
  have hok := cKf_ok B (kA K)
  unfold f_X3_isBlank at hf
  refine g_iload_n 1 0 F dX3_isBlank_0 rfl rfl ?_
  refine g_bipush 3 (v := 32) F dX3_isBlank_1 (by decide) rfl ?_
  refine g_icmp_eq 12 6 F dX3_isBlank_3 rfl rfl hf (fun _ hf => ?_) (fun _ hf => ?_)
  · refine g_iconst 13 (v := 1) F dX3_isBlank_12 (by decide) rfl ?_
    refine g_goto 17 F dX3_isBlank_13 rfl ?_
    subst hf
    exact hR _ _ dX3_isBlank_17
  · refine g_iload_n 7 0 F dX3_isBlank_6 rfl rfl ?_
    refine g_bipush 9 (v := 10) F dX3_isBlank_7 (by decide) rfl ?_
    refine g_icmp_ne 16 12 F dX3_isBlank_9 rfl rfl hf (fun _ hf => ?_) (fun _ hf => ?_)
    · refine g_iconst 17 (v := 0) F dX3_isBlank_16 (by decide) rfl ?_
      subst hf
      exact hR _ _ dX3_isBlank_17
    · refine g_iconst 13 (v := 1) F dX3_isBlank_12 (by decide) rfl ?_
      refine g_goto 17 F dX3_isBlank_13 rfl ?_
      subst hf
      exact hR _ _ dX3_isBlank_17
theorem c_X3_isBlank (l : Launch) (B : CB) (sa : Nat → Nat) (h : Nat → Bool) (lk : Nat × Nat) (hw : cWf h lk) (A : Nat → Prop) (S : CS) (a1 : Int32) (q : Bool) (hf : f_X3_isBlank a1 = q) : Ci l yX3_isBlank cX3_isBlank 1 (some .boolean) 0 0 (cX B A sa h lk) (cKf B A) A S [.int a1] (bI q) S := by
  refine met_z (by decide +kernel) (Nat.le_of_ble_eq_true rfl) (fun K hl hA hn F hR => ?_)
  subst hl; subst hA
  exact w_X3_isBlank B sa h lk hw K F hn S a1 q hf hR
set_option maxHeartbeats 4000000 in
set_option maxRecDepth 100000 in
theorem w_X3_isLetter (B : CB) (sa : Nat → Nat) (h : Nat → Bool) (lk : Nat × Nat) (hw : cWf h lk) (K : Ctx) (F : Fx K cX3_isLetter RX3 (cKf B (kA K)) 0 0) (hn : kn K = 1) (S : CS) (a1 : Int32) (q : Bool) (hf : f_X3_isLetter a1 = q) (hR : ∀ (pc : Nat) (lv : List (Nat × Value)), decode cX3_isLetter pc = .ok (.ireturn, 1) → G K (cX B (kA K) sa h lk) 0 0 pc S lv [.int (bI q)]) : G K (cX B (kA K) sa h lk) 0 0 0 S [(0, .int a1)] [] := by
  have hok := cKf_ok B (kA K)
  unfold f_X3_isLetter at hf
  refine g_iload_n 1 0 F dX3_isLetter_0 rfl rfl ?_
  refine g_bipush 3 (v := 97) F dX3_isLetter_1 (by decide) rfl ?_
  refine g_icmp_lt 16 6 F dX3_isLetter_3 rfl rfl hf (fun _ hf => ?_) (fun _ hf => ?_)
  · refine g_iconst 17 (v := 0) F dX3_isLetter_16 (by decide) rfl ?_
    subst hf
    exact hR _ _ dX3_isLetter_17
  · refine g_iload_n 7 0 F dX3_isLetter_6 rfl rfl ?_
    refine g_bipush 9 (v := 122) F dX3_isLetter_7 (by decide) rfl ?_
    refine g_icmp_gt 16 12 F dX3_isLetter_9 rfl rfl hf (fun _ hf => ?_) (fun _ hf => ?_)
    · refine g_iconst 17 (v := 0) F dX3_isLetter_16 (by decide) rfl ?_
      subst hf
      exact hR _ _ dX3_isLetter_17
    · refine g_iconst 13 (v := 1) F dX3_isLetter_12 (by decide) rfl ?_
      refine g_goto 17 F dX3_isLetter_13 rfl ?_
      subst hf
      exact hR _ _ dX3_isLetter_17
theorem c_X3_isLetter (l : Launch) (B : CB) (sa : Nat → Nat) (h : Nat → Bool) (lk : Nat × Nat) (hw : cWf h lk) (A : Nat → Prop) (S : CS) (a1 : Int32) (q : Bool) (hf : f_X3_isLetter a1 = q) : Ci l yX3_isLetter cX3_isLetter 1 (some .boolean) 0 0 (cX B A sa h lk) (cKf B A) A S [.int a1] (bI q) S := by
  refine met_z (by decide +kernel) (Nat.le_of_ble_eq_true rfl) (fun K hl hA hn F hR => ?_)
  subst hl; subst hA
  exact w_X3_isLetter B sa h lk hw K F hn S a1 q hf hR
set_option maxHeartbeats 4000000 in
set_option maxRecDepth 100000 in
theorem w_X3_readWord (B : CB) (sa : Nat → Nat) (h : Nat → Bool) (lk : Nat × Nat) (hw : cWf h lk) (K : Ctx) (F : Fx K cX3_readWord RX3 (cKf B (kA K)) 1 21) (hn : kn K = 1) (S : CS) (q : CS) (hf : f_X3_readWord S = some q) (hR : ∀ (pc : Nat) (lv : List (Nat × Value)), decode cX3_readWord pc = .ok (.return_, 1) → G K (cX B (kA K) sa h lk) 0 0 pc q lv []) : G K (cX B (kA K) sa h lk) 0 0 0 S [(0, .ref (cAf B 11))] [] := by
  have hok := cKf_ok B (kA K)
  have L_5 : ∀ (n : Nat) (S : CS), l_X3_readWord_5 n S = some q → G K (cX B (kA K) sa h lk) 0 0 5 S [(0, .ref (cAf B 11))] [] := by
    intro n
    induction n with
    | zero =>
      intro S hf
      rw [l_X3_readWord_5] at hf
      cases hf
    | succ n ih =>
      intro S hf
      rw [l_X3_readWord_5] at hf
      refine g_aload_n 6 0 F dX3_readWord_5 rfl rfl ?_
      refine cg_X3_next 9 F fl_X3_19 dX3_readWord_6 rfl ?_
      refine g_aload_n 10 0 F dX3_readWord_9 rfl rfl ?_
      refine cg_X3_size 13 F fl_X3_15 dX3_readWord_10 rfl ?_
      refine g_icmp_ge 43 16 F dX3_readWord_13 rfl rfl hf (fun _ hf => ?_) (fun _ hf => ?_)
      · obtain rfl := Option.some.inj hf
        exact hR _ _ dX3_readWord_43
      · refine g_aload_n 17 0 F dX3_readWord_16 rfl rfl ?_
        refine g_aload_n 18 0 F dX3_readWord_17 rfl rfl ?_
        refine cg_X3_next 21 F fl_X3_19 dX3_readWord_18 rfl ?_
        obtain ⟨q1, e2, hf⟩ := op_bd hf
        refine g_cVi 24 (st := []) F hok (c_X3_byteAt (kl K) B sa h lk hw (kA K) S (cF S 12) q1 e2) wy_X3_byteAt ml_X3_22 (c_rc_X3 F) ⟨Nat.le_of_ble_eq_true rfl, Nat.le_of_ble_eq_true rfl⟩ rfl rfl (Nat.le_of_ble_eq_true rfl) ⟨Nat.zero_le _, Nat.zero_le _⟩ dX3_readWord_21 rfl ?_
        refine g_cSi 27 (st := []) F hok (c_X3_isLetter (kl K) B sa h lk hw (kA K) S q1 _ rfl) ws_X3_isLetter ml_X3_36 ⟨Nat.le_of_ble_eq_true rfl, Nat.le_of_ble_eq_true rfl⟩ rfl rfl (Nat.le_of_ble_eq_true rfl) ⟨Nat.zero_le _, Nat.zero_le _⟩ dX3_readWord_24 rfl ?_
        refine g_ifeq_b 43 30 F dX3_readWord_27 rfl rfl hf (fun _ hf => ?_) (fun _ hf => ?_)
        · obtain rfl := Option.some.inj hf
          exact hR _ _ dX3_readWord_43
        · refine g_aload_n 31 0 F dX3_readWord_30 rfl rfl ?_
          refine g_dup 32 F dX3_readWord_31 rfl rfl ?_
          refine cg_X3_next 35 F fl_X3_19 dX3_readWord_32 rfl ?_
          refine g_iconst 36 (v := 1) F dX3_readWord_35 (by decide) rfl ?_
          refine g_iadd 37 F dX3_readWord_36 rfl ?_
          refine cp_X3_next 40 F fl_X3_19 dX3_readWord_37 rfl ?_
          refine g_goto 5 F dX3_readWord_40 rfl ?_
          exact G.lvs [0] rfl (ih (sF S 12 ((cF S 12) + 1)) hf)
  unfold f_X3_readWord at hf
  refine g_aload_n 1 0 F dX3_readWord_0 rfl rfl ?_
  refine g_iconst 2 (v := 1) F dX3_readWord_1 (by decide) rfl ?_
  refine cp_X3_token 5 F fl_X3_33 dX3_readWord_2 rfl ?_
  exact G.lvs [0] rfl (L_5 fu (sF S 9 1) hf)
theorem c_X3_readWord (l : Launch) (B : CB) (sa : Nat → Nat) (h : Nat → Bool) (lk : Nat × Nat) (hw : cWf h lk) (A : Nat → Prop) (S : CS) (q : CS) (hf : f_X3_readWord S = some q) : Cv l yX3_readWord cX3_readWord 1 none 1 21 (cX B A sa h lk) (cKf B A) A S [.ref (cAf B 11)] q := by
  refine met_v (by decide +kernel) (Nat.le_of_ble_eq_true rfl) (fun K hl hA hn F hR => ?_)
  subst hl; subst hA
  exact w_X3_readWord B sa h lk hw K F hn S q hf hR
set_option maxHeartbeats 4000000 in
set_option maxRecDepth 100000 in
theorem w_X3_isDigit (B : CB) (sa : Nat → Nat) (h : Nat → Bool) (lk : Nat × Nat) (hw : cWf h lk) (K : Ctx) (F : Fx K cX3_isDigit RX3 (cKf B (kA K)) 0 0) (hn : kn K = 1) (S : CS) (a1 : Int32) (q : Bool) (hf : f_X3_isDigit a1 = q) (hR : ∀ (pc : Nat) (lv : List (Nat × Value)), decode cX3_isDigit pc = .ok (.ireturn, 1) → G K (cX B (kA K) sa h lk) 0 0 pc S lv [.int (bI q)]) : G K (cX B (kA K) sa h lk) 0 0 0 S [(0, .int a1)] [] := by
  have hok := cKf_ok B (kA K)
  unfold f_X3_isDigit at hf
  refine g_iload_n 1 0 F dX3_isDigit_0 rfl rfl ?_
  refine g_bipush 3 (v := 48) F dX3_isDigit_1 (by decide) rfl ?_
  refine g_icmp_lt 16 6 F dX3_isDigit_3 rfl rfl hf (fun _ hf => ?_) (fun _ hf => ?_)
  · refine g_iconst 17 (v := 0) F dX3_isDigit_16 (by decide) rfl ?_
    subst hf
    exact hR _ _ dX3_isDigit_17
  · refine g_iload_n 7 0 F dX3_isDigit_6 rfl rfl ?_
    refine g_bipush 9 (v := 57) F dX3_isDigit_7 (by decide) rfl ?_
    refine g_icmp_gt 16 12 F dX3_isDigit_9 rfl rfl hf (fun _ hf => ?_) (fun _ hf => ?_)
    · refine g_iconst 17 (v := 0) F dX3_isDigit_16 (by decide) rfl ?_
      subst hf
      exact hR _ _ dX3_isDigit_17
    · refine g_iconst 13 (v := 1) F dX3_isDigit_12 (by decide) rfl ?_
      refine g_goto 17 F dX3_isDigit_13 rfl ?_
      subst hf
      exact hR _ _ dX3_isDigit_17
theorem c_X3_isDigit (l : Launch) (B : CB) (sa : Nat → Nat) (h : Nat → Bool) (lk : Nat × Nat) (hw : cWf h lk) (A : Nat → Prop) (S : CS) (a1 : Int32) (q : Bool) (hf : f_X3_isDigit a1 = q) : Ci l yX3_isDigit cX3_isDigit 1 (some .boolean) 0 0 (cX B A sa h lk) (cKf B A) A S [.int a1] (bI q) S := by
  refine met_z (by decide +kernel) (Nat.le_of_ble_eq_true rfl) (fun K hl hA hn F hR => ?_)
  subst hl; subst hA
  exact w_X3_isDigit B sa h lk hw K F hn S a1 q hf hR
set_option maxHeartbeats 4000000 in
set_option maxRecDepth 100000 in
theorem w_X3_readNumber (B : CB) (sa : Nat → Nat) (h : Nat → Bool) (lk : Nat × Nat) (hw : cWf h lk) (K : Ctx) (F : Fx K cX3_readNumber RX3 (cKf B (kA K)) 1 21) (hn : kn K = 1) (S : CS) (q : CS) (hf : f_X3_readNumber S = some q) (hR : ∀ (pc : Nat) (lv : List (Nat × Value)), decode cX3_readNumber pc = .ok (.return_, 1) → G K (cX B (kA K) sa h lk) 0 0 pc q lv []) : G K (cX B (kA K) sa h lk) 0 0 0 S [(0, .ref (cAf B 11))] [] := by
  have hok := cKf_ok B (kA K)
  have J_79 : ∀ (S : CS), j_X3_readNumber_79 S = some q → G K (cX B (kA K) sa h lk) 0 0 79 S [(0, .ref (cAf B 11))] [] := by
    intro S hf
    unfold j_X3_readNumber_79 at hf
    refine g_aload_n 80 0 F dX3_readNumber_79 rfl rfl ?_
    refine g_aload_n 81 0 F dX3_readNumber_80 rfl rfl ?_
    refine cg_X3_next 84 F fl_X3_19 dX3_readNumber_81 rfl ?_
    refine g_aload_n 85 0 F dX3_readNumber_84 rfl rfl ?_
    refine cg_X3_first 88 F fl_X3_30 dX3_readNumber_85 rfl ?_
    refine g_isub 89 F dX3_readNumber_88 rfl ?_
    refine g_iconst 90 (v := 4) F dX3_readNumber_89 (by decide) rfl ?_
    refine g_icmp_le 97 93 F dX3_readNumber_90 rfl rfl hf (fun _ hf => ?_) (fun _ hf => ?_)
    · refine g_iconst 98 (v := 2) F dX3_readNumber_97 (by decide) rfl ?_
      refine cp_X3_token 101 F fl_X3_33 dX3_readNumber_98 rfl ?_
      obtain rfl := Option.some.inj hf
      exact hR _ _ dX3_readNumber_101
    · refine g_iconst 94 (v := 4) F dX3_readNumber_93 (by decide) rfl ?_
      refine g_goto 98 F dX3_readNumber_94 rfl ?_
      refine cp_X3_token 101 F fl_X3_33 dX3_readNumber_98 rfl ?_
      obtain rfl := Option.some.inj hf
      exact hR _ _ dX3_readNumber_101
  have L_5 : ∀ (n : Nat) (S : CS), l_X3_readNumber_5 n S = some q → G K (cX B (kA K) sa h lk) 0 0 5 S [(0, .ref (cAf B 11))] [] := by
    intro n
    induction n with
    | zero =>
      intro S hf
      rw [l_X3_readNumber_5] at hf
      cases hf
    | succ n ih =>
      intro S hf
      rw [l_X3_readNumber_5] at hf
      refine g_aload_n 6 0 F dX3_readNumber_5 rfl rfl ?_
      refine cg_X3_next 9 F fl_X3_19 dX3_readNumber_6 rfl ?_
      refine g_aload_n 10 0 F dX3_readNumber_9 rfl rfl ?_
      refine cg_X3_size 13 F fl_X3_15 dX3_readNumber_10 rfl ?_
      refine g_icmp_ge 79 16 F dX3_readNumber_13 rfl rfl hf (fun _ hf => ?_) (fun _ hf => ?_)
      · exact G.lvs [0] rfl (J_79 S hf)
      · refine g_aload_n 17 0 F dX3_readNumber_16 rfl rfl ?_
        refine g_aload_n 18 0 F dX3_readNumber_17 rfl rfl ?_
        refine cg_X3_next 21 F fl_X3_19 dX3_readNumber_18 rfl ?_
        obtain ⟨q1, e2, hf⟩ := op_bd hf
        refine g_cVi 24 (st := []) F hok (c_X3_byteAt (kl K) B sa h lk hw (kA K) S (cF S 12) q1 e2) wy_X3_byteAt ml_X3_22 (c_rc_X3 F) ⟨Nat.le_of_ble_eq_true rfl, Nat.le_of_ble_eq_true rfl⟩ rfl rfl (Nat.le_of_ble_eq_true rfl) ⟨Nat.zero_le _, Nat.zero_le _⟩ dX3_readNumber_21 rfl ?_
        refine g_cSi 27 (st := []) F hok (c_X3_isDigit (kl K) B sa h lk hw (kA K) S q1 _ rfl) ws_X3_isDigit ml_X3_42 ⟨Nat.le_of_ble_eq_true rfl, Nat.le_of_ble_eq_true rfl⟩ rfl rfl (Nat.le_of_ble_eq_true rfl) ⟨Nat.zero_le _, Nat.zero_le _⟩ dX3_readNumber_24 rfl ?_
        refine g_ifeq_b 79 30 F dX3_readNumber_27 rfl rfl hf (fun _ hf => ?_) (fun _ hf => ?_)
        · exact G.lvs [0] rfl (J_79 S hf)
        · refine g_aload_n 31 0 F dX3_readNumber_30 rfl rfl ?_
          refine cg_X3_next 34 F fl_X3_19 dX3_readNumber_31 rfl ?_
          refine g_aload_n 35 0 F dX3_readNumber_34 rfl rfl ?_
          refine cg_X3_first 38 F fl_X3_30 dX3_readNumber_35 rfl ?_
          refine g_isub 39 F dX3_readNumber_38 rfl ?_
          refine g_iconst 40 (v := 4) F dX3_readNumber_39 (by decide) rfl ?_
          refine g_icmp_ge 66 43 F dX3_readNumber_40 rfl rfl hf (fun _ hf => ?_) (fun _ hf => ?_)
          · refine g_aload_n 67 0 F dX3_readNumber_66 rfl rfl ?_
            refine g_dup 68 F dX3_readNumber_67 rfl rfl ?_
            refine cg_X3_next 71 F fl_X3_19 dX3_readNumber_68 rfl ?_
            refine g_iconst 72 (v := 1) F dX3_readNumber_71 (by decide) rfl ?_
            refine g_iadd 73 F dX3_readNumber_72 rfl ?_
            refine cp_X3_next 76 F fl_X3_19 dX3_readNumber_73 rfl ?_
            refine g_goto 5 F dX3_readNumber_76 rfl ?_
            exact G.lvs [0] rfl (ih (sF S 12 ((cF S 12) + 1)) hf)
          · refine g_aload_n 44 0 F dX3_readNumber_43 rfl rfl ?_
            refine g_aload_n 45 0 F dX3_readNumber_44 rfl rfl ?_
            refine cg_X3_value 48 F fl_X3_48 dX3_readNumber_45 rfl ?_
            refine g_bipush 50 (v := 10) F dX3_readNumber_48 (by decide) rfl ?_
            refine g_imul 51 F dX3_readNumber_50 rfl ?_
            refine g_aload_n 52 0 F dX3_readNumber_51 rfl rfl ?_
            refine g_aload_n 53 0 F dX3_readNumber_52 rfl rfl ?_
            refine cg_X3_next 56 F fl_X3_19 dX3_readNumber_53 rfl ?_
            obtain ⟨q3, e4, hf⟩ := op_bd hf
            refine g_cVi 59 (st := [.int ((cF S 11) * 10), .ref (cAf B 11)]) F hok (c_X3_byteAt (kl K) B sa h lk hw (kA K) S (cF S 12) q3 e4) wy_X3_byteAt ml_X3_22 (c_rc_X3 F) ⟨Nat.le_of_ble_eq_true rfl, Nat.le_of_ble_eq_true rfl⟩ rfl rfl (Nat.le_of_ble_eq_true rfl) ⟨Nat.zero_le _, Nat.zero_le _⟩ dX3_readNumber_56 rfl ?_
            refine g_iadd 60 F dX3_readNumber_59 rfl ?_
            refine g_bipush 62 (v := 48) F dX3_readNumber_60 (by decide) rfl ?_
            refine g_isub 63 F dX3_readNumber_62 rfl ?_
            refine cp_X3_value 66 F fl_X3_48 dX3_readNumber_63 rfl ?_
            refine g_aload_n 67 0 F dX3_readNumber_66 rfl rfl ?_
            refine g_dup 68 F dX3_readNumber_67 rfl rfl ?_
            refine cg_X3_next 71 F fl_X3_19 dX3_readNumber_68 rfl ?_
            refine g_iconst 72 (v := 1) F dX3_readNumber_71 (by decide) rfl ?_
            refine g_iadd 73 F dX3_readNumber_72 rfl ?_
            refine cp_X3_next 76 F fl_X3_19 dX3_readNumber_73 rfl ?_
            refine g_goto 5 F dX3_readNumber_76 rfl ?_
            exact G.lvs [0] rfl (ih (sF (sF S 11 ((((cF S 11) * 10) + q3) - 48)) 12 ((cF (sF S 11 ((((cF S 11) * 10) + q3) - 48)) 12) + 1)) hf)
  unfold f_X3_readNumber at hf
  refine g_aload_n 1 0 F dX3_readNumber_0 rfl rfl ?_
  refine g_iconst 2 (v := 0) F dX3_readNumber_1 (by decide) rfl ?_
  refine cp_X3_value 5 F fl_X3_48 dX3_readNumber_2 rfl ?_
  exact G.lvs [0] rfl (L_5 fu (sF S 11 0) hf)
theorem c_X3_readNumber (l : Launch) (B : CB) (sa : Nat → Nat) (h : Nat → Bool) (lk : Nat × Nat) (hw : cWf h lk) (A : Nat → Prop) (S : CS) (q : CS) (hf : f_X3_readNumber S = some q) : Cv l yX3_readNumber cX3_readNumber 1 none 1 21 (cX B A sa h lk) (cKf B A) A S [.ref (cAf B 11)] q := by
  refine met_v (by decide +kernel) (Nat.le_of_ble_eq_true rfl) (fun K hl hA hn F hR => ?_)
  subst hl; subst hA
  exact w_X3_readNumber B sa h lk hw K F hn S q hf hR
set_option maxHeartbeats 4000000 in
set_option maxRecDepth 100000 in
theorem w_X3_readToken (B : CB) (sa : Nat → Nat) (h : Nat → Bool) (lk : Nat × Nat) (hw : cWf h lk) (K : Ctx) (F : Fx K cX3_readToken RX3 (cKf B (kA K)) 2 41) (hn : kn K = 2) (S : CS) (q : CS) (hf : f_X3_readToken S = some q) (hR : ∀ (pc : Nat) (lv : List (Nat × Value)), decode cX3_readToken pc = .ok (.return_, 1) → G K (cX B (kA K) sa h lk) 0 0 pc q lv []) : G K (cX B (kA K) sa h lk) 0 0 0 S [(0, .ref (cAf B 11))] [] := by
  have hok := cKf_ok B (kA K)
  have J_38 : ∀ (S : CS), j_X3_readToken_38 S = some q → G K (cX B (kA K) sa h lk) 0 0 38 S [(0, .ref (cAf B 11))] [] := by
    intro S hf
    unfold j_X3_readToken_38 at hf
    refine g_aload_n 39 0 F dX3_readToken_38 rfl rfl ?_
    refine g_aload_n 40 0 F dX3_readToken_39 rfl rfl ?_
    refine cg_X3_next 43 F fl_X3_19 dX3_readToken_40 rfl ?_
    refine cp_X3_first 46 F fl_X3_30 dX3_readToken_43 rfl ?_
    refine g_aload_n 47 0 F dX3_readToken_46 rfl rfl ?_
    refine g_aload_n 48 0 F dX3_readToken_47 rfl rfl ?_
    refine cg_X3_next 51 F fl_X3_19 dX3_readToken_48 rfl ?_
    obtain ⟨q1, e2, hf⟩ := op_bd hf
    refine g_cVi 54 (st := []) F hok (c_X3_byteAt (kl K) B sa h lk hw (kA K) (sF S 10 (cF S 12)) (cF (sF S 10 (cF S 12)) 12) q1 e2) wy_X3_byteAt ml_X3_22 (c_rc_X3 F) ⟨Nat.le_of_ble_eq_true rfl, Nat.le_of_ble_eq_true rfl⟩ rfl rfl (Nat.le_of_ble_eq_true rfl) ⟨Nat.zero_le _, Nat.zero_le _⟩ dX3_readToken_51 rfl ?_
    refine g_istore_n 55 [(1, .int q1), (0, .ref (cAf B 11))] F dX3_readToken_54 (lt_kn hn (by decide)) rfl rfl ?_
    refine g_iload_n 56 0 F dX3_readToken_55 rfl rfl ?_
    refine g_iconst 57 (v := (-1)) F dX3_readToken_56 (by decide) rfl ?_
    refine g_icmp_ne 68 60 F dX3_readToken_57 rfl rfl hf (fun _ hf => ?_) (fun _ hf => ?_)
    · refine g_iload_n 69 0 F dX3_readToken_68 rfl rfl ?_
      refine g_cSi 72 (st := []) F hok (c_X3_isLetter (kl K) B sa h lk hw (kA K) (sF S 10 (cF S 12)) q1 _ rfl) ws_X3_isLetter ml_X3_36 ⟨Nat.le_of_ble_eq_true rfl, Nat.le_of_ble_eq_true rfl⟩ rfl rfl (Nat.le_of_ble_eq_true rfl) ⟨Nat.zero_le _, Nat.zero_le _⟩ dX3_readToken_69 rfl ?_
      refine g_ifeq_b 82 75 F dX3_readToken_72 rfl rfl hf (fun _ hf => ?_) (fun _ hf => ?_)
      · refine g_iload_n 83 0 F dX3_readToken_82 rfl rfl ?_
        refine g_cSi 86 (st := []) F hok (c_X3_isDigit (kl K) B sa h lk hw (kA K) (sF S 10 (cF S 12)) q1 _ rfl) ws_X3_isDigit ml_X3_42 ⟨Nat.le_of_ble_eq_true rfl, Nat.le_of_ble_eq_true rfl⟩ rfl rfl (Nat.le_of_ble_eq_true rfl) ⟨Nat.zero_le _, Nat.zero_le _⟩ dX3_readToken_83 rfl ?_
        refine g_ifeq_b 96 89 F dX3_readToken_86 rfl rfl hf (fun _ hf => ?_) (fun _ hf => ?_)
        · refine g_aload_n 97 1 F dX3_readToken_96 rfl rfl ?_
          refine g_iload_n 98 0 F dX3_readToken_97 rfl rfl ?_
          refine g_bipush 100 (v := 59) F dX3_readToken_98 (by decide) rfl ?_
          refine g_icmp_ne 107 103 F dX3_readToken_100 rfl rfl hf (fun _ hf => ?_) (fun _ hf => ?_)
          · refine g_iconst 108 (v := 4) F dX3_readToken_107 (by decide) rfl ?_
            refine cp_X3_token 111 F fl_X3_33 dX3_readToken_108 rfl ?_
            refine g_aload_n 112 1 F dX3_readToken_111 rfl rfl ?_
            refine g_dup 113 F dX3_readToken_112 rfl rfl ?_
            refine cg_X3_next 116 F fl_X3_19 dX3_readToken_113 rfl ?_
            refine g_iconst 117 (v := 1) F dX3_readToken_116 (by decide) rfl ?_
            refine g_iadd 118 F dX3_readToken_117 rfl ?_
            refine cp_X3_next 121 F fl_X3_19 dX3_readToken_118 rfl ?_
            obtain rfl := Option.some.inj hf
            exact hR _ _ dX3_readToken_121
          · refine g_iconst 104 (v := 3) F dX3_readToken_103 (by decide) rfl ?_
            refine g_goto 108 F dX3_readToken_104 rfl ?_
            refine cp_X3_token 111 F fl_X3_33 dX3_readToken_108 rfl ?_
            refine g_aload_n 112 1 F dX3_readToken_111 rfl rfl ?_
            refine g_dup 113 F dX3_readToken_112 rfl rfl ?_
            refine cg_X3_next 116 F fl_X3_19 dX3_readToken_113 rfl ?_
            refine g_iconst 117 (v := 1) F dX3_readToken_116 (by decide) rfl ?_
            refine g_iadd 118 F dX3_readToken_117 rfl ?_
            refine cp_X3_next 121 F fl_X3_19 dX3_readToken_118 rfl ?_
            obtain rfl := Option.some.inj hf
            exact hR _ _ dX3_readToken_121
        · refine g_aload_n 90 1 F dX3_readToken_89 rfl rfl ?_
          obtain ⟨q3, e4, hf⟩ := op_bd hf
          refine g_cVv 93 (st := []) F hok (c_X3_readNumber (kl K) B sa h lk hw (kA K) (sF S 10 (cF S 12)) q3 e4) wy_X3_readNumber ml_X3_45 (c_rc_X3 F) ⟨Nat.le_of_ble_eq_true rfl, Nat.le_of_ble_eq_true rfl⟩ rfl rfl (Nat.le_of_ble_eq_true rfl) ⟨Nat.zero_le _, Nat.zero_le _⟩ dX3_readToken_90 rfl ?_
          refine g_goto 121 F dX3_readToken_93 rfl ?_
          obtain rfl := Option.some.inj hf
          exact hR _ _ dX3_readToken_121
      · refine g_aload_n 76 1 F dX3_readToken_75 rfl rfl ?_
        obtain ⟨q5, e6, hf⟩ := op_bd hf
        refine g_cVv 79 (st := []) F hok (c_X3_readWord (kl K) B sa h lk hw (kA K) (sF S 10 (cF S 12)) q5 e6) wy_X3_readWord ml_X3_39 (c_rc_X3 F) ⟨Nat.le_of_ble_eq_true rfl, Nat.le_of_ble_eq_true rfl⟩ rfl rfl (Nat.le_of_ble_eq_true rfl) ⟨Nat.zero_le _, Nat.zero_le _⟩ dX3_readToken_76 rfl ?_
        refine g_goto 121 F dX3_readToken_79 rfl ?_
        obtain rfl := Option.some.inj hf
        exact hR _ _ dX3_readToken_121
    · refine g_aload_n 61 1 F dX3_readToken_60 rfl rfl ?_
      refine g_iconst 62 (v := 0) F dX3_readToken_61 (by decide) rfl ?_
      refine cp_X3_token 65 F fl_X3_33 dX3_readToken_62 rfl ?_
      refine g_goto 121 F dX3_readToken_65 rfl ?_
      obtain rfl := Option.some.inj hf
      exact hR _ _ dX3_readToken_121
  have L_0 : ∀ (n : Nat) (S : CS), l_X3_readToken_0 n S = some q → G K (cX B (kA K) sa h lk) 0 0 0 S [(0, .ref (cAf B 11))] [] := by
    intro n
    induction n with
    | zero =>
      intro S hf
      rw [l_X3_readToken_0] at hf
      cases hf
    | succ n ih =>
      intro S hf
      rw [l_X3_readToken_0] at hf
      refine g_aload_n 1 0 F dX3_readToken_0 rfl rfl ?_
      refine cg_X3_next 4 F fl_X3_19 dX3_readToken_1 rfl ?_
      refine g_aload_n 5 0 F dX3_readToken_4 rfl rfl ?_
      refine cg_X3_size 8 F fl_X3_15 dX3_readToken_5 rfl ?_
      refine g_icmp_ge 38 11 F dX3_readToken_8 rfl rfl hf (fun _ hf => ?_) (fun _ hf => ?_)
      · exact G.lvs [0] rfl (J_38 S hf)
      · refine g_aload_n 12 0 F dX3_readToken_11 rfl rfl ?_
        refine g_aload_n 13 0 F dX3_readToken_12 rfl rfl ?_
        refine cg_X3_next 16 F fl_X3_19 dX3_readToken_13 rfl ?_
        obtain ⟨q7, e8, hf⟩ := op_bd hf
        refine g_cVi 19 (st := []) F hok (c_X3_byteAt (kl K) B sa h lk hw (kA K) S (cF S 12) q7 e8) wy_X3_byteAt ml_X3_22 (c_rc_X3 F) ⟨Nat.le_of_ble_eq_true rfl, Nat.le_of_ble_eq_true rfl⟩ rfl rfl (Nat.le_of_ble_eq_true rfl) ⟨Nat.zero_le _, Nat.zero_le _⟩ dX3_readToken_16 rfl ?_
        refine g_cSi 22 (st := []) F hok (c_X3_isBlank (kl K) B sa h lk hw (kA K) S q7 _ rfl) ws_X3_isBlank ml_X3_26 ⟨Nat.le_of_ble_eq_true rfl, Nat.le_of_ble_eq_true rfl⟩ rfl rfl (Nat.le_of_ble_eq_true rfl) ⟨Nat.zero_le _, Nat.zero_le _⟩ dX3_readToken_19 rfl ?_
        refine g_ifeq_b 38 25 F dX3_readToken_22 rfl rfl hf (fun _ hf => ?_) (fun _ hf => ?_)
        · exact G.lvs [0] rfl (J_38 S hf)
        · refine g_aload_n 26 0 F dX3_readToken_25 rfl rfl ?_
          refine g_dup 27 F dX3_readToken_26 rfl rfl ?_
          refine cg_X3_next 30 F fl_X3_19 dX3_readToken_27 rfl ?_
          refine g_iconst 31 (v := 1) F dX3_readToken_30 (by decide) rfl ?_
          refine g_iadd 32 F dX3_readToken_31 rfl ?_
          refine cp_X3_next 35 F fl_X3_19 dX3_readToken_32 rfl ?_
          refine g_goto 0 F dX3_readToken_35 rfl ?_
          exact G.lvs [0] rfl (ih (sF S 12 ((cF S 12) + 1)) hf)
  unfold f_X3_readToken at hf
  exact G.lvs [0] rfl (L_0 fu S hf)
theorem c_X3_readToken (l : Launch) (B : CB) (sa : Nat → Nat) (h : Nat → Bool) (lk : Nat × Nat) (hw : cWf h lk) (A : Nat → Prop) (S : CS) (q : CS) (hf : f_X3_readToken S = some q) : Cv l yX3_readToken cX3_readToken 2 none 2 41 (cX B A sa h lk) (cKf B A) A S [.ref (cAf B 11)] q := by
  refine met_v (by decide +kernel) (Nat.le_of_ble_eq_true rfl) (fun K hl hA hn F hR => ?_)
  subst hl; subst hA
  exact w_X3_readToken B sa h lk hw K F hn S q hf hR
