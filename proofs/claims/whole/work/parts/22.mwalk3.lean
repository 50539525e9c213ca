set_option maxHeartbeats 4000000 in
set_option maxRecDepth 100000 in
theorem w_X6_sumBut (D : va_G) (cI cZ : ClassId) (ad : Nat → Nat) (K : Ctx) (F : Fx K cX6_sumBut RX6 (mKf D cI cZ) 8 182) (hn : kn K = 4) (S : MS) (a1 : Int32) (q : Int32 × MS) (hf : f_X6_sumBut S a1 = some q) (hR : ∀ (pc : Nat) (lv : List (Nat × Value)), decode cX6_sumBut pc = .ok (.ireturn, 1) → G K (mX D cI cZ (kA K) ad) 0 0 pc q.2 lv [.int q.1]) : G K (mX D cI cZ (kA K) ad) 0 0 0 S [(0, .ref (ad 0)), (1, .int a1)] [] := by
  have hok := mKf_ok D cI cZ (kA K)
  have L_4 : ∀ (n : Nat) (S : MS) (x1 : Int32) (x2 : Int32) (x3 : Int32), l_X6_sumBut_4 n S x1 x2 x3 = some q → G K (mX D cI cZ (kA K) ad) 0 0 4 S [(0, .ref (ad 0)), (1, .int x1), (2, .int x2), (3, .int x3)] [] := by
    intro n
    induction n with
    | zero =>
      intro S x1 x2 x3 hf
      rw [l_X6_sumBut_4] at hf
      cases hf
    | succ n ih =>
      intro S x1 x2 x3 hf
      rw [l_X6_sumBut_4] at hf
      refine g_iload_n 5 3 F dX6_sumBut_4 rfl rfl ?_
      refine g_aload_n 6 0 F dX6_sumBut_5 rfl rfl ?_
      refine m_get_1 9 F fl_X6_7 dX6_sumBut_6 rfl ?_
      refine g_iconst 10 (v := 2) F dX6_sumBut_9 (by decide) rfl ?_
      refine m_ldK_1 11 2 F (by decide) (by decide) dX6_sumBut_10 rfl ?_
      refine g_icmp_ge 41 14 F dX6_sumBut_11 rfl rfl hf (fun _ hf => ?_) (fun _ hf => ?_)
      · refine g_iload_n 42 2 F dX6_sumBut_41 rfl rfl ?_
        obtain rfl := Option.some.inj hf
        exact hR _ _ dX6_sumBut_42
      · refine g_iload_n 15 2 F dX6_sumBut_14 rfl rfl ?_
        refine g_iload_n 16 1 F dX6_sumBut_15 rfl rfl ?_
        refine g_iload_n 17 3 F dX6_sumBut_16 rfl rfl ?_
        refine g_ishr 18 F dX6_sumBut_17 rfl ?_
        refine g_iconst 19 (v := 1) F dX6_sumBut_18 (by decide) rfl ?_
        refine g_iand 20 F dX6_sumBut_19 rfl ?_
        refine g_iconst 21 (v := 1) F dX6_sumBut_20 (by decide) rfl ?_
        refine g_icmp_ne 28 24 F dX6_sumBut_21 rfl rfl hf (fun _ hf => ?_) (fun _ hf => ?_)
        · refine g_aload_n 29 0 F dX6_sumBut_28 rfl rfl ?_
          refine g_iload_n 30 3 F dX6_sumBut_29 rfl rfl ?_
          obtain ⟨q1, e2, hf⟩ := op_bd hf
          refine g_cVi 33 (st := [.int x2]) F hok (c_X6_weightOf (kl K) D cI cZ ad (kA K) S x3 q1 e2) wy_X6_weightOf ml_X6_217 (m_recv F) ⟨Nat.le_of_ble_eq_true rfl, Nat.le_of_ble_eq_true rfl⟩ rfl rfl (Nat.le_of_ble_eq_true rfl) ⟨Nat.zero_le _, Nat.zero_le _⟩ dX6_sumBut_30 rfl ?_
          refine g_iadd 34 F dX6_sumBut_33 rfl ?_
          refine g_istore_n 35 [(2, .int (x2 + q1.1)), (0, .ref (ad 0)), (1, .int x1), (3, .int x3)] F dX6_sumBut_34 (lt_kn hn (by decide)) rfl rfl ?_
          refine g_iinc 38 3 (x3 + 1) [(3, .int (x3 + 1)), (2, .int (x2 + q1.1)), (0, .ref (ad 0)), (1, .int x1)] F dX6_sumBut_35 rfl rfl (lt_kn hn (by decide)) rfl rfl ?_
          refine g_goto 4 F dX6_sumBut_38 rfl ?_
          exact G.lvs [2, 3, 1, 0] rfl (ih q1.2 x1 (x2 + q1.1) (x3 + 1) hf)
        · refine g_iconst 25 (v := 0) F dX6_sumBut_24 (by decide) rfl ?_
          refine g_goto 33 F dX6_sumBut_25 rfl ?_
          refine g_iadd 34 F dX6_sumBut_33 rfl ?_
          refine g_istore_n 35 [(2, .int (x2 + 0)), (0, .ref (ad 0)), (1, .int x1), (3, .int x3)] F dX6_sumBut_34 (lt_kn hn (by decide)) rfl rfl ?_
          refine g_iinc 38 3 (x3 + 1) [(3, .int (x3 + 1)), (2, .int (x2 + 0)), (0, .ref (ad 0)), (1, .int x1)] F dX6_sumBut_35 rfl rfl (lt_kn hn (by decide)) rfl rfl ?_
          refine g_goto 4 F dX6_sumBut_38 rfl ?_
          exact G.lvs [2, 3, 1, 0] rfl (ih S x1 (x2 + 0) (x3 + 1) hf)
  unfold f_X6_sumBut at hf
  refine g_iconst 1 (v := 0) F dX6_sumBut_0 (by decide) rfl ?_
  refine g_istore_n 2 [(2, .int 0), (0, .ref (ad 0)), (1, .int a1)] F dX6_sumBut_1 (lt_kn hn (by decide)) rfl rfl ?_
  refine g_iconst 3 (v := 0) F dX6_sumBut_2 (by decide) rfl ?_
  refine g_istore_n 4 [(3, .int 0), (2, .int 0), (0, .ref (ad 0)), (1, .int a1)] F dX6_sumBut_3 (lt_kn hn (by decide)) rfl rfl ?_
  exact G.lvs [2, 3, 1, 0] rfl (L_4 fu S a1 0 0 hf)
theorem c_X6_sumBut (l : Launch) (D : va_G) (cI cZ : ClassId) (ad : Nat → Nat) (A : Nat → Prop) (S : MS) (a1 : Int32) (q : Int32 × MS) (hf : f_X6_sumBut S a1 = some q) : Ci l yX6_sumBut cX6_sumBut 4 (some .int) 8 182 (mX D cI cZ A ad) (mKf D cI cZ) A S [.ref (ad 0), .int a1] q.1 q.2 := by
  refine met_i (by decide +kernel) (Nat.le_of_ble_eq_true rfl) (fun K hl hA hn F hR => ?_)
  subst hl; subst hA
  exact w_X6_sumBut D cI cZ ad K F hn S a1 q hf hR
set_option maxHeartbeats 4000000 in
set_option maxRecDepth 100000 in
theorem w_X6_lot (D : va_G) (cI cZ : ClassId) (ad : Nat → Nat) (K : Ctx) (F : Fx K cX6_lot RX6 (mKf D cI cZ) 9 205) (hn : kn K = 10) (S : MS) (a1 : Int32) (a2 : Int32) (q : Int32 × MS) (hf : f_X6_lot S a1 a2 = some q) (hR : ∀ (pc : Nat) (lv : List (Nat × Value)), decode cX6_lot pc = .ok (.ireturn, 1) → G K (mX D cI cZ (kA K) ad) 0 0 pc q.2 lv [.int q.1]) : G K (mX D cI cZ (kA K) ad) 0 0 0 S [(0, .ref (ad 0)), (1, .int a1), (2, .int a2)] [] := by
  have hok := mKf_ok D cI cZ (kA K)
  have L_72 : ∀ (r37 : MS → Int32 → Int64 → Int32 → Int32 → Int32 → Option (Int32 × MS)) (h37 : ∀ (S : MS) (x2 : Int32) (x3 : Int64) (x5 : Int32) (x6 : Int32) (x7 : Int32), r37 S x2 x3 x5 x6 x7 = some q → G K (mX D cI cZ (kA K) ad) 0 0 37 S [(0, .ref (ad 0)), (2, .int x2), (3, .long x3), (5, .int x5), (6, .int x6), (7, .int x7)] []) (n : Nat) (S : MS) (x2 : Int32) (x3 : Int64) (x5 : Int32) (x6 : Int32) (x7 : Int32) (x8 : Int32) (x9 : Int32), l_X6_lot_72 r37 n S x2 x3 x5 x6 x7 x8 x9 = some q → G K (mX D cI cZ (kA K) ad) 0 0 72 S [(0, .ref (ad 0)), (2, .int x2), (3, .long x3), (5, .int x5), (6, .int x6), (7, .int x7), (8, .int x8), (9, .int x9)] [] := by
    intro r37 h37 n
    induction n with
    | zero =>
      intro S x2 x3 x5 x6 x7 x8 x9 hf
      rw [l_X6_lot_72] at hf
      cases hf
    | succ n ih =>
      intro S x2 x3 x5 x6 x7 x8 x9 hf
      rw [l_X6_lot_72] at hf
      refine g_iload 74 6 F dX6_lot_72 rfl rfl ?_
      refine g_if_lt 109 77 F dX6_lot_74 rfl rfl hf (fun _ hf => ?_) (fun _ hf => ?_)
      · refine g_iload 111 3 F dX6_lot_109 rfl rfl ?_
        refine g_iconst 112 (v := 1) F dX6_lot_111 (by decide) rfl ?_
        refine g_iload 114 7 F dX6_lot_112 rfl rfl ?_
        refine g_ishl 115 F dX6_lot_114 rfl ?_
        refine g_ior 116 F dX6_lot_115 rfl ?_
        refine g_istore 118 [(5, .int (x5 ||| (1 <<< (x9 &&& 31)))), (0, .ref (ad 0)), (2, .int x2), (3, .long x3), (6, .int x6), (7, .int x7), (8, .int x8), (9, .int x9)] F dX6_lot_116 (lt_kn hn (by decide)) rfl rfl ?_
        refine g_bipush 120 (v := 10) F dX6_lot_118 (by decide) rfl ?_
        refine g_iload 122 4 F dX6_lot_120 rfl rfl ?_
        refine g_imul 123 F dX6_lot_122 rfl ?_
        refine g_iload 125 7 F dX6_lot_123 rfl rfl ?_
        refine g_iadd 126 F dX6_lot_125 rfl ?_
        refine g_istore 128 [(6, .int ((10 * x6) + x9)), (5, .int (x5 ||| (1 <<< (x9 &&& 31)))), (0, .ref (ad 0)), (2, .int x2), (3, .long x3), (7, .int x7), (8, .int x8), (9, .int x9)] F dX6_lot_126 (lt_kn hn (by decide)) rfl rfl ?_
        refine g_iinc 131 5 (x7 + 1) [(7, .int (x7 + 1)), (6, .int ((10 * x6) + x9)), (5, .int (x5 ||| (1 <<< (x9 &&& 31)))), (0, .ref (ad 0)), (2, .int x2), (3, .long x3), (8, .int x8), (9, .int x9)] F dX6_lot_128 rfl rfl (lt_kn hn (by decide)) rfl rfl ?_
        refine g_goto 37 F dX6_lot_131 rfl ?_
        exact G.lvs [3, 4, 5, 2, 1, 0] rfl (h37 S x2 x3 (x5 ||| (1 <<< (x9 &&& 31))) ((10 * x6) + x9) (x7 + 1) hf)
      · refine g_iinc 80 7 (x9 + 1) [(9, .int (x9 + 1)), (0, .ref (ad 0)), (2, .int x2), (3, .long x3), (5, .int x5), (6, .int x6), (7, .int x7), (8, .int x8)] F dX6_lot_77 rfl rfl (lt_kn hn (by decide)) rfl rfl ?_
        refine g_iload 82 7 F dX6_lot_80 rfl rfl ?_
        refine g_iload 84 4 F dX6_lot_82 rfl rfl ?_
        refine g_iload 86 0 F dX6_lot_84 rfl rfl ?_
        refine g_ishr 87 F dX6_lot_86 rfl ?_
        refine g_iconst 88 (v := 1) F dX6_lot_87 (by decide) rfl ?_
        refine g_iand 89 F dX6_lot_88 rfl ?_
        refine g_iconst 90 (v := 1) F dX6_lot_89 (by decide) rfl ?_
        refine g_icmp_ne 97 93 F dX6_lot_90 rfl rfl hf (fun _ hf => ?_) (fun _ hf => ?_)
        · refine g_aload_n 98 1 F dX6_lot_97 rfl rfl ?_
          refine g_iload 100 0 F dX6_lot_98 rfl rfl ?_
          obtain ⟨q4, e5, hf⟩ := op_bd hf
          refine g_cVi 103 (st := [.int x8]) F hok (c_X6_weightOf (kl K) D cI cZ ad (kA K) S (x9 + 1) q4 e5) wy_X6_weightOf ml_X6_217 (m_recv F) ⟨Nat.le_of_ble_eq_true rfl, Nat.le_of_ble_eq_true rfl⟩ rfl rfl (Nat.le_of_ble_eq_true rfl) ⟨Nat.zero_le _, Nat.zero_le _⟩ dX6_lot_100 rfl ?_
          refine g_isub 104 F dX6_lot_103 rfl ?_
          refine g_istore 106 [(8, .int (x8 - q4.1)), (9, .int (x9 + 1)), (0, .ref (ad 0)), (2, .int x2), (3, .long x3), (5, .int x5), (6, .int x6), (7, .int x7)] F dX6_lot_104 (lt_kn hn (by decide)) rfl rfl ?_
          refine g_goto 72 F dX6_lot_106 rfl ?_
          exact G.lvs [2, 3, 4, 5, 6, 7, 0, 1] rfl (ih q4.2 x2 x3 x5 x6 x7 (x8 - q4.1) (x9 + 1) hf)
        · refine g_iconst 94 (v := 0) F dX6_lot_93 (by decide) rfl ?_
          refine g_goto 103 F dX6_lot_94 rfl ?_
          refine g_isub 104 F dX6_lot_103 rfl ?_
          refine g_istore 106 [(8, .int (x8 - 0)), (9, .int (x9 + 1)), (0, .ref (ad 0)), (2, .int x2), (3, .long x3), (5, .int x5), (6, .int x6), (7, .int x7)] F dX6_lot_104 (lt_kn hn (by decide)) rfl rfl ?_
          refine g_goto 72 F dX6_lot_106 rfl ?_
          exact G.lvs [2, 3, 4, 5, 6, 7, 0, 1] rfl (ih S x2 x3 x5 x6 x7 (x8 - 0) (x9 + 1) hf)
  have L_37 : ∀ (n : Nat) (S : MS) (x2 : Int32) (x3 : Int64) (x5 : Int32) (x6 : Int32) (x7 : Int32), l_X6_lot_37 n S x2 x3 x5 x6 x7 = some q → G K (mX D cI cZ (kA K) ad) 0 0 37 S [(0, .ref (ad 0)), (2, .int x2), (3, .long x3), (5, .int x5), (6, .int x6), (7, .int x7)] [] := by
    intro n
    induction n with
    | zero =>
      intro S x2 x3 x5 x6 x7 hf
      rw [l_X6_lot_37] at hf
      cases hf
    | succ n ih =>
      intro S x2 x3 x5 x6 x7 hf
      rw [l_X6_lot_37] at hf
      refine g_iload 39 5 F dX6_lot_37 rfl rfl ?_
      refine g_iload_n 40 1 F dX6_lot_39 rfl rfl ?_
      refine g_icmp_ge 134 43 F dX6_lot_40 rfl rfl hf (fun _ hf => ?_) (fun _ hf => ?_)
      · refine g_iload 136 4 F dX6_lot_134 rfl rfl ?_
        obtain rfl := Option.some.inj hf
        exact hR _ _ dX6_lot_136
      · refine g_ldc2 46 F cn_X6_223 dX6_lot_43 rfl ?_
        refine g_lload_n 47 2 F dX6_lot_46 rfl rfl ?_
        refine g_lmul 48 F dX6_lot_47 rfl ?_
        refine g_ldc2 51 F cn_X6_225 dX6_lot_48 rfl ?_
        refine g_ladd 52 F dX6_lot_51 rfl ?_
        refine g_ldc2 55 F cn_X6_227 dX6_lot_52 rfl ?_
        refine g_lrem 56 F dX6_lot_55 (by decide) rfl ?_
        refine g_lstore_n 57 [(3, .long (((1103515245 * x3) + 12345) - ((1103515245 * x3) + 12345) / 2147483648 * 2147483648)), (0, .ref (ad 0)), (2, .int x2), (5, .int x5), (6, .int x6), (7, .int x7)] F dX6_lot_56 (lt_kn hn (by decide)) rfl rfl ?_
        refine g_lload_n 58 0 F dX6_lot_57 rfl rfl ?_
        refine g_aload_n 59 1 F dX6_lot_58 rfl rfl ?_
        refine g_iload 61 3 F dX6_lot_59 rfl rfl ?_
        obtain ⟨q1, e2, hf⟩ := op_bd hf
        refine g_cVi 64 (st := [.long (((1103515245 * x3) + 12345) - ((1103515245 * x3) + 12345) / 2147483648 * 2147483648)]) F hok (c_X6_sumBut (kl K) D cI cZ ad (kA K) S x5 q1 e2) wy_X6_sumBut ml_X6_229 (m_recv F) ⟨Nat.le_of_ble_eq_true rfl, Nat.le_of_ble_eq_true rfl⟩ rfl rfl (Nat.le_of_ble_eq_true rfl) ⟨Nat.zero_le _, Nat.zero_le _⟩ dX6_lot_61 rfl ?_
        refine g_i2l 65 F dX6_lot_64 rfl ?_
        obtain ⟨h3, hf⟩ := op_ok hf
        refine g_lrem 66 F dX6_lot_65 h3 rfl ?_
        refine g_l2i 67 F dX6_lot_66 rfl ?_
        refine g_istore 69 [(8, .int (((((1103515245 * x3) + 12345) - ((1103515245 * x3) + 12345) / 2147483648 * 2147483648) - (((1103515245 * x3) + 12345) - ((1103515245 * x3) + 12345) / 2147483648 * 2147483648) / q1.1.toInt64 * q1.1.toInt64).toInt32)), (3, .long (((1103515245 * x3) + 12345) - ((1103515245 * x3) + 12345) / 2147483648 * 2147483648)), (0, .ref (ad 0)), (2, .int x2), (5, .int x5), (6, .int x6), (7, .int x7)] F dX6_lot_67 (lt_kn hn (by decide)) rfl rfl ?_
        refine g_iconst 70 (v := (-1)) F dX6_lot_69 (by decide) rfl ?_
        refine g_istore 72 [(9, .int (-1)), (8, .int (((((1103515245 * x3) + 12345) - ((1103515245 * x3) + 12345) / 2147483648 * 2147483648) - (((1103515245 * x3) + 12345) - ((1103515245 * x3) + 12345) / 2147483648 * 2147483648) / q1.1.toInt64 * q1.1.toInt64).toInt32)), (3, .long (((1103515245 * x3) + 12345) - ((1103515245 * x3) + 12345) / 2147483648 * 2147483648)), (0, .ref (ad 0)), (2, .int x2), (5, .int x5), (6, .int x6), (7, .int x7)] F dX6_lot_70 (lt_kn hn (by decide)) rfl rfl ?_
        exact G.lvs [3, 4, 2, 5, 6, 7, 1, 0] rfl (L_72 (l_X6_lot_37 n) ih fu q1.2 x2 (((1103515245 * x3) + 12345) - ((1103515245 * x3) + 12345) / 2147483648 * 2147483648) x5 x6 x7 (((((1103515245 * x3) + 12345) - ((1103515245 * x3) + 12345) / 2147483648 * 2147483648) - (((1103515245 * x3) + 12345) - ((1103515245 * x3) + 12345) / 2147483648 * 2147483648) / q1.1.toInt64 * q1.1.toInt64).toInt32) (-1) hf)
  unfold f_X6_lot at hf
  refine g_aload_n 1 0 F dX6_lot_0 rfl rfl ?_
  refine g_iconst 2 (v := 0) F dX6_lot_1 (by decide) rfl ?_
  refine m_put_0 5 F fl_X6_38 dX6_lot_2 rfl ?_
  refine g_iload_n 6 1 F dX6_lot_5 rfl rfl ?_
  refine g_if_lt 23 9 F dX6_lot_6 rfl rfl hf (fun _ hf => ?_) (fun _ hf => ?_)
  · refine g_iconst 24 (v := (-1)) F dX6_lot_23 (by decide) rfl ?_
    obtain rfl := Option.some.inj hf
    exact hR _ _ dX6_lot_24
  · refine g_iload_n 10 2 F dX6_lot_9 rfl rfl ?_
    refine g_iconst 11 (v := 1) F dX6_lot_10 (by decide) rfl ?_
    refine g_aload_n 12 0 F dX6_lot_11 rfl rfl ?_
    refine m_get_1 15 F fl_X6_7 dX6_lot_12 rfl ?_
    refine g_iconst 16 (v := 2) F dX6_lot_15 (by decide) rfl ?_
    refine m_ldK_1 17 2 F (by decide) (by decide) dX6_lot_16 rfl ?_
    refine g_cSi 20 (st := []) F hok (c_X6_in (kl K) D cI cZ ad (kA K) (mS S 0 0) a2 1 ((mS S 0 0).2 1 2) _ rfl) ws_X6_in ml_X6_42 ⟨Nat.le_of_ble_eq_true rfl, Nat.le_of_ble_eq_true rfl⟩ rfl rfl (Nat.le_of_ble_eq_true rfl) ⟨Nat.zero_le _, Nat.zero_le _⟩ dX6_lot_17 rfl ?_
    refine g_ifne_b 25 23 F dX6_lot_20 rfl rfl hf (fun _ hf => ?_) (fun _ hf => ?_)
    · refine g_iload_n 26 1 F dX6_lot_25 rfl rfl ?_
      refine g_i2l 27 F dX6_lot_26 rfl ?_
      refine g_lstore_n 28 [(3, .long a1.toInt64), (0, .ref (ad 0)), (1, .int a1), (2, .int a2)] F dX6_lot_27 (lt_kn hn (by decide)) rfl rfl ?_
      refine g_iconst 29 (v := 0) F dX6_lot_28 (by decide) rfl ?_
      refine g_istore 31 [(5, .int 0), (3, .long a1.toInt64), (0, .ref (ad 0)), (1, .int a1), (2, .int a2)] F dX6_lot_29 (lt_kn hn (by decide)) rfl rfl ?_
      refine g_iconst 32 (v := 0) F dX6_lot_31 (by decide) rfl ?_
      refine g_istore 34 [(6, .int 0), (5, .int 0), (3, .long a1.toInt64), (0, .ref (ad 0)), (1, .int a1), (2, .int a2)] F dX6_lot_32 (lt_kn hn (by decide)) rfl rfl ?_
      refine g_iconst 35 (v := 0) F dX6_lot_34 (by decide) rfl ?_
      refine g_istore 37 [(7, .int 0), (6, .int 0), (5, .int 0), (3, .long a1.toInt64), (0, .ref (ad 0)), (1, .int a1), (2, .int a2)] F dX6_lot_35 (lt_kn hn (by decide)) rfl rfl ?_
      exact G.lvs [4, 6, 3, 2, 1, 0] rfl (L_37 fu (mS S 0 0) a2 a1.toInt64 0 0 0 hf)
    · refine g_iconst 24 (v := (-1)) F dX6_lot_23 (by decide) rfl ?_
      obtain rfl := Option.some.inj hf
      exact hR _ _ dX6_lot_24
theorem c_X6_lot (l : Launch) (D : va_G) (cI cZ : ClassId) (ad : Nat → Nat) (A : Nat → Prop) (S : MS) (a1 : Int32) (a2 : Int32) (q : Int32 × MS) (hf : f_X6_lot S a1 a2 = some q) : Ci l yX6_lot cX6_lot 10 (some .int) 9 205 (mX D cI cZ A ad) (mKf D cI cZ) A S [.ref (ad 0), .int a1, .int a2] q.1 q.2 := by
  refine met_i (by decide +kernel) (Nat.le_of_ble_eq_true rfl) (fun K hl hA hn F hR => ?_)
  subst hl; subst hA
  exact w_X6_lot D cI cZ ad K F hn S a1 a2 q hf hR
set_option maxHeartbeats 4000000 in
set_option maxRecDepth 100000 in
theorem w_X6_divisor (D : va_G) (cI cZ : ClassId) (ad : Nat → Nat) (K : Ctx) (F : Fx K cX6_divisor RX6 (mKf D cI cZ) 0 0) (hn : kn K = 5) (S : MS) (a1 : Int32) (a2 : Int32) (q : Int32) (hf : f_X6_divisor a1 a2 = some q) (hR : ∀ (pc : Nat) (lv : List (Nat × Value)), decode cX6_divisor pc = .ok (.ireturn, 1) → G K (mX D cI cZ (kA K) ad) 0 0 pc S lv [.int q]) : G K (mX D cI cZ (kA K) ad) 0 0 0 S [(0, .int a1), (1, .int a2)] [] := by
  have hok := mKf_ok D cI cZ (kA K)
  have L_4 : ∀ (n : Nat) (x2 : Int32) (x3 : Int32), l_X6_divisor_4 n x2 x3 = some q → G K (mX D cI cZ (kA K) ad) 0 0 4 S [(2, .int x2), (3, .int x3)] [] := by
    intro n
    induction n with
    | zero =>
      intro x2 x3 hf
      rw [l_X6_divisor_4] at hf
      cases hf
    | succ n ih =>
      intro x2 x3 hf
      rw [l_X6_divisor_4] at hf
      refine g_iload_n 5 1 F dX6_divisor_4 rfl rfl ?_
      refine g_if_eq 21 8 F dX6_divisor_5 rfl rfl hf (fun _ hf => ?_) (fun _ hf => ?_)
      · refine g_iload_n 22 0 F dX6_divisor_21 rfl rfl ?_
        obtain rfl := Option.some.inj hf
        exact hR _ _ dX6_divisor_22
      · refine g_iload_n 9 0 F dX6_divisor_8 rfl rfl ?_
        refine g_iload_n 10 1 F dX6_divisor_9 rfl rfl ?_
        obtain ⟨h1, hf⟩ := op_ok hf
        refine g_irem 11 F dX6_divisor_10 h1 rfl ?_
        refine g_istore 13 [(4, .int (x2 - x2 / x3 * x3)), (2, .int x2), (3, .int x3)] F dX6_divisor_11 (lt_kn hn (by decide)) rfl rfl ?_
        refine g_iload_n 14 2 F dX6_divisor_13 rfl rfl ?_
        refine g_istore_n 15 [(2, .int x3), (4, .int (x2 - x2 / x3 * x3)), (3, .int x3)] F dX6_divisor_14 (lt_kn hn (by decide)) rfl rfl ?_
        refine g_iload 17 1 F dX6_divisor_15 rfl rfl ?_
        refine g_istore_n 18 [(3, .int (x2 - x2 / x3 * x3)), (2, .int x3), (4, .int (x2 - x2 / x3 * x3))] F dX6_divisor_17 (lt_kn hn (by decide)) rfl rfl ?_
        refine g_goto 4 F dX6_divisor_18 rfl ?_
        exact G.lvs [1, 0] rfl (ih x3 (x2 - x2 / x3 * x3) hf)
  unfold f_X6_divisor at hf
  refine g_iload_n 1 0 F dX6_divisor_0 rfl rfl ?_
  refine g_istore_n 2 [(2, .int a1), (0, .int a1), (1, .int a2)] F dX6_divisor_1 (lt_kn hn (by decide)) rfl rfl ?_
  refine g_iload_n 3 2 F dX6_divisor_2 rfl rfl ?_
  refine g_istore_n 4 [(3, .int a2), (2, .int a1), (0, .int a1), (1, .int a2)] F dX6_divisor_3 (lt_kn hn (by decide)) rfl rfl ?_
  exact G.lvs [1, 0] rfl (L_4 fu a1 a2 hf)
theorem c_X6_divisor (l : Launch) (D : va_G) (cI cZ : ClassId) (ad : Nat → Nat) (A : Nat → Prop) (S : MS) (a1 : Int32) (a2 : Int32) (q : Int32) (hf : f_X6_divisor a1 a2 = some q) : Ci l yX6_divisor cX6_divisor 5 (some .int) 0 0 (mX D cI cZ A ad) (mKf D cI cZ) A S [.int a1, .int a2] q S := by
  refine met_i (by decide +kernel) (Nat.le_of_ble_eq_true rfl) (fun K hl hA hn F hR => ?_)
  subst hl; subst hA
  exact w_X6_divisor D cI cZ ad K F hn S a1 a2 q hf hR
set_option maxHeartbeats 4000000 in
set_option maxRecDepth 100000 in
theorem w_X6_chance (D : va_G) (cI cZ : ClassId) (ad : Nat → Nat) (K : Ctx) (F : Fx K cX6_chance RX6 (mKf D cI cZ) 9 205) (hn : kn K = 6) (S : MS) (a1 : Int32) (a2 : Bool) (q : Int32 × MS) (hf : f_X6_chance S a1 a2 = some q) (hR : ∀ (pc : Nat) (lv : List (Nat × Value)), decode cX6_chance pc = .ok (.ireturn, 1) → G K (mX D cI cZ (kA K) ad) 0 0 pc q.2 lv [.int q.1]) : G K (mX D cI cZ (kA K) ad) 0 0 0 S [(0, .ref (ad 0)), (1, .int a1), (2, .int (bI a2))] [] := by
  have hok := mKf_ok D cI cZ (kA K)
  unfold f_X6_chance at hf
  refine g_aload_n 1 0 F dX6_chance_0 rfl rfl ?_
  refine g_iconst 2 (v := 0) F dX6_chance_1 (by decide) rfl ?_
  refine m_put_0 5 F fl_X6_38 dX6_chance_2 rfl ?_
  refine g_aload_n 6 0 F dX6_chance_5 rfl rfl ?_
  refine g_iload_n 7 1 F dX6_chance_6 rfl rfl ?_
  refine g_cVi 10 (st := []) F hok (c_X6_isAthlete (kl K) D cI cZ ad (kA K) (mS S 0 0) a1 _ rfl) wy_X6_isAthlete ml_X6_73 (m_recv F) ⟨Nat.le_of_ble_eq_true rfl, Nat.le_of_ble_eq_true rfl⟩ rfl rfl (Nat.le_of_ble_eq_true rfl) ⟨Nat.zero_le _, Nat.zero_le _⟩ dX6_chance_7 rfl ?_
  refine g_ifne_b 15 13 F dX6_chance_10 rfl rfl hf (fun _ hf => ?_) (fun _ hf => ?_)
  · refine g_aload_n 16 0 F dX6_chance_15 rfl rfl ?_
    refine g_iload_n 17 1 F dX6_chance_16 rfl rfl ?_
    obtain ⟨q1, e2, hf⟩ := op_bd hf
    refine g_cVi 20 (st := []) F hok (c_X6_weightOf (kl K) D cI cZ ad (kA K) (mS S 0 0) a1 q1 e2) wy_X6_weightOf ml_X6_217 (m_recv F) ⟨Nat.le_of_ble_eq_true rfl, Nat.le_of_ble_eq_true rfl⟩ rfl rfl (Nat.le_of_ble_eq_true rfl) ⟨Nat.zero_le _, Nat.zero_le _⟩ dX6_chance_17 rfl ?_
    refine g_istore_n 21 [(3, .int q1.1), (0, .ref (ad 0)), (1, .int a1), (2, .int (bI a2))] F dX6_chance_20 (lt_kn hn (by decide)) rfl rfl ?_
    refine g_aload_n 22 1 F dX6_chance_21 rfl rfl ?_
    refine g_iconst 23 (v := 0) F dX6_chance_22 (by decide) rfl ?_
    obtain ⟨q3, e4, hf⟩ := op_bd hf
    refine g_cVi 26 (st := []) F hok (c_X6_sumBut (kl K) D cI cZ ad (kA K) q1.2 0 q3 e4) wy_X6_sumBut ml_X6_229 (m_recv F) ⟨Nat.le_of_ble_eq_true rfl, Nat.le_of_ble_eq_true rfl⟩ rfl rfl (Nat.le_of_ble_eq_true rfl) ⟨Nat.zero_le _, Nat.zero_le _⟩ dX6_chance_23 rfl ?_
    refine g_istore 28 [(4, .int q3.1), (3, .int q1.1), (0, .ref (ad 0)), (1, .int a1), (2, .int (bI a2))] F dX6_chance_26 (lt_kn hn (by decide)) rfl rfl ?_
    refine g_iload_n 29 1 F dX6_chance_28 rfl rfl ?_
    refine g_iload 31 0 F dX6_chance_29 rfl rfl ?_
    obtain ⟨q5, e6, hf⟩ := op_bd hf
    refine g_cSi 34 (st := []) F hok (c_X6_divisor (kl K) D cI cZ ad (kA K) q3.2 q1.1 q3.1 q5 e6) ws_X6_divisor ml_X6_232 ⟨Nat.le_of_ble_eq_true rfl, Nat.le_of_ble_eq_true rfl⟩ rfl rfl (Nat.le_of_ble_eq_true rfl) ⟨Nat.zero_le _, Nat.zero_le _⟩ dX6_chance_31 rfl ?_
    refine g_istore 36 [(5, .int q5), (4, .int q3.1), (3, .int q1.1), (0, .ref (ad 0)), (1, .int a1), (2, .int (bI a2))] F dX6_chance_34 (lt_kn hn (by decide)) rfl rfl ?_
    refine g_iload_n 37 5 F dX6_chance_36 rfl rfl ?_
    refine g_ifeq_b 48 40 F dX6_chance_37 rfl rfl hf (fun _ hf => ?_) (fun _ hf => ?_)
    · refine g_iload_n 49 2 F dX6_chance_48 rfl rfl ?_
      refine g_iload 51 0 F dX6_chance_49 rfl rfl ?_
      obtain ⟨h7, hf⟩ := op_ok hf
      refine g_idiv 52 F dX6_chance_51 h7 rfl ?_
      obtain rfl := Option.some.inj hf
      exact hR _ _ dX6_chance_52
    · refine g_iload 42 1 F dX6_chance_40 rfl rfl ?_
      refine g_iload 44 0 F dX6_chance_42 rfl rfl ?_
      obtain ⟨h8, hf⟩ := op_ok hf
      refine g_idiv 45 F dX6_chance_44 h8 rfl ?_
      refine g_goto 52 F dX6_chance_45 rfl ?_
      obtain rfl := Option.some.inj hf
      exact hR _ _ dX6_chance_52
  · refine g_iconst 14 (v := (-1)) F dX6_chance_13 (by decide) rfl ?_
    obtain rfl := Option.some.inj hf
    exact hR _ _ dX6_chance_14
theorem c_X6_chance (l : Launch) (D : va_G) (cI cZ : ClassId) (ad : Nat → Nat) (A : Nat → Prop) (S : MS) (a1 : Int32) (a2 : Bool) (q : Int32 × MS) (hf : f_X6_chance S a1 a2 = some q) : Ci l yX6_chance cX6_chance 6 (some .int) 9 205 (mX D cI cZ A ad) (mKf D cI cZ) A S [.ref (ad 0), .int a1, .int (bI a2)] q.1 q.2 := by
  refine met_i (by decide +kernel) (Nat.le_of_ble_eq_true rfl) (fun K hl hA hn F hR => ?_)
  subst hl; subst hA
  exact w_X6_chance D cI cZ ad K F hn S a1 a2 q hf hR
set_option maxHeartbeats 4000000 in
set_option maxRecDepth 100000 in
theorem w_X6_thereAt (D : va_G) (cI cZ : ClassId) (ad : Nat → Nat) (K : Ctx) (F : Fx K cX6_thereAt RX6 (mKf D cI cZ) 2 43) (hn : kn K = 6) (S : MS) (a1 : Int32) (a2 : Int32) (a3 : Int32) (q : Int32) (hf : f_X6_thereAt S a1 a2 a3 = some q) (hR : ∀ (pc : Nat) (lv : List (Nat × Value)), decode cX6_thereAt pc = .ok (.ireturn, 1) → G K (mX D cI cZ (kA K) ad) 0 0 pc S lv [.int q]) : G K (mX D cI cZ (kA K) ad) 0 0 0 S [(0, .ref (ad 0)), (1, .int a1), (2, .int a2), (3, .int a3)] [] := by
  have hok := mKf_ok D cI cZ (kA K)
  have L_6 : ∀ (n : Nat) (x1 : Int32) (x2 : Int32) (x3 : Int32) (x4 : Int32) (x5 : Int32), l_X6_thereAt_6 S n x1 x2 x3 x4 x5 = some q → G K (mX D cI cZ (kA K) ad) 0 0 6 S [(0, .ref (ad 0)), (1, .int x1), (2, .int x2), (3, .int x3), (4, .int x4), (5, .int x5)] [] := by
    intro n
    induction n with
    | zero =>
      intro x1 x2 x3 x4 x5 hf
      rw [l_X6_thereAt_6] at hf
      cases hf
    | succ n ih =>
      intro x1 x2 x3 x4 x5 hf
      rw [l_X6_thereAt_6] at hf
      refine g_iload 8 5 F dX6_thereAt_6 rfl rfl ?_
      refine g_aload_n 9 0 F dX6_thereAt_8 rfl rfl ?_
      refine m_get_1 12 F fl_X6_7 dX6_thereAt_9 rfl ?_
      refine g_iconst 13 (v := 2) F dX6_thereAt_12 (by decide) rfl ?_
      refine m_ldK_1 14 2 F (by decide) (by decide) dX6_thereAt_13 rfl ?_
      refine g_icmp_ge 58 17 F dX6_thereAt_14 rfl rfl hf (fun _ hf => ?_) (fun _ hf => ?_)
      · refine g_iload 60 4 F dX6_thereAt_58 rfl rfl ?_
        obtain rfl := Option.some.inj hf
        exact hR _ _ dX6_thereAt_60
      · refine g_iload 19 4 F dX6_thereAt_17 rfl rfl ?_
        refine g_aload_n 20 0 F dX6_thereAt_19 rfl rfl ?_
        refine g_iload 22 5 F dX6_thereAt_20 rfl rfl ?_
        refine g_sipush 25 (v := 188) F dX6_thereAt_22 (by decide) rfl ?_
        refine g_iload_n 26 1 F dX6_thereAt_25 rfl rfl ?_
        refine g_iadd 27 F dX6_thereAt_26 rfl ?_
        obtain ⟨q1, e2, hf⟩ := op_bd hf
        refine g_cVi 30 (st := [.int x4]) F hok (c_X6_its (kl K) D cI cZ ad (kA K) S x5 (188 + x1) q1 e2) wy_X6_its ml_X6_50 (m_recv F) ⟨Nat.le_of_ble_eq_true rfl, Nat.le_of_ble_eq_true rfl⟩ rfl rfl (Nat.le_of_ble_eq_true rfl) ⟨Nat.zero_le _, Nat.zero_le _⟩ dX6_thereAt_27 rfl ?_
        refine g_bipush 32 (v := 10) F dX6_thereAt_30 (by decide) rfl ?_
        refine g_iload_n 33 2 F dX6_thereAt_32 rfl rfl ?_
        refine g_imul 34 F dX6_thereAt_33 rfl ?_
        refine g_iload_n 35 3 F dX6_thereAt_34 rfl rfl ?_
        refine g_iadd 36 F dX6_thereAt_35 rfl ?_
        refine g_iconst 37 (v := 1) F dX6_thereAt_36 (by decide) rfl ?_
        refine g_iadd 38 F dX6_thereAt_37 rfl ?_
        refine g_icmp_ne 48 41 F dX6_thereAt_38 rfl rfl hf (fun _ hf => ?_) (fun _ hf => ?_)
        · refine g_iconst 49 (v := 0) F dX6_thereAt_48 (by decide) rfl ?_
          refine g_ior 50 F dX6_thereAt_49 rfl ?_
          refine g_istore 52 [(4, .int (x4 ||| 0)), (0, .ref (ad 0)), (1, .int x1), (2, .int x2), (3, .int x3), (5, .int x5)] F dX6_thereAt_50 (lt_kn hn (by decide)) rfl rfl ?_
          refine g_iinc 55 5 (x5 + 1) [(5, .int (x5 + 1)), (4, .int (x4 ||| 0)), (0, .ref (ad 0)), (1, .int x1), (2, .int x2), (3, .int x3)] F dX6_thereAt_52 rfl rfl (lt_kn hn (by decide)) rfl rfl ?_
          refine g_goto 6 F dX6_thereAt_55 rfl ?_
          exact G.lvs [2, 3, 4, 5, 1, 0] rfl (ih x1 x2 x3 (x4 ||| 0) (x5 + 1) hf)
        · refine g_iconst 42 (v := 1) F dX6_thereAt_41 (by decide) rfl ?_
          refine g_iload 44 5 F dX6_thereAt_42 rfl rfl ?_
          refine g_ishl 45 F dX6_thereAt_44 rfl ?_
          refine g_goto 49 F dX6_thereAt_45 rfl ?_
          refine g_ior 50 F dX6_thereAt_49 rfl ?_
          refine g_istore 52 [(4, .int (x4 ||| (1 <<< (x5 &&& 31)))), (0, .ref (ad 0)), (1, .int x1), (2, .int x2), (3, .int x3), (5, .int x5)] F dX6_thereAt_50 (lt_kn hn (by decide)) rfl rfl ?_
          refine g_iinc 55 5 (x5 + 1) [(5, .int (x5 + 1)), (4, .int (x4 ||| (1 <<< (x5 &&& 31)))), (0, .ref (ad 0)), (1, .int x1), (2, .int x2), (3, .int x3)] F dX6_thereAt_52 rfl rfl (lt_kn hn (by decide)) rfl rfl ?_
          refine g_goto 6 F dX6_thereAt_55 rfl ?_
          exact G.lvs [2, 3, 4, 5, 1, 0] rfl (ih x1 x2 x3 (x4 ||| (1 <<< (x5 &&& 31))) (x5 + 1) hf)
  unfold f_X6_thereAt at hf
  refine g_iconst 1 (v := 0) F dX6_thereAt_0 (by decide) rfl ?_
  refine g_istore 3 [(4, .int 0), (0, .ref (ad 0)), (1, .int a1), (2, .int a2), (3, .int a3)] F dX6_thereAt_1 (lt_kn hn (by decide)) rfl rfl ?_
  refine g_iconst 4 (v := 0) F dX6_thereAt_3 (by decide) rfl ?_
  refine g_istore 6 [(5, .int 0), (4, .int 0), (0, .ref (ad 0)), (1, .int a1), (2, .int a2), (3, .int a3)] F dX6_thereAt_4 (lt_kn hn (by decide)) rfl rfl ?_
  exact G.lvs [2, 3, 4, 5, 1, 0] rfl (L_6 fu a1 a2 a3 0 0 hf)
theorem c_X6_thereAt (l : Launch) (D : va_G) (cI cZ : ClassId) (ad : Nat → Nat) (A : Nat → Prop) (S : MS) (a1 : Int32) (a2 : Int32) (a3 : Int32) (q : Int32) (hf : f_X6_thereAt S a1 a2 a3 = some q) : Ci l yX6_thereAt cX6_thereAt 6 (some .int) 2 43 (mX D cI cZ A ad) (mKf D cI cZ) A S [.ref (ad 0), .int a1, .int a2, .int a3] q S := by
  refine met_i (by decide +kernel) (Nat.le_of_ble_eq_true rfl) (fun K hl hA hn F hR => ?_)
  subst hl; subst hA
  exact w_X6_thereAt D cI cZ ad K F hn S a1 a2 a3 q hf hR
set_option maxHeartbeats 4000000 in
set_option maxRecDepth 100000 in
theorem w_X6_bits (D : va_G) (cI cZ : ClassId) (ad : Nat → Nat) (K : Ctx) (F : Fx K cX6_bits RX6 (mKf D cI cZ) 0 0) (hn : kn K = 3) (S : MS) (a1 : Int32) (q : Int32) (hf : f_X6_bits a1 = some q) (hR : ∀ (pc : Nat) (lv : List (Nat × Value)), decode cX6_bits pc = .ok (.ireturn, 1) → G K (mX D cI cZ (kA K) ad) 0 0 pc S lv [.int q]) : G K (mX D cI cZ (kA K) ad) 0 0 0 S [(0, .int a1)] [] := by
  have hok := mKf_ok D cI cZ (kA K)
  have L_4 : ∀ (n : Nat) (x1 : Int32) (x2 : Int32), l_X6_bits_4 n x1 x2 = some q → G K (mX D cI cZ (kA K) ad) 0 0 4 S [(1, .int x1), (2, .int x2)] [] := by
    intro n
    induction n with
    | zero =>
      intro x1 x2 hf
      rw [l_X6_bits_4] at hf
      cases hf
    | succ n ih =>
      intro x1 x2 hf
      rw [l_X6_bits_4] at hf
      refine g_iload_n 5 1 F dX6_bits_4 rfl rfl ?_
      refine g_if_eq 20 8 F dX6_bits_5 rfl rfl hf (fun _ hf => ?_) (fun _ hf => ?_)
      · refine g_iload_n 21 0 F dX6_bits_20 rfl rfl ?_
        obtain rfl := Option.some.inj hf
        exact hR _ _ dX6_bits_21
      · refine g_iinc 11 0 (x1 + 1) [(1, .int (x1 + 1)), (2, .int x2)] F dX6_bits_8 rfl rfl (lt_kn hn (by decide)) rfl rfl ?_
        refine g_iload_n 12 1 F dX6_bits_11 rfl rfl ?_
        refine g_iload_n 13 1 F dX6_bits_12 rfl rfl ?_
        refine g_iconst 14 (v := 1) F dX6_bits_13 (by decide) rfl ?_
        refine g_isub 15 F dX6_bits_14 rfl ?_
        refine g_iand 16 F dX6_bits_15 rfl ?_
        refine g_istore_n 17 [(2, .int (x2 &&& (x2 - 1))), (1, .int (x1 + 1))] F dX6_bits_16 (lt_kn hn (by decide)) rfl rfl ?_
        refine g_goto 4 F dX6_bits_17 rfl ?_
        exact G.lvs [1, 0] rfl (ih (x1 + 1) (x2 &&& (x2 - 1)) hf)
  unfold f_X6_bits at hf
  refine g_iconst 1 (v := 0) F dX6_bits_0 (by decide) rfl ?_
  refine g_istore_n 2 [(1, .int 0), (0, .int a1)] F dX6_bits_1 (lt_kn hn (by decide)) rfl rfl ?_
  refine g_iload_n 3 1 F dX6_bits_2 rfl rfl ?_
  refine g_istore_n 4 [(2, .int a1), (1, .int 0), (0, .int a1)] F dX6_bits_3 (lt_kn hn (by decide)) rfl rfl ?_
  exact G.lvs [1, 0] rfl (L_4 fu 0 a1 hf)
theorem c_X6_bits (l : Launch) (D : va_G) (cI cZ : ClassId) (ad : Nat → Nat) (A : Nat → Prop) (S : MS) (a1 : Int32) (q : Int32) (hf : f_X6_bits a1 = some q) : Ci l yX6_bits cX6_bits 3 (some .int) 0 0 (mX D cI cZ A ad) (mKf D cI cZ) A S [.int a1] q S := by
  refine met_i (by decide +kernel) (Nat.le_of_ble_eq_true rfl) (fun K hl hA hn F hR => ?_)
  subst hl; subst hA
  exact w_X6_bits D cI cZ ad K F hn S a1 q hf hR
set_option maxHeartbeats 4000000 in
set_option maxRecDepth 100000 in
theorem w_X6_bestPlace (D : va_G) (cI cZ : ClassId) (ad : Nat → Nat) (K : Ctx) (F : Fx K cX6_bestPlace RX6 (mKf D cI cZ) 3 68) (hn : kn K = 7) (S : MS) (a1 : Int32) (a2 : Int32) (q : Int32) (hf : f_X6_bestPlace S a1 a2 = some q) (hR : ∀ (pc : Nat) (lv : List (Nat × Value)), decode cX6_bestPlace pc = .ok (.ireturn, 1) → G K (mX D cI cZ (kA K) ad) 0 0 pc S lv [.int q]) : G K (mX D cI cZ (kA K) ad) 0 0 0 S [(0, .ref (ad 0)), (1, .int a1), (2, .int a2)] [] := by
  have hok := mKf_ok D cI cZ (kA K)
  have L_8 : ∀ (n : Nat) (x1 : Int32) (x2 : Int32) (x3 : Int32) (x4 : Int32) (x5 : Int32), l_X6_bestPlace_8 S n x1 x2 x3 x4 x5 = some q → G K (mX D cI cZ (kA K) ad) 0 0 8 S [(0, .ref (ad 0)), (1, .int x1), (2, .int x2), (3, .int x3), (4, .int x4), (5, .int x5)] [] := by
    intro n
    induction n with
    | zero =>
      intro x1 x2 x3 x4 x5 hf
      rw [l_X6_bestPlace_8] at hf
      cases hf
    | succ n ih =>
      intro x1 x2 x3 x4 x5 hf
      rw [l_X6_bestPlace_8] at hf
      refine g_iload 10 5 F dX6_bestPlace_8 rfl rfl ?_
      refine g_bipush 12 (v := 10) F dX6_bestPlace_10 (by decide) rfl ?_
      refine g_icmp_ge 64 15 F dX6_bestPlace_12 rfl rfl hf (fun _ hf => ?_) (fun _ hf => ?_)
      · refine g_iload_n 65 3 F dX6_bestPlace_64 rfl rfl ?_
        obtain rfl := Option.some.inj hf
        exact hR _ _ dX6_bestPlace_65
      · refine g_aload_n 16 0 F dX6_bestPlace_15 rfl rfl ?_
        refine g_iload_n 17 1 F dX6_bestPlace_16 rfl rfl ?_
        refine g_iload_n 18 2 F dX6_bestPlace_17 rfl rfl ?_
        refine g_iload 20 5 F dX6_bestPlace_18 rfl rfl ?_
        obtain ⟨q1, e2, hf⟩ := op_bd hf
        refine g_cVi 23 (st := []) F hok (c_X6_thereAt (kl K) D cI cZ ad (kA K) S x1 x2 x5 q1 e2) wy_X6_thereAt ml_X6_235 (m_recv F) ⟨Nat.le_of_ble_eq_true rfl, Nat.le_of_ble_eq_true rfl⟩ rfl rfl (Nat.le_of_ble_eq_true rfl) ⟨Nat.zero_le _, Nat.zero_le _⟩ dX6_bestPlace_20 rfl ?_
        obtain ⟨q3, e4, hf⟩ := op_bd hf
        refine g_cSi 26 (st := []) F hok (c_X6_bits (kl K) D cI cZ ad (kA K) S q1 q3 e4) ws_X6_bits ml_X6_238 ⟨Nat.le_of_ble_eq_true rfl, Nat.le_of_ble_eq_true rfl⟩ rfl rfl (Nat.le_of_ble_eq_true rfl) ⟨Nat.zero_le _, Nat.zero_le _⟩ dX6_bestPlace_23 rfl ?_
        refine g_istore 28 [(6, .int q3), (0, .ref (ad 0)), (1, .int x1), (2, .int x2), (3, .int x3), (4, .int x4), (5, .int x5)] F dX6_bestPlace_26 (lt_kn hn (by decide)) rfl rfl ?_
        refine g_iload 30 0 F dX6_bestPlace_28 rfl rfl ?_
        refine g_iload 32 5 F dX6_bestPlace_30 rfl rfl ?_
        refine g_icmp_le 40 35 F dX6_bestPlace_32 rfl rfl hf (fun _ hf => ?_) (fun _ hf => ?_)
        · refine g_iload_n 41 4 F dX6_bestPlace_40 rfl rfl ?_
          refine g_istore_n 42 [(3, .int x3), (6, .int q3), (0, .ref (ad 0)), (1, .int x1), (2, .int x2), (4, .int x4), (5, .int x5)] F dX6_bestPlace_41 (lt_kn hn (by decide)) rfl rfl ?_
          refine g_iload 44 1 F dX6_bestPlace_42 rfl rfl ?_
          refine g_iload 46 5 F dX6_bestPlace_44 rfl rfl ?_
          refine g_icmp_le 54 49 F dX6_bestPlace_46 rfl rfl hf (fun _ hf => ?_) (fun _ hf => ?_)
          · refine g_iload 56 5 F dX6_bestPlace_54 rfl rfl ?_
            refine g_istore 58 [(4, .int x4), (3, .int x3), (6, .int q3), (0, .ref (ad 0)), (1, .int x1), (2, .int x2), (5, .int x5)] F dX6_bestPlace_56 (lt_kn hn (by decide)) rfl rfl ?_
            refine g_iinc 61 6 (x5 + 1) [(5, .int (x5 + 1)), (4, .int x4), (3, .int x3), (6, .int q3), (0, .ref (ad 0)), (1, .int x1), (2, .int x2)] F dX6_bestPlace_58 rfl rfl (lt_kn hn (by decide)) rfl rfl ?_
            refine g_goto 8 F dX6_bestPlace_61 rfl ?_
            exact G.lvs [4, 5, 6, 2, 1, 0] rfl (ih x1 x2 x3 x4 (x5 + 1) hf)
          · refine g_iload 51 1 F dX6_bestPlace_49 rfl rfl ?_
            refine g_goto 56 F dX6_bestPlace_51 rfl ?_
            refine g_istore 58 [(4, .int q3), (3, .int x3), (6, .int q3), (0, .ref (ad 0)), (1, .int x1), (2, .int x2), (5, .int x5)] F dX6_bestPlace_56 (lt_kn hn (by decide)) rfl rfl ?_
            refine g_iinc 61 6 (x5 + 1) [(5, .int (x5 + 1)), (4, .int q3), (3, .int x3), (6, .int q3), (0, .ref (ad 0)), (1, .int x1), (2, .int x2)] F dX6_bestPlace_58 rfl rfl (lt_kn hn (by decide)) rfl rfl ?_
            refine g_goto 8 F dX6_bestPlace_61 rfl ?_
            exact G.lvs [4, 5, 6, 2, 1, 0] rfl (ih x1 x2 x3 q3 (x5 + 1) hf)
        · refine g_iload 37 6 F dX6_bestPlace_35 rfl rfl ?_
          refine g_goto 41 F dX6_bestPlace_37 rfl ?_
          refine g_istore_n 42 [(3, .int x5), (6, .int q3), (0, .ref (ad 0)), (1, .int x1), (2, .int x2), (4, .int x4), (5, .int x5)] F dX6_bestPlace_41 (lt_kn hn (by decide)) rfl rfl ?_
          refine g_iload 44 1 F dX6_bestPlace_42 rfl rfl ?_
          refine g_iload 46 5 F dX6_bestPlace_44 rfl rfl ?_
          refine g_icmp_le 54 49 F dX6_bestPlace_46 rfl rfl hf (fun _ hf => ?_) (fun _ hf => ?_)
          · refine g_iload 56 5 F dX6_bestPlace_54 rfl rfl ?_
            refine g_istore 58 [(4, .int x4), (3, .int x5), (6, .int q3), (0, .ref (ad 0)), (1, .int x1), (2, .int x2), (5, .int x5)] F dX6_bestPlace_56 (lt_kn hn (by decide)) rfl rfl ?_
            refine g_iinc 61 6 (x5 + 1) [(5, .int (x5 + 1)), (4, .int x4), (3, .int x5), (6, .int q3), (0, .ref (ad 0)), (1, .int x1), (2, .int x2)] F dX6_bestPlace_58 rfl rfl (lt_kn hn (by decide)) rfl rfl ?_
            refine g_goto 8 F dX6_bestPlace_61 rfl ?_
            exact G.lvs [4, 5, 6, 2, 1, 0] rfl (ih x1 x2 x5 x4 (x5 + 1) hf)
          · refine g_iload 51 1 F dX6_bestPlace_49 rfl rfl ?_
            refine g_goto 56 F dX6_bestPlace_51 rfl ?_
            refine g_istore 58 [(4, .int q3), (3, .int x5), (6, .int q3), (0, .ref (ad 0)), (1, .int x1), (2, .int x2), (5, .int x5)] F dX6_bestPlace_56 (lt_kn hn (by decide)) rfl rfl ?_
            refine g_iinc 61 6 (x5 + 1) [(5, .int (x5 + 1)), (4, .int q3), (3, .int x5), (6, .int q3), (0, .ref (ad 0)), (1, .int x1), (2, .int x2)] F dX6_bestPlace_58 rfl rfl (lt_kn hn (by decide)) rfl rfl ?_
            refine g_goto 8 F dX6_bestPlace_61 rfl ?_
            exact G.lvs [4, 5, 6, 2, 1, 0] rfl (ih x1 x2 x5 q3 (x5 + 1) hf)
  unfold f_X6_bestPlace at hf
  refine g_iconst 1 (v := (-1)) F dX6_bestPlace_0 (by decide) rfl ?_
  refine g_istore_n 2 [(3, .int (-1)), (0, .ref (ad 0)), (1, .int a1), (2, .int a2)] F dX6_bestPlace_1 (lt_kn hn (by decide)) rfl rfl ?_
  refine g_iconst 3 (v := 0) F dX6_bestPlace_2 (by decide) rfl ?_
  refine g_istore 5 [(4, .int 0), (3, .int (-1)), (0, .ref (ad 0)), (1, .int a1), (2, .int a2)] F dX6_bestPlace_3 (lt_kn hn (by decide)) rfl rfl ?_
  refine g_iconst 6 (v := 0) F dX6_bestPlace_5 (by decide) rfl ?_
  refine g_istore 8 [(5, .int 0), (4, .int 0), (3, .int (-1)), (0, .ref (ad 0)), (1, .int a1), (2, .int a2)] F dX6_bestPlace_6 (lt_kn hn (by decide)) rfl rfl ?_
  exact G.lvs [3, 4, 5, 2, 1, 0] rfl (L_8 fu a1 a2 (-1) 0 0 hf)
theorem c_X6_bestPlace (l : Launch) (D : va_G) (cI cZ : ClassId) (ad : Nat → Nat) (A : Nat → Prop) (S : MS) (a1 : Int32) (a2 : Int32) (q : Int32) (hf : f_X6_bestPlace S a1 a2 = some q) : Ci l yX6_bestPlace cX6_bestPlace 7 (some .int) 3 68 (mX D cI cZ A ad) (mKf D cI cZ) A S [.ref (ad 0), .int a1, .int a2] q S := by
  refine met_i (by decide +kernel) (Nat.le_of_ble_eq_true rfl) (fun K hl hA hn F hR => ?_)
  subst hl; subst hA
  exact w_X6_bestPlace D cI cZ ad K F hn S a1 a2 q hf hR
set_option maxHeartbeats 4000000 in
set_option maxRecDepth 100000 in
theorem w_X6_round (D : va_G) (cI cZ : ClassId) (ad : Nat → Nat) (K : Ctx) (F : Fx K cX6_round RX6 (mKf D cI cZ) 4 94) (hn : kn K = 7) (S : MS) (a1 : Int32) (a2 : Int32) (a3 : Int32) (q : Int32 × MS) (hf : f_X6_round S a1 a2 a3 = some q) (hR : ∀ (pc : Nat) (lv : List (Nat × Value)), decode cX6_round pc = .ok (.ireturn, 1) → G K (mX D cI cZ (kA K) ad) 0 0 pc q.2 lv [.int q.1]) : G K (mX D cI cZ (kA K) ad) 0 0 0 S [(0, .ref (ad 0)), (1, .int a1), (2, .int a2), (3, .int a3)] [] := by
  have hok := mKf_ok D cI cZ (kA K)
  have L_81 : ∀ (n : Nat) (S : MS) (x1 : Int32) (x3 : Int32) (x4 : Int32) (x5 : Int32), l_X6_round_81 n S x1 x3 x4 x5 = some q → G K (mX D cI cZ (kA K) ad) 0 0 81 S [(0, .ref (ad 0)), (1, .int x1), (3, .int x3), (4, .int x4), (5, .int x5)] [] := by
    intro n
    induction n with
    | zero =>
      intro S x1 x3 x4 x5 hf
      rw [l_X6_round_81] at hf
      cases hf
    | succ n ih =>
      intro S x1 x3 x4 x5 hf
      rw [l_X6_round_81] at hf
      refine g_iload 83 4 F dX6_round_81 rfl rfl ?_
      refine g_bipush 85 (v := 22) F dX6_round_83 (by decide) rfl ?_
      refine g_icmp_gt 138 88 F dX6_round_85 rfl rfl hf (fun _ hf => ?_) (fun _ hf => ?_)
      · refine g_iload 140 3 F dX6_round_138 rfl rfl ?_
        obtain rfl := Option.some.inj hf
        exact hR _ _ dX6_round_140
      · refine g_aload_n 89 0 F dX6_round_88 rfl rfl ?_
        refine g_iload_n 90 1 F dX6_round_89 rfl rfl ?_
        refine g_iload 92 4 F dX6_round_90 rfl rfl ?_
        obtain ⟨q1, e2, hf⟩ := op_bd hf
        refine g_cVi 95 (st := []) F hok (c_X6_bestPlace (kl K) D cI cZ ad (kA K) S x1 x5 q1 e2) wy_X6_bestPlace ml_X6_241 (m_recv F) ⟨Nat.le_of_ble_eq_true rfl, Nat.le_of_ble_eq_true rfl⟩ rfl rfl (Nat.le_of_ble_eq_true rfl) ⟨Nat.zero_le _, Nat.zero_le _⟩ dX6_round_92 rfl ?_
        refine g_istore 97 [(6, .int q1), (0, .ref (ad 0)), (1, .int x1), (3, .int x3), (4, .int x4), (5, .int x5)] F dX6_round_95 (lt_kn hn (by decide)) rfl rfl ?_
        refine g_iload 99 4 F dX6_round_97 rfl rfl ?_
        refine g_iload 101 0 F dX6_round_99 rfl rfl ?_
        refine g_iconst 102 (v := (-1)) F dX6_round_101 (by decide) rfl ?_
        refine g_icmp_ne 109 105 F dX6_round_102 rfl rfl hf (fun _ hf => ?_) (fun _ hf => ?_)
        · refine g_iload_n 110 3 F dX6_round_109 rfl rfl ?_
          refine g_if_ne 117 113 F dX6_round_110 rfl rfl hf (fun _ hf => ?_) (fun _ hf => ?_)
          · refine g_aload_n 118 1 F dX6_round_117 rfl rfl ?_
            refine g_iload_n 119 2 F dX6_round_118 rfl rfl ?_
            refine g_iload 121 5 F dX6_round_119 rfl rfl ?_
            refine g_iload 123 0 F dX6_round_121 rfl rfl ?_
            obtain ⟨q3, e4, hf⟩ := op_bd hf
            refine g_cVi 126 (st := [.int x4]) F hok (c_X6_thereAt (kl K) D cI cZ ad (kA K) S x1 x5 q1 q3 e4) wy_X6_thereAt ml_X6_235 (m_recv F) ⟨Nat.le_of_ble_eq_true rfl, Nat.le_of_ble_eq_true rfl⟩ rfl rfl (Nat.le_of_ble_eq_true rfl) ⟨Nat.zero_le _, Nat.zero_le _⟩ dX6_round_123 rfl ?_
            obtain ⟨q5, e6, hf⟩ := op_bd hf
            refine g_cSi 129 (st := [.int x4]) F hok (c_X6_bits (kl K) D cI cZ ad (kA K) S q3 q5 e6) ws_X6_bits ml_X6_238 ⟨Nat.le_of_ble_eq_true rfl, Nat.le_of_ble_eq_true rfl⟩ rfl rfl (Nat.le_of_ble_eq_true rfl) ⟨Nat.zero_le _, Nat.zero_le _⟩ dX6_round_126 rfl ?_
            refine g_iadd 130 F dX6_round_129 rfl ?_
            refine g_istore 132 [(4, .int (x4 + q5)), (6, .int q1), (0, .ref (ad 0)), (1, .int x1), (3, .int x3), (5, .int x5)] F dX6_round_130 (lt_kn hn (by decide)) rfl rfl ?_
            refine g_iinc 135 5 (x5 + 1) [(5, .int (x5 + 1)), (4, .int (x4 + q5)), (6, .int q1), (0, .ref (ad 0)), (1, .int x1), (3, .int x3)] F dX6_round_132 rfl rfl (lt_kn hn (by decide)) rfl rfl ?_
            refine g_goto 81 F dX6_round_135 rfl ?_
            exact G.lvs [3, 4, 5, 1, 0] rfl (ih S x1 x3 (x4 + q5) (x5 + 1) hf)
          · refine g_iconst 114 (v := 1) F dX6_round_113 (by decide) rfl ?_
            refine g_goto 129 F dX6_round_114 rfl ?_
            refine g_iadd 130 F dX6_round_129 rfl ?_
            refine g_istore 132 [(4, .int (x4 + 1)), (6, .int q1), (0, .ref (ad 0)), (1, .int x1), (3, .int x3), (5, .int x5)] F dX6_round_130 (lt_kn hn (by decide)) rfl rfl ?_
            refine g_iinc 135 5 (x5 + 1) [(5, .int (x5 + 1)), (4, .int (x4 + 1)), (6, .int q1), (0, .ref (ad 0)), (1, .int x1), (3, .int x3)] F dX6_round_132 rfl rfl (lt_kn hn (by decide)) rfl rfl ?_
            refine g_goto 81 F dX6_round_135 rfl ?_
            exact G.lvs [3, 4, 5, 1, 0] rfl (ih S x1 x3 (x4 + 1) (x5 + 1) hf)
        · refine g_iconst 106 (v := 0) F dX6_round_105 (by decide) rfl ?_
          refine g_goto 129 F dX6_round_106 rfl ?_
          refine g_iadd 130 F dX6_round_129 rfl ?_
          refine g_istore 132 [(4, .int (x4 + 0)), (6, .int q1), (0, .ref (ad 0)), (1, .int x1), (3, .int x3), (5, .int x5)] F dX6_round_130 (lt_kn hn (by decide)) rfl rfl ?_
          refine g_iinc 135 5 (x5 + 1) [(5, .int (x5 + 1)), (4, .int (x4 + 0)), (6, .int q1), (0, .ref (ad 0)), (1, .int x1), (3, .int x3)] F dX6_round_132 rfl rfl (lt_kn hn (by decide)) rfl rfl ?_
          refine g_goto 81 F dX6_round_135 rfl ?_
          exact G.lvs [3, 4, 5, 1, 0] rfl (ih S x1 x3 (x4 + 0) (x5 + 1) hf)
  have J_38 : ∀ (S : MS) (x1 : Int32) (x2 : Int32) (x3 : Int32), j_X6_round_38 S x1 x2 x3 = some q → G K (mX D cI cZ (kA K) ad) 0 0 38 S [(0, .ref (ad 0)), (1, .int x1), (2, .int x2), (3, .int x3)] [] := by
    intro S x1 x2 x3 hf
    unfold j_X6_round_38 at hf
    refine g_iload_n 39 2 F dX6_round_38 rfl rfl ?_
    refine g_iconst 40 (v := (-1)) F dX6_round_39 (by decide) rfl ?_
    refine g_icmp_eq 75 43 F dX6_round_40 rfl rfl hf (fun _ hf => ?_) (fun _ hf => ?_)
    · refine g_iconst 76 (v := 0) F dX6_round_75 (by decide) rfl ?_
      refine g_istore 78 [(4, .int 0), (0, .ref (ad 0)), (1, .int x1), (2, .int x2), (3, .int x3)] F dX6_round_76 (lt_kn hn (by decide)) rfl rfl ?_
      refine g_iconst 79 (v := 5) F dX6_round_78 (by decide) rfl ?_
      refine g_istore 81 [(5, .int 5), (4, .int 0), (0, .ref (ad 0)), (1, .int x1), (2, .int x2), (3, .int x3)] F dX6_round_79 (lt_kn hn (by decide)) rfl rfl ?_
      exact G.lvs [2, 3, 5, 1, 0] rfl (L_81 fu S x1 x3 0 5 hf)
    · refine g_aload_n 44 0 F dX6_round_43 rfl rfl ?_
      refine g_iload_n 45 1 F dX6_round_44 rfl rfl ?_
      refine g_iload_n 46 2 F dX6_round_45 rfl rfl ?_
      obtain ⟨q7, e8, hf⟩ := op_bd hf
      refine g_cVi 49 (st := []) F hok (c_X6_bestPlace (kl K) D cI cZ ad (kA K) S x1 x2 q7 e8) wy_X6_bestPlace ml_X6_241 (m_recv F) ⟨Nat.le_of_ble_eq_true rfl, Nat.le_of_ble_eq_true rfl⟩ rfl rfl (Nat.le_of_ble_eq_true rfl) ⟨Nat.zero_le _, Nat.zero_le _⟩ dX6_round_46 rfl ?_
      refine g_istore 51 [(4, .int q7), (0, .ref (ad 0)), (1, .int x1), (2, .int x2), (3, .int x3)] F dX6_round_49 (lt_kn hn (by decide)) rfl rfl ?_
      refine g_iload 53 0 F dX6_round_51 rfl rfl ?_
      refine g_iconst 54 (v := (-1)) F dX6_round_53 (by decide) rfl ?_
      refine g_icmp_eq 61 57 F dX6_round_54 rfl rfl hf (fun _ hf => ?_) (fun _ hf => ?_)
      · refine g_iload 63 0 F dX6_round_61 rfl rfl ?_
        refine g_goto 74 F dX6_round_63 rfl ?_
        obtain rfl := Option.some.inj hf
        exact hR _ _ dX6_round_74
      · refine g_iload_n 58 4 F dX6_round_57 rfl rfl ?_
        refine g_if_ne 66 61 F dX6_round_58 rfl rfl hf (fun _ hf => ?_) (fun _ hf => ?_)
        · refine g_aload_n 67 1 F dX6_round_66 rfl rfl ?_
          refine g_iload_n 68 2 F dX6_round_67 rfl rfl ?_
          refine g_iload_n 69 3 F dX6_round_68 rfl rfl ?_
          refine g_iload 71 0 F dX6_round_69 rfl rfl ?_
          obtain ⟨q9, e10, hf⟩ := op_bd hf
          refine g_cVi 74 (st := []) F hok (c_X6_thereAt (kl K) D cI cZ ad (kA K) S x1 x2 q7 q9 e10) wy_X6_thereAt ml_X6_235 (m_recv F) ⟨Nat.le_of_ble_eq_true rfl, Nat.le_of_ble_eq_true rfl⟩ rfl rfl (Nat.le_of_ble_eq_true rfl) ⟨Nat.zero_le _, Nat.zero_le _⟩ dX6_round_71 rfl ?_
          obtain rfl := Option.some.inj hf
          exact hR _ _ dX6_round_74
        · refine g_iload 63 0 F dX6_round_61 rfl rfl ?_
          refine g_goto 74 F dX6_round_63 rfl ?_
          obtain rfl := Option.some.inj hf
          exact hR _ _ dX6_round_74
  unfold f_X6_round at hf
  refine g_aload_n 1 0 F dX6_round_0 rfl rfl ?_
  refine g_iconst 2 (v := 0) F dX6_round_1 (by decide) rfl ?_
  refine m_put_0 5 F fl_X6_38 dX6_round_2 rfl ?_
  refine g_iload_n 6 1 F dX6_round_5 rfl rfl ?_
  refine g_cSi 9 (st := []) F hok (c_X6_isDay (kl K) D cI cZ ad (kA K) (mS S 0 0) a1 _ rfl) ws_X6_isDay ml_X6_220 ⟨Nat.le_of_ble_eq_true rfl, Nat.le_of_ble_eq_true rfl⟩ rfl rfl (Nat.le_of_ble_eq_true rfl) ⟨Nat.zero_le _, Nat.zero_le _⟩ dX6_round_6 rfl ?_
  refine g_ifeq_b 36 12 F dX6_round_9 rfl rfl hf (fun _ hf => ?_) (fun _ hf => ?_)
  · refine g_iconst 37 (v := (-1)) F dX6_round_36 (by decide) rfl ?_
    obtain rfl := Option.some.inj hf
    exact hR _ _ dX6_round_37
  · refine g_iload_n 13 3 F dX6_round_12 rfl rfl ?_
    refine g_iconst 14 (v := 0) F dX6_round_13 (by decide) rfl ?_
    refine g_iconst 15 (v := 1) F dX6_round_14 (by decide) rfl ?_
    refine g_cSi 18 (st := []) F hok (c_X6_in (kl K) D cI cZ ad (kA K) (mS S 0 0) a3 0 1 _ rfl) ws_X6_in ml_X6_42 ⟨Nat.le_of_ble_eq_true rfl, Nat.le_of_ble_eq_true rfl⟩ rfl rfl (Nat.le_of_ble_eq_true rfl) ⟨Nat.zero_le _, Nat.zero_le _⟩ dX6_round_15 rfl ?_
    refine g_ifeq_b 36 21 F dX6_round_18 rfl rfl hf (fun _ hf => ?_) (fun _ hf => ?_)
    · refine g_iconst 37 (v := (-1)) F dX6_round_36 (by decide) rfl ?_
      obtain rfl := Option.some.inj hf
      exact hR _ _ dX6_round_37
    · refine g_iload_n 22 2 F dX6_round_21 rfl rfl ?_
      refine g_iconst 23 (v := (-1)) F dX6_round_22 (by decide) rfl ?_
      refine g_icmp_eq 38 26 F dX6_round_23 rfl rfl hf (fun _ hf => ?_) (fun _ hf => ?_)
      · exact G.lvs [0, 1, 2, 3] rfl (J_38 (mS S 0 0) a1 a2 a3 hf)
      · refine g_iload_n 27 2 F dX6_round_26 rfl rfl ?_
        refine g_iconst 28 (v := 5) F dX6_round_27 (by decide) rfl ?_
        refine g_bipush 30 (v := 22) F dX6_round_28 (by decide) rfl ?_
        refine g_cSi 33 (st := []) F hok (c_X6_in (kl K) D cI cZ ad (kA K) (mS S 0 0) a2 5 22 _ rfl) ws_X6_in ml_X6_42 ⟨Nat.le_of_ble_eq_true rfl, Nat.le_of_ble_eq_true rfl⟩ rfl rfl (Nat.le_of_ble_eq_true rfl) ⟨Nat.zero_le _, Nat.zero_le _⟩ dX6_round_30 rfl ?_
        refine g_ifne_b 38 36 F dX6_round_33 rfl rfl hf (fun _ hf => ?_) (fun _ hf => ?_)
        · exact G.lvs [0, 1, 2, 3] rfl (J_38 (mS S 0 0) a1 a2 a3 hf)
        · refine g_iconst 37 (v := (-1)) F dX6_round_36 (by decide) rfl ?_
          obtain rfl := Option.some.inj hf
          exact hR _ _ dX6_round_37
theorem c_X6_round (l : Launch) (D : va_G) (cI cZ : ClassId) (ad : Nat → Nat) (A : Nat → Prop) (S : MS) (a1 : Int32) (a2 : Int32) (a3 : Int32) (q : Int32 × MS) (hf : f_X6_round S a1 a2 a3 = some q) : Ci l yX6_round cX6_round 7 (some .int) 4 94 (mX D cI cZ A ad) (mKf D cI cZ) A S [.ref (ad 0), .int a1, .int a2, .int a3] q.1 q.2 := by
  refine met_i (by decide +kernel) (Nat.le_of_ble_eq_true rfl) (fun K hl hA hn F hR => ?_)
  subst hl; subst hA
  exact w_X6_round D cI cZ ad K F hn S a1 a2 a3 q hf hR
set_option maxHeartbeats 4000000 in
set_option maxRecDepth 100000 in
theorem w_X6_there (D : va_G) (cI cZ : ClassId) (ad : Nat → Nat) (K : Ctx) (F : Fx K cX6_there RX6 (mKf D cI cZ) 3 68) (hn : kn K = 4) (S : MS) (a1 : Int32) (a2 : Int32) (a3 : Int32) (q : Int32 × MS) (hf : f_X6_there S a1 a2 a3 = some q) (hR : ∀ (pc : Nat) (lv : List (Nat × Value)), decode cX6_there pc = .ok (.ireturn, 1) → G K (mX D cI cZ (kA K) ad) 0 0 pc q.2 lv [.int q.1]) : G K (mX D cI cZ (kA K) ad) 0 0 0 S [(0, .ref (ad 0)), (1, .int a1), (2, .int a2), (3, .int a3)] [] := by
  have hok := mKf_ok D cI cZ (kA K)
  unfold f_X6_there at hf
  refine g_aload_n 1 0 F dX6_there_0 rfl rfl ?_
  refine g_iconst 2 (v := 0) F dX6_there_1 (by decide) rfl ?_
  refine m_put_0 5 F fl_X6_38 dX6_there_2 rfl ?_
  refine g_iload_n 6 1 F dX6_there_5 rfl rfl ?_
  refine g_cSi 9 (st := []) F hok (c_X6_isDay (kl K) D cI cZ ad (kA K) (mS S 0 0) a1 _ rfl) ws_X6_isDay ml_X6_220 ⟨Nat.le_of_ble_eq_true rfl, Nat.le_of_ble_eq_true rfl⟩ rfl rfl (Nat.le_of_ble_eq_true rfl) ⟨Nat.zero_le _, Nat.zero_le _⟩ dX6_there_6 rfl ?_
  refine g_ifeq_b 42 12 F dX6_there_9 rfl rfl hf (fun _ hf => ?_) (fun _ hf => ?_)
  · refine g_iconst 43 (v := (-1)) F dX6_there_42 (by decide) rfl ?_
    obtain rfl := Option.some.inj hf
    exact hR _ _ dX6_there_43
  · refine g_iload_n 13 2 F dX6_there_12 rfl rfl ?_
    refine g_iconst 14 (v := 5) F dX6_there_13 (by decide) rfl ?_
    refine g_bipush 16 (v := 22) F dX6_there_14 (by decide) rfl ?_
    refine g_cSi 19 (st := []) F hok (c_X6_in (kl K) D cI cZ ad (kA K) (mS S 0 0) a2 5 22 _ rfl) ws_X6_in ml_X6_42 ⟨Nat.le_of_ble_eq_true rfl, Nat.le_of_ble_eq_true rfl⟩ rfl rfl (Nat.le_of_ble_eq_true rfl) ⟨Nat.zero_le _, Nat.zero_le _⟩ dX6_there_16 rfl ?_
    refine g_ifeq_b 42 22 F dX6_there_19 rfl rfl hf (fun _ hf => ?_) (fun _ hf => ?_)
    · refine g_iconst 43 (v := (-1)) F dX6_there_42 (by decide) rfl ?_
      obtain rfl := Option.some.inj hf
      exact hR _ _ dX6_there_43
    · refine g_iload_n 23 3 F dX6_there_22 rfl rfl ?_
      refine g_iconst 24 (v := 0) F dX6_there_23 (by decide) rfl ?_
      refine g_bipush 26 (v := 9) F dX6_there_24 (by decide) rfl ?_
      refine g_cSi 29 (st := []) F hok (c_X6_in (kl K) D cI cZ ad (kA K) (mS S 0 0) a3 0 9 _ rfl) ws_X6_in ml_X6_42 ⟨Nat.le_of_ble_eq_true rfl, Nat.le_of_ble_eq_true rfl⟩ rfl rfl (Nat.le_of_ble_eq_true rfl) ⟨Nat.zero_le _, Nat.zero_le _⟩ dX6_there_26 rfl ?_
      refine g_ifeq_b 42 32 F dX6_there_29 rfl rfl hf (fun _ hf => ?_) (fun _ hf => ?_)
      · refine g_iconst 43 (v := (-1)) F dX6_there_42 (by decide) rfl ?_
        obtain rfl := Option.some.inj hf
        exact hR _ _ dX6_there_43
      · refine g_aload_n 33 0 F dX6_there_32 rfl rfl ?_
        refine g_iload_n 34 1 F dX6_there_33 rfl rfl ?_
        refine g_iload_n 35 2 F dX6_there_34 rfl rfl ?_
        refine g_iload_n 36 3 F dX6_there_35 rfl rfl ?_
        obtain ⟨q1, e2, hf⟩ := op_bd hf
        refine g_cVi 39 (st := []) F hok (c_X6_thereAt (kl K) D cI cZ ad (kA K) (mS S 0 0) a1 a2 a3 q1 e2) wy_X6_thereAt ml_X6_235 (m_recv F) ⟨Nat.le_of_ble_eq_true rfl, Nat.le_of_ble_eq_true rfl⟩ rfl rfl (Nat.le_of_ble_eq_true rfl) ⟨Nat.zero_le _, Nat.zero_le _⟩ dX6_there_36 rfl ?_
        refine g_goto 43 F dX6_there_39 rfl ?_
        obtain rfl := Option.some.inj hf
        exact hR _ _ dX6_there_43
theorem c_X6_there (l : Launch) (D : va_G) (cI cZ : ClassId) (ad : Nat → Nat) (A : Nat → Prop) (S : MS) (a1 : Int32) (a2 : Int32) (a3 : Int32) (q : Int32 × MS) (hf : f_X6_there S a1 a2 a3 = some q) : Ci l yX6_there cX6_there 4 (some .int) 3 68 (mX D cI cZ A ad) (mKf D cI cZ) A S [.ref (ad 0), .int a1, .int a2, .int a3] q.1 q.2 := by
  refine met_i (by decide +kernel) (Nat.le_of_ble_eq_true rfl) (fun K hl hA hn F hR => ?_)
  subst hl; subst hA
  exact w_X6_there D cI cZ ad K F hn S a1 a2 a3 q hf hR
set_option maxHeartbeats 4000000 in
set_option maxRecDepth 100000 in
theorem w_X6_danger (D : va_G) (cI cZ : ClassId) (ad : Nat → Nat) (K : Ctx) (F : Fx K cX6_danger RX6 (mKf D cI cZ) 7 160) (hn : kn K = 4) (S : MS) (a1 : Int32) (q : Int32 × MS) (hf : f_X6_danger S a1 = some q) (hR : ∀ (pc : Nat) (lv : List (Nat × Value)), decode cX6_danger pc = .ok (.ireturn, 1) → G K (mX D cI cZ (kA K) ad) 0 0 pc q.2 lv [.int q.1]) : G K (mX D cI cZ (kA K) ad) 0 0 0 S [(0, .ref (ad 0)), (1, .int a1)] [] := by
  have hok := mKf_ok D cI cZ (kA K)
  unfold f_X6_danger at hf
  refine g_aload_n 1 0 F dX6_danger_0 rfl rfl ?_
  refine g_iconst 2 (v := 0) F dX6_danger_1 (by decide) rfl ?_
  refine m_put_0 5 F fl_X6_38 dX6_danger_2 rfl ?_
  refine g_aload_n 6 0 F dX6_danger_5 rfl rfl ?_
  refine g_iload_n 7 1 F dX6_danger_6 rfl rfl ?_
  refine g_cVi 10 (st := []) F hok (c_X6_isAthlete (kl K) D cI cZ ad (kA K) (mS S 0 0) a1 _ rfl) wy_X6_isAthlete ml_X6_73 (m_recv F) ⟨Nat.le_of_ble_eq_true rfl, Nat.le_of_ble_eq_true rfl⟩ rfl rfl (Nat.le_of_ble_eq_true rfl) ⟨Nat.zero_le _, Nat.zero_le _⟩ dX6_danger_7 rfl ?_
  refine g_ifne_b 15 13 F dX6_danger_10 rfl rfl hf (fun _ hf => ?_) (fun _ hf => ?_)
  · refine g_aload_n 16 0 F dX6_danger_15 rfl rfl ?_
    refine g_iload_n 17 1 F dX6_danger_16 rfl rfl ?_
    refine g_bipush 19 (v := 7) F dX6_danger_17 (by decide) rfl ?_
    obtain ⟨q1, e2, hf⟩ := op_bd hf
    refine g_cVi 22 (st := []) F hok (c_X6_its (kl K) D cI cZ ad (kA K) (mS S 0 0) a1 7 q1 e2) wy_X6_its ml_X6_50 (m_recv F) ⟨Nat.le_of_ble_eq_true rfl, Nat.le_of_ble_eq_true rfl⟩ rfl rfl (Nat.le_of_ble_eq_true rfl) ⟨Nat.zero_le _, Nat.zero_le _⟩ dX6_danger_19 rfl ?_
    refine g_istore_n 23 [(2, .int q1), (0, .ref (ad 0)), (1, .int a1)] F dX6_danger_22 (lt_kn hn (by decide)) rfl rfl ?_
    refine g_aload_n 24 1 F dX6_danger_23 rfl rfl ?_
    refine g_iload_n 25 2 F dX6_danger_24 rfl rfl ?_
    obtain ⟨q3, e4, hf⟩ := op_bd hf
    refine g_cVi 28 (st := []) F hok (c_X6_violationsOf (kl K) D cI cZ ad (kA K) (mS S 0 0) a1 q3 e4) wy_X6_violationsOf ml_X6_211 (m_recv F) ⟨Nat.le_of_ble_eq_true rfl, Nat.le_of_ble_eq_true rfl⟩ rfl rfl (Nat.le_of_ble_eq_true rfl) ⟨Nat.zero_le _, Nat.zero_le _⟩ dX6_danger_25 rfl ?_
    refine g_istore_n 29 [(3, .int q3.1), (2, .int q1), (0, .ref (ad 0)), (1, .int a1)] F dX6_danger_28 (lt_kn hn (by decide)) rfl rfl ?_
    refine g_aload_n 30 2 F dX6_danger_29 rfl rfl ?_
    refine g_iload_n 31 3 F dX6_danger_30 rfl rfl ?_
    refine g_iload_n 32 1 F dX6_danger_31 rfl rfl ?_
    refine g_iconst 33 (v := 1) F dX6_danger_32 (by decide) rfl ?_
    refine g_iadd 34 F dX6_danger_33 rfl ?_
    refine g_iconst 35 (v := (-1)) F dX6_danger_34 (by decide) rfl ?_
    obtain ⟨q5, e6, hf⟩ := op_bd hf
    refine g_cVv 38 (st := []) F hok (c_X6_walksBy (kl K) D cI cZ ad (kA K) q3.2 a1 (q1 + 1) (-1) q5 e6) wy_X6_walksBy ml_X6_201 (m_recv F) ⟨Nat.le_of_ble_eq_true rfl, Nat.le_of_ble_eq_true rfl⟩ rfl rfl (Nat.le_of_ble_eq_true rfl) ⟨Nat.zero_le _, Nat.zero_le _⟩ dX6_danger_35 rfl ?_
    refine g_aload_n 39 2 F dX6_danger_38 rfl rfl ?_
    refine m_get_17 42 F fl_X6_194 dX6_danger_39 rfl ?_
    refine g_iload_n 43 0 F dX6_danger_42 rfl rfl ?_
    refine g_icmp_le 50 46 F dX6_danger_43 rfl rfl hf (fun _ hf => ?_) (fun _ hf => ?_)
    · refine g_iconst 51 (v := 0) F dX6_danger_50 (by decide) rfl ?_
      obtain rfl := Option.some.inj hf
      exact hR _ _ dX6_danger_51
    · refine g_iconst 47 (v := 1) F dX6_danger_46 (by decide) rfl ?_
      refine g_goto 51 F dX6_danger_47 rfl ?_
      obtain rfl := Option.some.inj hf
      exact hR _ _ dX6_danger_51
  · refine g_iconst 14 (v := (-1)) F dX6_danger_13 (by decide) rfl ?_
    obtain rfl := Option.some.inj hf
    exact hR _ _ dX6_danger_14
theorem c_X6_danger (l : Launch) (D : va_G) (cI cZ : ClassId) (ad : Nat → Nat) (A : Nat → Prop) (S : MS) (a1 : Int32) (q : Int32 × MS) (hf : f_X6_danger S a1 = some q) : Ci l yX6_danger cX6_danger 4 (some .int) 7 160 (mX D cI cZ A ad) (mKf D cI cZ) A S [.ref (ad 0), .int a1] q.1 q.2 := by
  refine met_i (by decide +kernel) (Nat.le_of_ble_eq_true rfl) (fun K hl hA hn F hR => ?_)
  subst hl; subst hA
  exact w_X6_danger D cI cZ ad K F hn S a1 q hf hR
set_option maxHeartbeats 4000000 in
set_option maxRecDepth 100000 in
theorem w_X6_easier (D : va_G) (cI cZ : ClassId) (ad : Nat → Nat) (K : Ctx) (F : Fx K cX6_easier RX6 (mKf D cI cZ) 6 139) (hn : kn K = 3) (S : MS) (a1 : Int32) (q : Int32 × MS) (hf : f_X6_easier S a1 = some q) (hR : ∀ (pc : Nat) (lv : List (Nat × Value)), decode cX6_easier pc = .ok (.ireturn, 1) → G K (mX D cI cZ (kA K) ad) 0 0 pc q.2 lv [.int q.1]) : G K (mX D cI cZ (kA K) ad) 0 0 0 S [(0, .ref (ad 0)), (1, .int a1)] [] := by
  have hok := mKf_ok D cI cZ (kA K)
  have L_22 : ∀ (n : Nat) (S : MS) (x1 : Int32) (x2 : Int32), l_X6_easier_22 n S x1 x2 = some q → G K (mX D cI cZ (kA K) ad) 0 0 22 S [(0, .ref (ad 0)), (1, .int x1), (2, .int x2)] [] := by
    intro n
    induction n with
    | zero =>
      intro S x1 x2 hf
      rw [l_X6_easier_22] at hf
      cases hf
    | succ n ih =>
      intro S x1 x2 hf
      rw [l_X6_easier_22] at hf
      refine g_iload_n 23 2 F dX6_easier_22 rfl rfl ?_
      refine g_aload_n 24 0 F dX6_easier_23 rfl rfl ?_
      refine g_iload_n 25 1 F dX6_easier_24 rfl rfl ?_
      refine g_bipush 27 (v := 7) F dX6_easier_25 (by decide) rfl ?_
      obtain ⟨q3, e4, hf⟩ := op_bd hf
      refine g_cVi 30 (st := [.int x2]) F hok (c_X6_its (kl K) D cI cZ ad (kA K) S x1 7 q3 e4) wy_X6_its ml_X6_50 (m_recv F) ⟨Nat.le_of_ble_eq_true rfl, Nat.le_of_ble_eq_true rfl⟩ rfl rfl (Nat.le_of_ble_eq_true rfl) ⟨Nat.zero_le _, Nat.zero_le _⟩ dX6_easier_27 rfl ?_
      refine g_icmp_ge 84 33 F dX6_easier_30 rfl rfl hf (fun _ hf => ?_) (fun _ hf => ?_)
      · refine g_iconst 85 (v := (-1)) F dX6_easier_84 (by decide) rfl ?_
        obtain rfl := Option.some.inj hf
        exact hR _ _ dX6_easier_85
      · refine g_aload_n 34 0 F dX6_easier_33 rfl rfl ?_
        refine m_get_15 37 F fl_X6_32 dX6_easier_34 rfl ?_
        refine g_iload_n 38 2 F dX6_easier_37 rfl rfl ?_
        obtain ⟨h5, hf⟩ := op_ok hf
        refine m_ld_15 39 F h5 dX6_easier_38 rfl ?_
        refine g_if_eq 78 42 F dX6_easier_39 rfl rfl hf (fun _ hf => ?_) (fun _ hf => ?_)
        · refine g_iinc 81 2 (x2 + 1) [(2, .int (x2 + 1)), (0, .ref (ad 0)), (1, .int x1)] F dX6_easier_78 rfl rfl (lt_kn hn (by decide)) rfl rfl ?_
          refine g_goto 22 F dX6_easier_81 rfl ?_
          exact G.lvs [1, 2, 0] rfl (ih S x1 (x2 + 1) hf)
        · refine g_aload_n 43 0 F dX6_easier_42 rfl rfl ?_
          refine g_iload_n 44 1 F dX6_easier_43 rfl rfl ?_
          refine g_iload_n 45 2 F dX6_easier_44 rfl rfl ?_
          obtain ⟨q6, e7, hf⟩ := op_bd hf
          refine g_cVi 48 (st := []) F hok (c_X6_dayOf (kl K) D cI cZ ad (kA K) S x1 x2 q6 e7) wy_X6_dayOf ml_X6_191 (m_recv F) ⟨Nat.le_of_ble_eq_true rfl, Nat.le_of_ble_eq_true rfl⟩ rfl rfl (Nat.le_of_ble_eq_true rfl) ⟨Nat.zero_le _, Nat.zero_le _⟩ dX6_easier_45 rfl ?_
          refine g_aload_n 49 0 F dX6_easier_48 rfl rfl ?_
          refine m_get_1 52 F fl_X6_7 dX6_easier_49 rfl ?_
          refine g_iconst 53 (v := 0) F dX6_easier_52 (by decide) rfl ?_
          refine m_ldK_1 54 0 F (by decide) (by decide) dX6_easier_53 rfl ?_
          refine g_aload_n 55 0 F dX6_easier_54 rfl rfl ?_
          refine m_get_1 58 F fl_X6_7 dX6_easier_55 rfl ?_
          refine g_iconst 59 (v := 3) F dX6_easier_58 (by decide) rfl ?_
          refine m_ldK_1 60 3 F (by decide) (by decide) dX6_easier_59 rfl ?_
          refine g_isub 61 F dX6_easier_60 rfl ?_
          refine g_icmp_le 78 64 F dX6_easier_61 rfl rfl hf (fun _ hf => ?_) (fun _ hf => ?_)
          · refine g_iinc 81 2 (x2 + 1) [(2, .int (x2 + 1)), (0, .ref (ad 0)), (1, .int x1)] F dX6_easier_78 rfl rfl (lt_kn hn (by decide)) rfl rfl ?_
            refine g_goto 22 F dX6_easier_81 rfl ?_
            exact G.lvs [1, 2, 0] rfl (ih S x1 (x2 + 1) hf)
          · refine g_aload_n 65 0 F dX6_easier_64 rfl rfl ?_
            refine g_iload_n 66 1 F dX6_easier_65 rfl rfl ?_
            refine g_iload_n 67 2 F dX6_easier_66 rfl rfl ?_
            obtain ⟨q8, e9, hf⟩ := op_bd hf
            refine g_cVi 70 (st := []) F hok (c_X6_dayOf (kl K) D cI cZ ad (kA K) S x1 x2 q8 e9) wy_X6_dayOf ml_X6_191 (m_recv F) ⟨Nat.le_of_ble_eq_true rfl, Nat.le_of_ble_eq_true rfl⟩ rfl rfl (Nat.le_of_ble_eq_true rfl) ⟨Nat.zero_le _, Nat.zero_le _⟩ dX6_easier_67 rfl ?_
            refine g_aload_n 71 0 F dX6_easier_70 rfl rfl ?_
            refine m_get_1 74 F fl_X6_7 dX6_easier_71 rfl ?_
            refine g_iconst 75 (v := 3) F dX6_easier_74 (by decide) rfl ?_
            refine m_ldK_1 76 3 F (by decide) (by decide) dX6_easier_75 rfl ?_
            refine g_iadd 77 F dX6_easier_76 rfl ?_
            obtain rfl := Option.some.inj hf
            exact hR _ _ dX6_easier_77
  unfold f_X6_easier at hf
  refine g_aload_n 1 0 F dX6_easier_0 rfl rfl ?_
  refine g_iconst 2 (v := 0) F dX6_easier_1 (by decide) rfl ?_
  refine m_put_0 5 F fl_X6_38 dX6_easier_2 rfl ?_
  refine g_aload_n 6 0 F dX6_easier_5 rfl rfl ?_
  refine g_iload_n 7 1 F dX6_easier_6 rfl rfl ?_
  refine g_cVi 10 (st := []) F hok (c_X6_isAthlete (kl K) D cI cZ ad (kA K) (mS S 0 0) a1 _ rfl) wy_X6_isAthlete ml_X6_73 (m_recv F) ⟨Nat.le_of_ble_eq_true rfl, Nat.le_of_ble_eq_true rfl⟩ rfl rfl (Nat.le_of_ble_eq_true rfl) ⟨Nat.zero_le _, Nat.zero_le _⟩ dX6_easier_7 rfl ?_
  refine g_ifne_b 15 13 F dX6_easier_10 rfl rfl hf (fun _ hf => ?_) (fun _ hf => ?_)
  · refine g_aload_n 16 0 F dX6_easier_15 rfl rfl ?_
    refine g_iload_n 17 1 F dX6_easier_16 rfl rfl ?_
    obtain ⟨q1, e2, hf⟩ := op_bd hf
    refine g_cVv 20 (st := []) F hok (c_X6_walks (kl K) D cI cZ ad (kA K) (mS S 0 0) a1 q1 e2) wy_X6_walks ml_X6_205 (m_recv F) ⟨Nat.le_of_ble_eq_true rfl, Nat.le_of_ble_eq_true rfl⟩ rfl rfl (Nat.le_of_ble_eq_true rfl) ⟨Nat.zero_le _, Nat.zero_le _⟩ dX6_easier_17 rfl ?_
    refine g_iconst 21 (v := 0) F dX6_easier_20 (by decide) rfl ?_
    refine g_istore_n 22 [(2, .int 0), (0, .ref (ad 0)), (1, .int a1)] F dX6_easier_21 (lt_kn hn (by decide)) rfl rfl ?_
    exact G.lvs [1, 2, 0] rfl (L_22 fu q1 a1 0 hf)
  · refine g_iconst 14 (v := (-1)) F dX6_easier_13 (by decide) rfl ?_
    obtain rfl := Option.some.inj hf
    exact hR _ _ dX6_easier_14
theorem c_X6_easier (l : Launch) (D : va_G) (cI cZ : ClassId) (ad : Nat → Nat) (A : Nat → Prop) (S : MS) (a1 : Int32) (q : Int32 × MS) (hf : f_X6_easier S a1 = some q) : Ci l yX6_easier cX6_easier 3 (some .int) 6 139 (mX D cI cZ A ad) (mKf D cI cZ) A S [.ref (ad 0), .int a1] q.1 q.2 := by
  refine met_i (by decide +kernel) (Nat.le_of_ble_eq_true rfl) (fun K hl hA hn F hR => ?_)
  subst hl; subst hA
  exact w_X6_easier D cI cZ ad K F hn S a1 q hf hR
set_option maxHeartbeats 4000000 in
set_option maxRecDepth 100000 in
theorem w_X6_without (D : va_G) (cI cZ : ClassId) (ad : Nat → Nat) (K : Ctx) (F : Fx K cX6_without RX6 (mKf D cI cZ) 5 118) (hn : kn K = 3) (S : MS) (a1 : Int32) (a2 : Int32) (q : Int32 × MS) (hf : f_X6_without S a1 a2 = some q) (hR : ∀ (pc : Nat) (lv : List (Nat × Value)), decode cX6_without pc = .ok (.ireturn, 1) → G K (mX D cI cZ (kA K) ad) 0 0 pc q.2 lv [.int q.1]) : G K (mX D cI cZ (kA K) ad) 0 0 0 S [(0, .ref (ad 0)), (1, .int a1), (2, .int a2)] [] := by
  have hok := mKf_ok D cI cZ (kA K)
  unfold f_X6_without at hf
  refine g_aload_n 1 0 F dX6_without_0 rfl rfl ?_
  refine g_iconst 2 (v := 0) F dX6_without_1 (by decide) rfl ?_
  refine m_put_0 5 F fl_X6_38 dX6_without_2 rfl ?_
  refine g_aload_n 6 0 F dX6_without_5 rfl rfl ?_
  refine g_iload_n 7 1 F dX6_without_6 rfl rfl ?_
  refine g_iload_n 8 2 F dX6_without_7 rfl rfl ?_
  obtain ⟨q1, e2, hf⟩ := op_bd hf
  refine g_cVi 11 (st := []) F hok (c_X6_isFailure (kl K) D cI cZ ad (kA K) (mS S 0 0) a1 a2 q1 e2) wy_X6_isFailure ml_X6_102 (m_recv F) ⟨Nat.le_of_ble_eq_true rfl, Nat.le_of_ble_eq_true rfl⟩ rfl rfl (Nat.le_of_ble_eq_true rfl) ⟨Nat.zero_le _, Nat.zero_le _⟩ dX6_without_8 rfl ?_
  refine g_ifne_b 16 14 F dX6_without_11 rfl rfl hf (fun _ hf => ?_) (fun _ hf => ?_)
  · refine g_aload_n 17 0 F dX6_without_16 rfl rfl ?_
    refine g_iload_n 18 1 F dX6_without_17 rfl rfl ?_
    refine g_aload_n 19 0 F dX6_without_18 rfl rfl ?_
    refine g_iload_n 20 1 F dX6_without_19 rfl rfl ?_
    refine g_bipush 22 (v := 7) F dX6_without_20 (by decide) rfl ?_
    obtain ⟨q3, e4, hf⟩ := op_bd hf
    refine g_cVi 25 (st := [.int a1, .ref (ad 0)]) F hok (c_X6_its (kl K) D cI cZ ad (kA K) (mS S 0 0) a1 7 q3 e4) wy_X6_its ml_X6_50 (m_recv F) ⟨Nat.le_of_ble_eq_true rfl, Nat.le_of_ble_eq_true rfl⟩ rfl rfl (Nat.le_of_ble_eq_true rfl) ⟨Nat.zero_le _, Nat.zero_le _⟩ dX6_without_22 rfl ?_
    refine g_iload_n 26 2 F dX6_without_25 rfl rfl ?_
    obtain ⟨q5, e6, hf⟩ := op_bd hf
    refine g_cVv 29 (st := []) F hok (c_X6_walksBy (kl K) D cI cZ ad (kA K) (mS S 0 0) a1 q3 a2 q5 e6) wy_X6_walksBy ml_X6_201 (m_recv F) ⟨Nat.le_of_ble_eq_true rfl, Nat.le_of_ble_eq_true rfl⟩ rfl rfl (Nat.le_of_ble_eq_true rfl) ⟨Nat.zero_le _, Nat.zero_le _⟩ dX6_without_26 rfl ?_
    refine g_aload_n 30 0 F dX6_without_29 rfl rfl ?_
    refine m_get_17 33 F fl_X6_194 dX6_without_30 rfl ?_
    obtain rfl := Option.some.inj hf
    exact hR _ _ dX6_without_33
  · refine g_iconst 15 (v := (-1)) F dX6_without_14 (by decide) rfl ?_
    obtain rfl := Option.some.inj hf
    exact hR _ _ dX6_without_15
theorem c_X6_without (l : Launch) (D : va_G) (cI cZ : ClassId) (ad : Nat → Nat) (A : Nat → Prop) (S : MS) (a1 : Int32) (a2 : Int32) (q : Int32 × MS) (hf : f_X6_without S a1 a2 = some q) : Ci l yX6_without cX6_without 3 (some .int) 5 118 (mX D cI cZ A ad) (mKf D cI cZ) A S [.ref (ad 0), .int a1, .int a2] q.1 q.2 := by
  refine met_i (by decide +kernel) (Nat.le_of_ble_eq_true rfl) (fun K hl hA hn F hR => ?_)
  subst hl; subst hA
  exact w_X6_without D cI cZ ad K F hn S a1 a2 q hf hR
set_option maxHeartbeats 4000000 in
set_option maxRecDepth 100000 in
theorem w_X6_isWorse (D : va_G) (cI cZ : ClassId) (ad : Nat → Nat) (K : Ctx) (F : Fx K cX6_isWorse RX6 (mKf D cI cZ) 7 160) (hn : kn K = 4) (S : MS) (a1 : Int32) (a2 : Int32) (q : Bool × MS) (hf : f_X6_isWorse S a1 a2 = some q) (hR : ∀ (pc : Nat) (lv : List (Nat × Value)), decode cX6_isWorse pc = .ok (.ireturn, 1) → G K (mX D cI cZ (kA K) ad) 0 0 pc q.2 lv [.int (bI q.1)]) : G K (mX D cI cZ (kA K) ad) 0 0 0 S [(0, .ref (ad 0)), (1, .int a1), (2, .int a2)] [] := by
  have hok := mKf_ok D cI cZ (kA K)
  unfold f_X6_isWorse at hf
  refine g_aload_n 1 0 F dX6_isWorse_0 rfl rfl ?_
  refine g_iload_n 2 1 F dX6_isWorse_1 rfl rfl ?_
  obtain ⟨q1, e2, hf⟩ := op_bd hf
  refine g_cVi 5 (st := []) F hok (c_X6_violationsOf (kl K) D cI cZ ad (kA K) S a1 q1 e2) wy_X6_violationsOf ml_X6_211 (m_recv F) ⟨Nat.le_of_ble_eq_true rfl, Nat.le_of_ble_eq_true rfl⟩ rfl rfl (Nat.le_of_ble_eq_true rfl) ⟨Nat.zero_le _, Nat.zero_le _⟩ dX6_isWorse_2 rfl ?_
  refine g_aload_n 6 0 F dX6_isWorse_5 rfl rfl ?_
  refine g_iload_n 7 2 F dX6_isWorse_6 rfl rfl ?_
  obtain ⟨q3, e4, hf⟩ := op_bd hf
  refine g_cVi 10 (st := [.int q1.1]) F hok (c_X6_violationsOf (kl K) D cI cZ ad (kA K) q1.2 a2 q3 e4) wy_X6_violationsOf ml_X6_211 (m_recv F) ⟨Nat.le_of_ble_eq_true rfl, Nat.le_of_ble_eq_true rfl⟩ rfl rfl (Nat.le_of_ble_eq_true rfl) ⟨Nat.zero_le _, Nat.zero_le _⟩ dX6_isWorse_7 rfl ?_
  refine g_isub 11 F dX6_isWorse_10 rfl ?_
  refine g_istore_n 12 [(3, .int (q1.1 - q3.1)), (0, .ref (ad 0)), (1, .int a1), (2, .int a2)] F dX6_isWorse_11 (lt_kn hn (by decide)) rfl rfl ?_
  refine g_iload_n 13 0 F dX6_isWorse_12 rfl rfl ?_
  refine g_if_ne 30 16 F dX6_isWorse_13 rfl rfl hf (fun _ hf => ?_) (fun _ hf => ?_)
  · refine g_iload_n 31 0 F dX6_isWorse_30 rfl rfl ?_
    refine g_istore_n 32 [(3, .int (q1.1 - q3.1)), (0, .ref (ad 0)), (1, .int a1), (2, .int a2)] F dX6_isWorse_31 (lt_kn hn (by decide)) rfl rfl ?_
    refine g_iload_n 33 0 F dX6_isWorse_32 rfl rfl ?_
    refine g_if_ne 54 36 F dX6_isWorse_33 rfl rfl hf (fun _ hf => ?_) (fun _ hf => ?_)
    · refine g_iload_n 55 0 F dX6_isWorse_54 rfl rfl ?_
      refine g_if_le 62 58 F dX6_isWorse_55 rfl rfl hf (fun _ hf => ?_) (fun _ hf => ?_)
      · refine g_iconst 63 (v := 0) F dX6_isWorse_62 (by decide) rfl ?_
        obtain rfl := Option.some.inj hf
        exact hR _ _ dX6_isWorse_63
      · refine g_iconst 59 (v := 1) F dX6_isWorse_58 (by decide) rfl ?_
        refine g_goto 63 F dX6_isWorse_59 rfl ?_
        obtain rfl := Option.some.inj hf
        exact hR _ _ dX6_isWorse_63
    · refine g_aload_n 37 1 F dX6_isWorse_36 rfl rfl ?_
      refine g_iload_n 38 2 F dX6_isWorse_37 rfl rfl ?_
      refine g_bipush 40 (v := 7) F dX6_isWorse_38 (by decide) rfl ?_
      obtain ⟨q5, e6, hf⟩ := op_bd hf
      refine g_cVi 43 (st := []) F hok (c_X6_its (kl K) D cI cZ ad (kA K) q3.2 a1 7 q5 e6) wy_X6_its ml_X6_50 (m_recv F) ⟨Nat.le_of_ble_eq_true rfl, Nat.le_of_ble_eq_true rfl⟩ rfl rfl (Nat.le_of_ble_eq_true rfl) ⟨Nat.zero_le _, Nat.zero_le _⟩ dX6_isWorse_40 rfl ?_
      refine g_aload_n 44 1 F dX6_isWorse_43 rfl rfl ?_
      refine g_iload_n 45 3 F dX6_isWorse_44 rfl rfl ?_
      refine g_bipush 47 (v := 7) F dX6_isWorse_45 (by decide) rfl ?_
      obtain ⟨q7, e8, hf⟩ := op_bd hf
      refine g_cVi 50 (st := [.int q5]) F hok (c_X6_its (kl K) D cI cZ ad (kA K) q3.2 a2 7 q7 e8) wy_X6_its ml_X6_50 (m_recv F) ⟨Nat.le_of_ble_eq_true rfl, Nat.le_of_ble_eq_true rfl⟩ rfl rfl (Nat.le_of_ble_eq_true rfl) ⟨Nat.zero_le _, Nat.zero_le _⟩ dX6_isWorse_47 rfl ?_
      refine g_isub 51 F dX6_isWorse_50 rfl ?_
      refine g_goto 55 F dX6_isWorse_51 rfl ?_
      refine g_if_le 62 58 F dX6_isWorse_55 rfl rfl hf (fun _ hf => ?_) (fun _ hf => ?_)
      · refine g_iconst 63 (v := 0) F dX6_isWorse_62 (by decide) rfl ?_
        obtain rfl := Option.some.inj hf
        exact hR _ _ dX6_isWorse_63
      · refine g_iconst 59 (v := 1) F dX6_isWorse_58 (by decide) rfl ?_
        refine g_goto 63 F dX6_isWorse_59 rfl ?_
        obtain rfl := Option.some.inj hf
        exact hR _ _ dX6_isWorse_63
  · refine g_aload_n 17 1 F dX6_isWorse_16 rfl rfl ?_
    refine g_iload_n 18 2 F dX6_isWorse_17 rfl rfl ?_
    obtain ⟨q9, e10, hf⟩ := op_bd hf
    refine g_cVi 21 (st := []) F hok (c_X6_pointsNow (kl K) D cI cZ ad (kA K) q3.2 a1 q9 e10) wy_X6_pointsNow ml_X6_208 (m_recv F) ⟨Nat.le_of_ble_eq_true rfl, Nat.le_of_ble_eq_true rfl⟩ rfl rfl (Nat.le_of_ble_eq_true rfl) ⟨Nat.zero_le _, Nat.zero_le _⟩ dX6_isWorse_18 rfl ?_
    refine g_aload_n 22 1 F dX6_isWorse_21 rfl rfl ?_
    refine g_iload_n 23 3 F dX6_isWorse_22 rfl rfl ?_
    obtain ⟨q11, e12, hf⟩ := op_bd hf
    refine g_cVi 26 (st := [.int q9.1]) F hok (c_X6_pointsNow (kl K) D cI cZ ad (kA K) q9.2 a2 q11 e12) wy_X6_pointsNow ml_X6_208 (m_recv F) ⟨Nat.le_of_ble_eq_true rfl, Nat.le_of_ble_eq_true rfl⟩ rfl rfl (Nat.le_of_ble_eq_true rfl) ⟨Nat.zero_le _, Nat.zero_le _⟩ dX6_isWorse_23 rfl ?_
    refine g_isub 27 F dX6_isWorse_26 rfl ?_
    refine g_goto 31 F dX6_isWorse_27 rfl ?_
    refine g_istore_n 32 [(3, .int (q9.1 - q11.1)), (0, .ref (ad 0)), (1, .int a1), (2, .int a2)] F dX6_isWorse_31 (lt_kn hn (by decide)) rfl rfl ?_
    refine g_iload_n 33 0 F dX6_isWorse_32 rfl rfl ?_
    refine g_if_ne 54 36 F dX6_isWorse_33 rfl rfl hf (fun _ hf => ?_) (fun _ hf => ?_)
    · refine g_iload_n 55 0 F dX6_isWorse_54 rfl rfl ?_
      refine g_if_le 62 58 F dX6_isWorse_55 rfl rfl hf (fun _ hf => ?_) (fun _ hf => ?_)
      · refine g_iconst 63 (v := 0) F dX6_isWorse_62 (by decide) rfl ?_
        obtain rfl := Option.some.inj hf
        exact hR _ _ dX6_isWorse_63
      · refine g_iconst 59 (v := 1) F dX6_isWorse_58 (by decide) rfl ?_
        refine g_goto 63 F dX6_isWorse_59 rfl ?_
        obtain rfl := Option.some.inj hf
        exact hR _ _ dX6_isWorse_63
    · refine g_aload_n 37 1 F dX6_isWorse_36 rfl rfl ?_
      refine g_iload_n 38 2 F dX6_isWorse_37 rfl rfl ?_
      refine g_bipush 40 (v := 7) F dX6_isWorse_38 (by decide) rfl ?_
      obtain ⟨q13, e14, hf⟩ := op_bd hf
      refine g_cVi 43 (st := []) F hok (c_X6_its (kl K) D cI cZ ad (kA K) q11.2 a1 7 q13 e14) wy_X6_its ml_X6_50 (m_recv F) ⟨Nat.le_of_ble_eq_true rfl, Nat.le_of_ble_eq_true rfl⟩ rfl rfl (Nat.le_of_ble_eq_true rfl) ⟨Nat.zero_le _, Nat.zero_le _⟩ dX6_isWorse_40 rfl ?_
      refine g_aload_n 44 1 F dX6_isWorse_43 rfl rfl ?_
      refine g_iload_n 45 3 F dX6_isWorse_44 rfl rfl ?_
      refine g_bipush 47 (v := 7) F dX6_isWorse_45 (by decide) rfl ?_
      obtain ⟨q15, e16, hf⟩ := op_bd hf
      refine g_cVi 50 (st := [.int q13]) F hok (c_X6_its (kl K) D cI cZ ad (kA K) q11.2 a2 7 q15 e16) wy_X6_its ml_X6_50 (m_recv F) ⟨Nat.le_of_ble_eq_true rfl, Nat.le_of_ble_eq_true rfl⟩ rfl rfl (Nat.le_of_ble_eq_true rfl) ⟨Nat.zero_le _, Nat.zero_le _⟩ dX6_isWorse_47 rfl ?_
      refine g_isub 51 F dX6_isWorse_50 rfl ?_
      refine g_goto 55 F dX6_isWorse_51 rfl ?_
      refine g_if_le 62 58 F dX6_isWorse_55 rfl rfl hf (fun _ hf => ?_) (fun _ hf => ?_)
      · refine g_iconst 63 (v := 0) F dX6_isWorse_62 (by decide) rfl ?_
        obtain rfl := Option.some.inj hf
        exact hR _ _ dX6_isWorse_63
      · refine g_iconst 59 (v := 1) F dX6_isWorse_58 (by decide) rfl ?_
        refine g_goto 63 F dX6_isWorse_59 rfl ?_
        obtain rfl := Option.some.inj hf
        exact hR _ _ dX6_isWorse_63
theorem c_X6_isWorse (l : Launch) (D : va_G) (cI cZ : ClassId) (ad : Nat → Nat) (A : Nat → Prop) (S : MS) (a1 : Int32) (a2 : Int32) (q : Bool × MS) (hf : f_X6_isWorse S a1 a2 = some q) : Ci l yX6_isWorse cX6_isWorse 4 (some .boolean) 7 160 (mX D cI cZ A ad) (mKf D cI cZ) A S [.ref (ad 0), .int a1, .int a2] (bI q.1) q.2 := by
  refine met_z (by decide +kernel) (Nat.le_of_ble_eq_true rfl) (fun K hl hA hn F hR => ?_)
  subst hl; subst hA
  exact w_X6_isWorse D cI cZ ad K F hn S a1 a2 q hf hR
set_option maxHeartbeats 4000000 in
set_option maxRecDepth 100000 in
theorem w_X6_worst (D : va_G) (cI cZ : ClassId) (ad : Nat → Nat) (K : Ctx) (F : Fx K cX6_worst RX6 (mKf D cI cZ) 8 183) (hn : kn K = 3) (S : MS) (q : Int32 × MS) (hf : f_X6_worst S = some q) (hR : ∀ (pc : Nat) (lv : List (Nat × Value)), decode cX6_worst pc = .ok (.ireturn, 1) → G K (mX D cI cZ (kA K) ad) 0 0 pc q.2 lv [.int q.1]) : G K (mX D cI cZ (kA K) ad) 0 0 0 S [(0, .ref (ad 0))] [] := by
  have hok := mKf_ok D cI cZ (kA K)
  have L_22 : ∀ (n : Nat) (S : MS) (x1 : Int32) (x2 : Int32), l_X6_worst_22 n S x1 x2 = some q → G K (mX D cI cZ (kA K) ad) 0 0 22 S [(0, .ref (ad 0)), (1, .int x1), (2, .int x2)] [] := by
    intro n
    induction n with
    | zero =>
      intro S x1 x2 hf
      rw [l_X6_worst_22] at hf
      cases hf
    | succ n ih =>
      intro S x1 x2 hf
      rw [l_X6_worst_22] at hf
      refine g_iload_n 23 2 F dX6_worst_22 rfl rfl ?_
      refine g_aload_n 24 0 F dX6_worst_23 rfl rfl ?_
      refine m_get_1 27 F fl_X6_7 dX6_worst_24 rfl ?_
      refine g_iconst 28 (v := 2) F dX6_worst_27 (by decide) rfl ?_
      refine m_ldK_1 29 2 F (by decide) (by decide) dX6_worst_28 rfl ?_
      refine g_icmp_ge 53 32 F dX6_worst_29 rfl rfl hf (fun _ hf => ?_) (fun _ hf => ?_)
      · refine g_iload_n 54 1 F dX6_worst_53 rfl rfl ?_
        obtain rfl := Option.some.inj hf
        exact hR _ _ dX6_worst_54
      · refine g_aload_n 33 0 F dX6_worst_32 rfl rfl ?_
        refine g_iload_n 34 2 F dX6_worst_33 rfl rfl ?_
        refine g_iload_n 35 1 F dX6_worst_34 rfl rfl ?_
        obtain ⟨q1, e2, hf⟩ := op_bd hf
        refine g_cVi 38 (st := []) F hok (c_X6_isWorse (kl K) D cI cZ ad (kA K) S x2 x1 q1 e2) wy_X6_isWorse ml_X6_244 (m_recv F) ⟨Nat.le_of_ble_eq_true rfl, Nat.le_of_ble_eq_true rfl⟩ rfl rfl (Nat.le_of_ble_eq_true rfl) ⟨Nat.zero_le _, Nat.zero_le _⟩ dX6_worst_35 rfl ?_
        refine g_ifeq_b 45 41 F dX6_worst_38 rfl rfl hf (fun _ hf => ?_) (fun _ hf => ?_)
        · refine g_iload_n 46 1 F dX6_worst_45 rfl rfl ?_
          refine g_istore_n 47 [(1, .int x1), (0, .ref (ad 0)), (2, .int x2)] F dX6_worst_46 (lt_kn hn (by decide)) rfl rfl ?_
          refine g_iinc 50 2 (x2 + 1) [(2, .int (x2 + 1)), (1, .int x1), (0, .ref (ad 0))] F dX6_worst_47 rfl rfl (lt_kn hn (by decide)) rfl rfl ?_
          refine g_goto 22 F dX6_worst_50 rfl ?_
          exact G.lvs [2, 1, 0] rfl (ih q1.2 x1 (x2 + 1) hf)
        · refine g_iload_n 42 2 F dX6_worst_41 rfl rfl ?_
          refine g_goto 46 F dX6_worst_42 rfl ?_
          refine g_istore_n 47 [(1, .int x2), (0, .ref (ad 0)), (2, .int x2)] F dX6_worst_46 (lt_kn hn (by decide)) rfl rfl ?_
          refine g_iinc 50 2 (x2 + 1) [(2, .int (x2 + 1)), (1, .int x2), (0, .ref (ad 0))] F dX6_worst_47 rfl rfl (lt_kn hn (by decide)) rfl rfl ?_
          refine g_goto 22 F dX6_worst_50 rfl ?_
          exact G.lvs [2, 1, 0] rfl (ih q1.2 x2 (x2 + 1) hf)
  unfold f_X6_worst at hf
  refine g_aload_n 1 0 F dX6_worst_0 rfl rfl ?_
  refine g_iconst 2 (v := 0) F dX6_worst_1 (by decide) rfl ?_
  refine m_put_0 5 F fl_X6_38 dX6_worst_2 rfl ?_
  refine g_aload_n 6 0 F dX6_worst_5 rfl rfl ?_
  refine m_get_1 9 F fl_X6_7 dX6_worst_6 rfl ?_
  refine g_iconst 10 (v := 2) F dX6_worst_9 (by decide) rfl ?_
  refine m_ldK_1 11 2 F (by decide) (by decide) dX6_worst_10 rfl ?_
  refine g_if_ne 18 14 F dX6_worst_11 rfl rfl hf (fun _ hf => ?_) (fun _ hf => ?_)
  · refine g_iconst 19 (v := 0) F dX6_worst_18 (by decide) rfl ?_
    refine g_istore_n 20 [(1, .int 0), (0, .ref (ad 0))] F dX6_worst_19 (lt_kn hn (by decide)) rfl rfl ?_
    refine g_iconst 21 (v := 1) F dX6_worst_20 (by decide) rfl ?_
    refine g_istore_n 22 [(2, .int 1), (1, .int 0), (0, .ref (ad 0))] F dX6_worst_21 (lt_kn hn (by decide)) rfl rfl ?_
    exact G.lvs [2, 1, 0] rfl (L_22 fu (mS S 0 0) 0 1 hf)
  · refine g_iconst 15 (v := (-1)) F dX6_worst_14 (by decide) rfl ?_
    refine g_goto 19 F dX6_worst_15 rfl ?_
    refine g_istore_n 20 [(1, .int (-1)), (0, .ref (ad 0))] F dX6_worst_19 (lt_kn hn (by decide)) rfl rfl ?_
    refine g_iconst 21 (v := 1) F dX6_worst_20 (by decide) rfl ?_
    refine g_istore_n 22 [(2, .int 1), (1, .int (-1)), (0, .ref (ad 0))] F dX6_worst_21 (lt_kn hn (by decide)) rfl rfl ?_
    exact G.lvs [2, 1, 0] rfl (L_22 fu (mS S 0 0) (-1) 1 hf)
theorem c_X6_worst (l : Launch) (D : va_G) (cI cZ : ClassId) (ad : Nat → Nat) (A : Nat → Prop) (S : MS) (q : Int32 × MS) (hf : f_X6_worst S = some q) : Ci l yX6_worst cX6_worst 3 (some .int) 8 183 (mX D cI cZ A ad) (mKf D cI cZ) A S [.ref (ad 0)] q.1 q.2 := by
  refine met_i (by decide +kernel) (Nat.le_of_ble_eq_true rfl) (fun K hl hA hn F hR => ?_)
  subst hl; subst hA
  exact w_X6_worst D cI cZ ad K F hn S q hf hR
