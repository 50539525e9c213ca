set_option maxHeartbeats 4000000 in
set_option maxRecDepth 100000 in
theorem w_X6_readStatement (D : va_G) (cI cZ : ClassId) (ad : Nat → Nat) (K : Ctx) (F : Fx K cX6_readStatement RX6 (mKf D cI cZ) 6 141) (hn : kn K = 4) (S : MS) (q : Bool × MS) (hf : f_X6_readStatement S = some q) (hR : ∀ (pc : Nat) (lv : List (Nat × Value)), decode cX6_readStatement pc = .ok (.ireturn, 1) → G K (mX D cI cZ (kA K) ad) 0 0 pc q.2 lv [.int (bI q.1)]) : G K (mX D cI cZ (kA K) ad) 0 0 0 S [(0, .ref (ad 0))] [] := by
  have hok := mKf_ok D cI cZ (kA K)
  unfold f_X6_readStatement at hf
  refine g_aload_n 1 0 F dX6_readStatement_0 rfl rfl ?_
  obtain ⟨q1, e2, hf⟩ := op_bd hf
  refine g_cVi 4 (st := []) F hok (c_X6_here (kl K) D cI cZ ad (kA K) S q1 e2) wy_X6_here ml_X6_129 (m_recv F) ⟨Nat.le_of_ble_eq_true rfl, Nat.le_of_ble_eq_true rfl⟩ rfl rfl (Nat.le_of_ble_eq_true rfl) ⟨Nat.zero_le _, Nat.zero_le _⟩ dX6_readStatement_1 rfl ?_
  refine g_bipush 6 (v := 97) F dX6_readStatement_4 (by decide) rfl ?_
  refine g_bipush 8 (v := 122) F dX6_readStatement_6 (by decide) rfl ?_
  refine g_cSi 11 (st := []) F hok (c_X6_in (kl K) D cI cZ ad (kA K) q1.2 q1.1 97 122 _ rfl) ws_X6_in ml_X6_42 ⟨Nat.le_of_ble_eq_true rfl, Nat.le_of_ble_eq_true rfl⟩ rfl rfl (Nat.le_of_ble_eq_true rfl) ⟨Nat.zero_le _, Nat.zero_le _⟩ dX6_readStatement_8 rfl ?_
  refine g_ifne_b 24 14 F dX6_readStatement_11 rfl rfl hf (fun _ hf => ?_) (fun _ hf => ?_)
  · refine g_aload_n 25 0 F dX6_readStatement_24 rfl rfl ?_
    obtain ⟨q3, e4, hf⟩ := op_bd hf
    refine g_cVl 28 (st := []) F hok (c_X6_readWord (kl K) D cI cZ ad (kA K) q1.2 q3 e4) wy_X6_readWord ml_X6_145 (m_recv F) ⟨Nat.le_of_ble_eq_true rfl, Nat.le_of_ble_eq_true rfl⟩ rfl rfl (Nat.le_of_ble_eq_true rfl) ⟨Nat.zero_le _, Nat.zero_le _⟩ dX6_readStatement_25 rfl ?_
    refine g_lstore_n 29 [(1, .long q3.1), (0, .ref (ad 0))] F dX6_readStatement_28 (lt_kn hn (by decide)) rfl rfl ?_
    refine g_aload_n 30 1 F dX6_readStatement_29 rfl rfl ?_
    refine m_get_11 33 F fl_X6_120 dX6_readStatement_30 rfl ?_
    refine g_istore_n 34 [(3, .int (q3.2.1 11)), (1, .long q3.1), (0, .ref (ad 0))] F dX6_readStatement_33 (lt_kn hn (by decide)) rfl rfl ?_
    refine g_aload_n 35 2 F dX6_readStatement_34 rfl rfl ?_
    refine g_lload_n 36 1 F dX6_readStatement_35 rfl rfl ?_
    refine g_iload_n 37 0 F dX6_readStatement_36 rfl rfl ?_
    obtain ⟨q5, e6, hf⟩ := op_bd hf
    refine g_cVi 40 (st := []) F hok (c_X6_readRest (kl K) D cI cZ ad (kA K) q3.2 q3.1 (q3.2.1 11) q5 e6) wy_X6_readRest ml_X6_171 (m_recv F) ⟨Nat.le_of_ble_eq_true rfl, Nat.le_of_ble_eq_true rfl⟩ rfl rfl (Nat.le_of_ble_eq_true rfl) ⟨Nat.zero_le _, Nat.zero_le _⟩ dX6_readStatement_37 rfl ?_
    refine g_ifne_b 45 43 F dX6_readStatement_40 rfl rfl hf (fun _ hf => ?_) (fun _ hf => ?_)
    · refine g_aload_n 46 2 F dX6_readStatement_45 rfl rfl ?_
      obtain ⟨q7, e8, hf⟩ := op_bd hf
      refine g_cVi 49 (st := []) F hok (c_X6_here (kl K) D cI cZ ad (kA K) q5.2 q7 e8) wy_X6_here ml_X6_129 (m_recv F) ⟨Nat.le_of_ble_eq_true rfl, Nat.le_of_ble_eq_true rfl⟩ rfl rfl (Nat.le_of_ble_eq_true rfl) ⟨Nat.zero_le _, Nat.zero_le _⟩ dX6_readStatement_46 rfl ?_
      refine g_bipush 51 (v := 59) F dX6_readStatement_49 (by decide) rfl ?_
      refine g_icmp_eq 64 54 F dX6_readStatement_51 rfl rfl hf (fun _ hf => ?_) (fun _ hf => ?_)
      · refine g_aload_n 65 2 F dX6_readStatement_64 rfl rfl ?_
        refine g_dup 66 F dX6_readStatement_65 rfl rfl ?_
        refine m_get_8 69 F fl_X6_114 dX6_readStatement_66 rfl ?_
        refine g_iconst 70 (v := 1) F dX6_readStatement_69 (by decide) rfl ?_
        refine g_iadd 71 F dX6_readStatement_70 rfl ?_
        refine m_put_8 74 F fl_X6_114 dX6_readStatement_71 rfl ?_
        refine g_aload_n 75 2 F dX6_readStatement_74 rfl rfl ?_
        refine g_lload_n 76 1 F dX6_readStatement_75 rfl rfl ?_
        obtain ⟨q9, e10, hf⟩ := op_bd hf
        refine g_cVi 79 (st := []) F hok (c_X6_does (kl K) D cI cZ ad (kA K) (mS q7.2 8 ((q7.2.1 8) + 1)) q3.1 q9 e10) wy_X6_does ml_X6_175 (m_recv F) ⟨Nat.le_of_ble_eq_true rfl, Nat.le_of_ble_eq_true rfl⟩ rfl rfl (Nat.le_of_ble_eq_true rfl) ⟨Nat.zero_le _, Nat.zero_le _⟩ dX6_readStatement_76 rfl ?_
        refine g_ifne_b 91 82 F dX6_readStatement_79 rfl rfl hf (fun _ hf => ?_) (fun _ hf => ?_)
        · refine g_iconst 92 (v := 1) F dX6_readStatement_91 (by decide) rfl ?_
          refine g_goto 96 F dX6_readStatement_92 rfl ?_
          obtain rfl := Option.some.inj hf
          exact hR _ _ dX6_readStatement_96
        · refine g_aload_n 83 2 F dX6_readStatement_82 rfl rfl ?_
          refine g_iconst 84 (v := 3) F dX6_readStatement_83 (by decide) rfl ?_
          refine g_iload_n 85 0 F dX6_readStatement_84 rfl rfl ?_
          refine g_cVi 88 (st := []) F hok (c_X6_wrong (kl K) D cI cZ ad (kA K) q9.2 3 (q3.2.1 11) _ rfl) wy_X6_wrong ml_X6_133 (m_recv F) ⟨Nat.le_of_ble_eq_true rfl, Nat.le_of_ble_eq_true rfl⟩ rfl rfl (Nat.le_of_ble_eq_true rfl) ⟨Nat.zero_le _, Nat.zero_le _⟩ dX6_readStatement_85 rfl ?_
          refine g_ifeq_b 95 91 F dX6_readStatement_88 rfl rfl hf (fun _ hf => ?_) (fun _ hf => ?_)
          · refine g_iconst 96 (v := 0) F dX6_readStatement_95 (by decide) rfl ?_
            obtain rfl := Option.some.inj hf
            exact hR _ _ dX6_readStatement_96
          · refine g_iconst 92 (v := 1) F dX6_readStatement_91 (by decide) rfl ?_
            refine g_goto 96 F dX6_readStatement_92 rfl ?_
            obtain rfl := Option.some.inj hf
            exact hR _ _ dX6_readStatement_96
      · refine g_aload_n 55 2 F dX6_readStatement_54 rfl rfl ?_
        refine g_iconst 56 (v := 1) F dX6_readStatement_55 (by decide) rfl ?_
        refine g_aload_n 57 2 F dX6_readStatement_56 rfl rfl ?_
        refine m_get_8 60 F fl_X6_114 dX6_readStatement_57 rfl ?_
        refine g_cVi 63 (st := []) F hok (c_X6_wrong (kl K) D cI cZ ad (kA K) q7.2 1 (q7.2.1 8) _ rfl) wy_X6_wrong ml_X6_133 (m_recv F) ⟨Nat.le_of_ble_eq_true rfl, Nat.le_of_ble_eq_true rfl⟩ rfl rfl (Nat.le_of_ble_eq_true rfl) ⟨Nat.zero_le _, Nat.zero_le _⟩ dX6_readStatement_60 rfl ?_
        obtain rfl := Option.some.inj hf
        exact hR _ _ dX6_readStatement_63
    · refine g_iconst 44 (v := 0) F dX6_readStatement_43 (by decide) rfl ?_
      obtain rfl := Option.some.inj hf
      exact hR _ _ dX6_readStatement_44
  · refine g_aload_n 15 0 F dX6_readStatement_14 rfl rfl ?_
    refine g_iconst 16 (v := 1) F dX6_readStatement_15 (by decide) rfl ?_
    refine g_aload_n 17 0 F dX6_readStatement_16 rfl rfl ?_
    refine m_get_8 20 F fl_X6_114 dX6_readStatement_17 rfl ?_
    refine g_cVi 23 (st := []) F hok (c_X6_wrong (kl K) D cI cZ ad (kA K) q1.2 1 (q1.2.1 8) _ rfl) wy_X6_wrong ml_X6_133 (m_recv F) ⟨Nat.le_of_ble_eq_true rfl, Nat.le_of_ble_eq_true rfl⟩ rfl rfl (Nat.le_of_ble_eq_true rfl) ⟨Nat.zero_le _, Nat.zero_le _⟩ dX6_readStatement_20 rfl ?_
    obtain rfl := Option.some.inj hf
    exact hR _ _ dX6_readStatement_23
theorem c_X6_readStatement (l : Launch) (D : va_G) (cI cZ : ClassId) (ad : Nat → Nat) (A : Nat → Prop) (S : MS) (q : Bool × MS) (hf : f_X6_readStatement S = some q) : Ci l yX6_readStatement cX6_readStatement 4 (some .boolean) 6 141 (mX D cI cZ A ad) (mKf D cI cZ) A S [.ref (ad 0)] (bI q.1) q.2 := by
  refine met_z (by decide +kernel) (Nat.le_of_ble_eq_true rfl) (fun K hl hA hn F hR => ?_)
  subst hl; subst hA
  exact w_X6_readStatement D cI cZ ad K F hn S q hf hR
set_option maxHeartbeats 4000000 in
set_option maxRecDepth 100000 in
theorem w_X6_readText (D : va_G) (cI cZ : ClassId) (ad : Nat → Nat) (K : Ctx) (F : Fx K cX6_readText RX6 (mKf D cI cZ) 7 164) (hn : kn K = 1) (S : MS) (q : Bool × MS) (hf : f_X6_readText S = some q) (hR : ∀ (pc : Nat) (lv : List (Nat × Value)), decode cX6_readText pc = .ok (.ireturn, 1) → G K (mX D cI cZ (kA K) ad) 0 0 pc q.2 lv [.int (bI q.1)]) : G K (mX D cI cZ (kA K) ad) 0 0 0 S [(0, .ref (ad 0))] [] := by
  have hok := mKf_ok D cI cZ (kA K)
  have L_15 : ∀ (n : Nat) (S : MS), l_X6_readText_15 n S = some q → G K (mX D cI cZ (kA K) ad) 0 0 15 S [(0, .ref (ad 0))] [] := by
    intro n
    induction n with
    | zero =>
      intro S hf
      rw [l_X6_readText_15] at hf
      cases hf
    | succ n ih =>
      intro S hf
      rw [l_X6_readText_15] at hf
      refine g_aload_n 16 0 F dX6_readText_15 rfl rfl ?_
      obtain ⟨q1, e2, hf⟩ := op_bd hf
      refine g_cVi 19 (st := []) F hok (c_X6_here (kl K) D cI cZ ad (kA K) S q1 e2) wy_X6_here ml_X6_129 (m_recv F) ⟨Nat.le_of_ble_eq_true rfl, Nat.le_of_ble_eq_true rfl⟩ rfl rfl (Nat.le_of_ble_eq_true rfl) ⟨Nat.zero_le _, Nat.zero_le _⟩ dX6_readText_16 rfl ?_
      refine g_iconst 20 (v := (-1)) F dX6_readText_19 (by decide) rfl ?_
      refine g_icmp_eq 45 23 F dX6_readText_20 rfl rfl hf (fun _ hf => ?_) (fun _ hf => ?_)
      · refine g_iconst 46 (v := 1) F dX6_readText_45 (by decide) rfl ?_
        obtain rfl := Option.some.inj hf
        exact hR _ _ dX6_readText_46
      · refine g_aload_n 24 0 F dX6_readText_23 rfl rfl ?_
        obtain ⟨q3, e4, hf⟩ := op_bd hf
        refine g_cVi 27 (st := []) F hok (c_X6_readStatement (kl K) D cI cZ ad (kA K) q1.2 q3 e4) wy_X6_readStatement ml_X6_182 (m_recv F) ⟨Nat.le_of_ble_eq_true rfl, Nat.le_of_ble_eq_true rfl⟩ rfl rfl (Nat.le_of_ble_eq_true rfl) ⟨Nat.zero_le _, Nat.zero_le _⟩ dX6_readText_24 rfl ?_
        refine g_ifne_b 32 30 F dX6_readText_27 rfl rfl hf (fun _ hf => ?_) (fun _ hf => ?_)
        · refine g_aload_n 33 0 F dX6_readText_32 rfl rfl ?_
          refine g_dup 34 F dX6_readText_33 rfl rfl ?_
          refine m_get_12 37 F fl_X6_179 dX6_readText_34 rfl ?_
          refine g_iconst 38 (v := 1) F dX6_readText_37 (by decide) rfl ?_
          refine g_iadd 39 F dX6_readText_38 rfl ?_
          refine m_put_12 42 F fl_X6_179 dX6_readText_39 rfl ?_
          refine g_goto 15 F dX6_readText_42 rfl ?_
          exact G.lvs [0] rfl (ih (mS q3.2 12 ((q3.2.1 12) + 1)) hf)
        · refine g_iconst 31 (v := 0) F dX6_readText_30 (by decide) rfl ?_
          obtain rfl := Option.some.inj hf
          exact hR _ _ dX6_readText_31
  unfold f_X6_readText at hf
  refine g_aload_n 1 0 F dX6_readText_0 rfl rfl ?_
  refine g_iconst 2 (v := 0) F dX6_readText_1 (by decide) rfl ?_
  refine m_put_12 5 F fl_X6_179 dX6_readText_2 rfl ?_
  refine g_aload_n 6 0 F dX6_readText_5 rfl rfl ?_
  refine g_iconst 7 (v := 0) F dX6_readText_6 (by decide) rfl ?_
  refine m_put_8 10 F fl_X6_114 dX6_readText_7 rfl ?_
  refine g_aload_n 11 0 F dX6_readText_10 rfl rfl ?_
  refine g_iconst 12 (v := 0) F dX6_readText_11 (by decide) rfl ?_
  refine m_put_9 15 F fl_X6_117 dX6_readText_12 rfl ?_
  exact G.lvs [0] rfl (L_15 fu (mS (mS (mS S 12 0) 8 0) 9 0) hf)
theorem c_X6_readText (l : Launch) (D : va_G) (cI cZ : ClassId) (ad : Nat → Nat) (A : Nat → Prop) (S : MS) (q : Bool × MS) (hf : f_X6_readText S = some q) : Ci l yX6_readText cX6_readText 1 (some .boolean) 7 164 (mX D cI cZ A ad) (mKf D cI cZ) A S [.ref (ad 0)] (bI q.1) q.2 := by
  refine met_z (by decide +kernel) (Nat.le_of_ble_eq_true rfl) (fun K hl hA hn F hR => ?_)
  subst hl; subst hA
  exact w_X6_readText D cI cZ ad K F hn S q hf hR
set_option maxHeartbeats 4000000 in
set_option maxRecDepth 100000 in
theorem w_X6_tell (D : va_G) (cI cZ : ClassId) (ad : Nat → Nat) (K : Ctx) (F : Fx K cX6_tell RX6 (mKf D cI cZ) 8 184) (hn : kn K = 3) (S : MS) (q : Int32 × MS) (hf : f_X6_tell S = some q) (hR : ∀ (pc : Nat) (lv : List (Nat × Value)), decode cX6_tell pc = .ok (.ireturn, 1) → G K (mX D cI cZ (kA K) ad) 0 0 pc q.2 lv [.int q.1]) : G K (mX D cI cZ (kA K) ad) 0 0 0 S [(0, .ref (ad 0))] [] := by
  have hok := mKf_ok D cI cZ (kA K)
  have L_61 : ∀ (n : Nat) (S : MS) (x2 : Int32), l_X6_tell_61 n S x2 = some q → G K (mX D cI cZ (kA K) ad) 0 0 61 S [(0, .ref (ad 0)), (2, .int x2)] [] := by
    intro n
    induction n with
    | zero =>
      intro S x2 hf
      rw [l_X6_tell_61] at hf
      cases hf
    | succ n ih =>
      intro S x2 hf
      rw [l_X6_tell_61] at hf
      refine g_iload_n 62 1 F dX6_tell_61 rfl rfl ?_
      refine g_sipush 65 (v := 7737) F dX6_tell_62 (by decide) rfl ?_
      refine g_icmp_ge 86 68 F dX6_tell_65 rfl rfl hf (fun _ hf => ?_) (fun _ hf => ?_)
      · refine g_iconst 87 (v := (-1)) F dX6_tell_86 (by decide) rfl ?_
        obtain rfl := Option.some.inj hf
        exact hR _ _ dX6_tell_87
      · refine g_aload_n 69 0 F dX6_tell_68 rfl rfl ?_
        refine m_get_1 72 F fl_X6_7 dX6_tell_69 rfl ?_
        refine g_iload_n 73 1 F dX6_tell_72 rfl rfl ?_
        refine g_aload_n 74 0 F dX6_tell_73 rfl rfl ?_
        refine m_get_2 77 F fl_X6_13 dX6_tell_74 rfl ?_
        refine g_iload_n 78 1 F dX6_tell_77 rfl rfl ?_
        obtain ⟨h3, hf⟩ := op_ok hf
        refine m_ld_2 79 F h3 dX6_tell_78 rfl ?_
        obtain ⟨h4, hf⟩ := op_ok hf
        refine m_st_1 80 F h4 dX6_tell_79 rfl ?_
        refine g_iinc 83 1 (x2 + 1) [(2, .int (x2 + 1)), (0, .ref (ad 0))] F dX6_tell_80 rfl rfl (lt_kn hn (by decide)) rfl rfl ?_
        refine g_goto 61 F dX6_tell_83 rfl ?_
        exact G.lvs [1, 0] rfl (ih (mA S 1 x2.toNatClampNeg (S.2 2 x2.toNatClampNeg)) (x2 + 1) hf)
  have L_7 : ∀ (n : Nat) (S : MS) (x1 : Int32), l_X6_tell_7 n S x1 = some q → G K (mX D cI cZ (kA K) ad) 0 0 7 S [(0, .ref (ad 0)), (1, .int x1)] [] := by
    intro n
    induction n with
    | zero =>
      intro S x1 hf
      rw [l_X6_tell_7] at hf
      cases hf
    | succ n ih =>
      intro S x1 hf
      rw [l_X6_tell_7] at hf
      refine g_iload_n 8 1 F dX6_tell_7 rfl rfl ?_
      refine g_sipush 11 (v := 7737) F dX6_tell_8 (by decide) rfl ?_
      refine g_icmp_ge 32 14 F dX6_tell_11 rfl rfl hf (fun _ hf => ?_) (fun _ hf => ?_)
      · refine g_aload_n 33 0 F dX6_tell_32 rfl rfl ?_
        obtain ⟨q1, e2, hf⟩ := op_bd hf
        refine g_cVi 36 (st := []) F hok (c_X6_readText (kl K) D cI cZ ad (kA K) S q1 e2) wy_X6_readText ml_X6_185 (m_recv F) ⟨Nat.le_of_ble_eq_true rfl, Nat.le_of_ble_eq_true rfl⟩ rfl rfl (Nat.le_of_ble_eq_true rfl) ⟨Nat.zero_le _, Nat.zero_le _⟩ dX6_tell_33 rfl ?_
        refine g_istore_n 37 [(1, .int (bI q1.1)), (0, .ref (ad 0))] F dX6_tell_36 (lt_kn hn (by decide)) rfl rfl ?_
        refine g_aload_n 38 1 F dX6_tell_37 rfl rfl ?_
        refine g_iconst 39 (v := 0) F dX6_tell_38 (by decide) rfl ?_
        refine m_put_6 42 F fl_X6_108 dX6_tell_39 rfl ?_
        refine g_aload_n 43 1 F dX6_tell_42 rfl rfl ?_
        refine g_aload_n 44 1 F dX6_tell_43 rfl rfl ?_
        refine m_get_9 47 F fl_X6_117 dX6_tell_44 rfl ?_
        refine m_put_7 50 F fl_X6_188 dX6_tell_47 rfl ?_
        refine g_iload_n 51 0 F dX6_tell_50 rfl rfl ?_
        refine g_ifeq_b 59 54 F dX6_tell_51 rfl rfl hf (fun _ hf => ?_) (fun _ hf => ?_)
        · refine g_iconst 60 (v := 0) F dX6_tell_59 (by decide) rfl ?_
          refine g_istore_n 61 [(2, .int 0), (1, .int (bI q1.1)), (0, .ref (ad 0))] F dX6_tell_60 (lt_kn hn (by decide)) rfl rfl ?_
          exact G.lvs [2, 0] rfl (L_61 fu (mS (mS q1.2 6 0) 7 ((mS q1.2 6 0).1 9)) 0 hf)
        · refine g_aload_n 55 1 F dX6_tell_54 rfl rfl ?_
          refine m_get_12 58 F fl_X6_179 dX6_tell_55 rfl ?_
          obtain rfl := Option.some.inj hf
          exact hR _ _ dX6_tell_58
      · refine g_aload_n 15 0 F dX6_tell_14 rfl rfl ?_
        refine m_get_2 18 F fl_X6_13 dX6_tell_15 rfl ?_
        refine g_iload_n 19 1 F dX6_tell_18 rfl rfl ?_
        refine g_aload_n 20 0 F dX6_tell_19 rfl rfl ?_
        refine m_get_1 23 F fl_X6_7 dX6_tell_20 rfl ?_
        refine g_iload_n 24 1 F dX6_tell_23 rfl rfl ?_
        obtain ⟨h5, hf⟩ := op_ok hf
        refine m_ld_1 25 F h5 dX6_tell_24 rfl ?_
        obtain ⟨h6, hf⟩ := op_ok hf
        refine m_st_2 26 F h6 dX6_tell_25 rfl ?_
        refine g_iinc 29 1 (x1 + 1) [(1, .int (x1 + 1)), (0, .ref (ad 0))] F dX6_tell_26 rfl rfl (lt_kn hn (by decide)) rfl rfl ?_
        refine g_goto 7 F dX6_tell_29 rfl ?_
        exact G.lvs [1, 0] rfl (ih (mA S 2 x1.toNatClampNeg (S.2 1 x1.toNatClampNeg)) (x1 + 1) hf)
  unfold f_X6_tell at hf
  refine g_aload_n 1 0 F dX6_tell_0 rfl rfl ?_
  refine g_iconst 2 (v := 0) F dX6_tell_1 (by decide) rfl ?_
  refine m_put_0 5 F fl_X6_38 dX6_tell_2 rfl ?_
  refine g_iconst 6 (v := 0) F dX6_tell_5 (by decide) rfl ?_
  refine g_istore_n 7 [(1, .int 0), (0, .ref (ad 0))] F dX6_tell_6 (lt_kn hn (by decide)) rfl rfl ?_
  exact G.lvs [1, 0] rfl (L_7 fu (mS S 0 0) 0 hf)
theorem c_X6_tell (l : Launch) (D : va_G) (cI cZ : ClassId) (ad : Nat → Nat) (A : Nat → Prop) (S : MS) (q : Int32 × MS) (hf : f_X6_tell S = some q) : Ci l yX6_tell cX6_tell 3 (some .int) 8 184 (mX D cI cZ A ad) (mKf D cI cZ) A S [.ref (ad 0)] q.1 q.2 := by
  refine met_i (by decide +kernel) (Nat.le_of_ble_eq_true rfl) (fun K hl hA hn F hR => ?_)
  subst hl; subst hA
  exact w_X6_tell D cI cZ ad K F hn S q hf hR
set_option maxHeartbeats 4000000 in
set_option maxRecDepth 100000 in
theorem w_X6_fault (D : va_G) (cI cZ : ClassId) (ad : Nat → Nat) (K : Ctx) (F : Fx K cX6_fault RX6 (mKf D cI cZ) 0 0) (hn : kn K = 1) (S : MS) (q : Int32 × MS) (hf : f_X6_fault S = q) (hR : ∀ (pc : Nat) (lv : List (Nat × Value)), decode cX6_fault pc = .ok (.ireturn, 1) → G K (mX D cI cZ (kA K) ad) 0 0 pc q.2 lv [.int q.1]) : G K (mX D cI cZ (kA K) ad) 0 0 0 S [(0, .ref (ad 0))] [] := by
  have hok := mKf_ok D cI cZ (kA K)
  unfold f_X6_fault at hf
  refine g_aload_n 1 0 F dX6_fault_0 rfl rfl ?_
  refine g_iconst 2 (v := 0) F dX6_fault_1 (by decide) rfl ?_
  refine m_put_0 5 F fl_X6_38 dX6_fault_2 rfl ?_
  refine g_aload_n 6 0 F dX6_fault_5 rfl rfl ?_
  refine m_get_7 9 F fl_X6_188 dX6_fault_6 rfl ?_
  subst hf
  exact hR _ _ dX6_fault_9
theorem c_X6_fault (l : Launch) (D : va_G) (cI cZ : ClassId) (ad : Nat → Nat) (A : Nat → Prop) (S : MS) (q : Int32 × MS) (hf : f_X6_fault S = q) : Ci l yX6_fault cX6_fault 1 (some .int) 0 0 (mX D cI cZ A ad) (mKf D cI cZ) A S [.ref (ad 0)] q.1 q.2 := by
  refine met_i (by decide +kernel) (Nat.le_of_ble_eq_true rfl) (fun K hl hA hn F hR => ?_)
  subst hl; subst hA
  exact w_X6_fault D cI cZ ad K F hn S q hf hR
set_option maxHeartbeats 4000000 in
set_option maxRecDepth 100000 in
theorem w_X6_dayOf (D : va_G) (cI cZ : ClassId) (ad : Nat → Nat) (K : Ctx) (F : Fx K cX6_dayOf RX6 (mKf D cI cZ) 2 43) (hn : kn K = 3) (S : MS) (a1 : Int32) (a2 : Int32) (q : Int32) (hf : f_X6_dayOf S a1 a2 = some q) (hR : ∀ (pc : Nat) (lv : List (Nat × Value)), decode cX6_dayOf pc = .ok (.ireturn, 1) → G K (mX D cI cZ (kA K) ad) 0 0 pc S lv [.int q]) : G K (mX D cI cZ (kA K) ad) 0 0 0 S [(0, .ref (ad 0)), (1, .int a1), (2, .int a2)] [] := by
  have hok := mKf_ok D cI cZ (kA K)
  unfold f_X6_dayOf at hf
  refine g_iload_n 1 2 F dX6_dayOf_0 rfl rfl ?_
  refine g_aload_n 2 0 F dX6_dayOf_1 rfl rfl ?_
  refine g_iload_n 3 1 F dX6_dayOf_2 rfl rfl ?_
  refine g_bipush 5 (v := 7) F dX6_dayOf_3 (by decide) rfl ?_
  obtain ⟨q1, e2, hf⟩ := op_bd hf
  refine g_cVi 8 (st := [.int a2]) F hok (c_X6_its (kl K) D cI cZ ad (kA K) S a1 7 q1 e2) wy_X6_its ml_X6_50 (m_recv F) ⟨Nat.le_of_ble_eq_true rfl, Nat.le_of_ble_eq_true rfl⟩ rfl rfl (Nat.le_of_ble_eq_true rfl) ⟨Nat.zero_le _, Nat.zero_le _⟩ dX6_dayOf_5 rfl ?_
  refine g_icmp_ne 20 11 F dX6_dayOf_8 rfl rfl hf (fun _ hf => ?_) (fun _ hf => ?_)
  · refine g_aload_n 21 0 F dX6_dayOf_20 rfl rfl ?_
    refine m_get_1 24 F fl_X6_7 dX6_dayOf_21 rfl ?_
    refine g_iload_n 25 1 F dX6_dayOf_24 rfl rfl ?_
    refine g_bipush 27 (v := 8) F dX6_dayOf_25 (by decide) rfl ?_
    refine g_iconst 28 (v := 3) F dX6_dayOf_27 (by decide) rfl ?_
    refine g_iload_n 29 2 F dX6_dayOf_28 rfl rfl ?_
    refine g_imul 30 F dX6_dayOf_29 rfl ?_
    refine g_iadd 31 F dX6_dayOf_30 rfl ?_
    refine g_cSi 34 (st := [.ref (ad 1)]) F hok (c_X6_cell (kl K) D cI cZ ad (kA K) S a1 (8 + (3 * a2)) _ rfl) ws_X6_cell ml_X6_46 ⟨Nat.le_of_ble_eq_true rfl, Nat.le_of_ble_eq_true rfl⟩ rfl rfl (Nat.le_of_ble_eq_true rfl) ⟨Nat.zero_le _, Nat.zero_le _⟩ dX6_dayOf_31 rfl ?_
    obtain ⟨h3, hf⟩ := op_ok hf
    refine m_ld_1 35 F h3 dX6_dayOf_34 rfl ?_
    obtain rfl := Option.some.inj hf
    exact hR _ _ dX6_dayOf_35
  · refine g_aload_n 12 0 F dX6_dayOf_11 rfl rfl ?_
    refine m_get_1 15 F fl_X6_7 dX6_dayOf_12 rfl ?_
    refine g_iconst 16 (v := 0) F dX6_dayOf_15 (by decide) rfl ?_
    refine m_ldK_1 17 0 F (by decide) (by decide) dX6_dayOf_16 rfl ?_
    refine g_goto 35 F dX6_dayOf_17 rfl ?_
    obtain rfl := Option.some.inj hf
    exact hR _ _ dX6_dayOf_35
theorem c_X6_dayOf (l : Launch) (D : va_G) (cI cZ : ClassId) (ad : Nat → Nat) (A : Nat → Prop) (S : MS) (a1 : Int32) (a2 : Int32) (q : Int32) (hf : f_X6_dayOf S a1 a2 = some q) : Ci l yX6_dayOf cX6_dayOf 3 (some .int) 2 43 (mX D cI cZ A ad) (mKf D cI cZ) A S [.ref (ad 0), .int a1, .int a2] q S := by
  refine met_i (by decide +kernel) (Nat.le_of_ble_eq_true rfl) (fun K hl hA hn F hR => ?_)
  subst hl; subst hA
  exact w_X6_dayOf D cI cZ ad K F hn S a1 a2 q hf hR
set_option maxHeartbeats 4000000 in
set_option maxRecDepth 100000 in
theorem w_X6_openBehind (D : va_G) (cI cZ : ClassId) (ad : Nat → Nat) (K : Ctx) (F : Fx K cX6_openBehind RX6 (mKf D cI cZ) 3 65) (hn : kn K = 6) (S : MS) (a1 : Int32) (a2 : Int32) (a3 : Int32) (q : Int32) (hf : f_X6_openBehind S a1 a2 a3 = some q) (hR : ∀ (pc : Nat) (lv : List (Nat × Value)), decode cX6_openBehind pc = .ok (.ireturn, 1) → G K (mX D cI cZ (kA K) ad) 0 0 pc S lv [.int q]) : G K (mX D cI cZ (kA K) ad) 0 0 0 S [(0, .ref (ad 0)), (1, .int a1), (2, .int a2), (3, .int a3)] [] := by
  have hok := mKf_ok D cI cZ (kA K)
  have L_6 : ∀ (n : Nat) (x1 : Int32) (x2 : Int32) (x3 : Int32) (x4 : Int32) (x5 : Int32), l_X6_openBehind_6 S n x1 x2 x3 x4 x5 = some q → G K (mX D cI cZ (kA K) ad) 0 0 6 S [(0, .ref (ad 0)), (1, .int x1), (2, .int x2), (3, .int x3), (4, .int x4), (5, .int x5)] [] := by
    intro n
    induction n with
    | zero =>
      intro x1 x2 x3 x4 x5 hf
      rw [l_X6_openBehind_6] at hf
      cases hf
    | succ n ih =>
      intro x1 x2 x3 x4 x5 hf
      rw [l_X6_openBehind_6] at hf
      refine g_iload 8 5 F dX6_openBehind_6 rfl rfl ?_
      refine g_iload_n 9 2 F dX6_openBehind_8 rfl rfl ?_
      refine g_icmp_ge 49 12 F dX6_openBehind_9 rfl rfl hf (fun _ hf => ?_) (fun _ hf => ?_)
      · refine g_iload 51 4 F dX6_openBehind_49 rfl rfl ?_
        obtain rfl := Option.some.inj hf
        exact hR _ _ dX6_openBehind_51
      · refine g_iload 14 4 F dX6_openBehind_12 rfl rfl ?_
        refine g_aload_n 15 0 F dX6_openBehind_14 rfl rfl ?_
        refine m_get_15 18 F fl_X6_32 dX6_openBehind_15 rfl ?_
        refine g_iload 20 5 F dX6_openBehind_18 rfl rfl ?_
        obtain ⟨h1, hf⟩ := op_ok hf
        refine m_ld_15 21 F h1 dX6_openBehind_20 rfl ?_
        refine g_if_eq 39 24 F dX6_openBehind_21 rfl rfl hf (fun _ hf => ?_) (fun _ hf => ?_)
        · refine g_iconst 40 (v := 0) F dX6_openBehind_39 (by decide) rfl ?_
          refine g_iadd 41 F dX6_openBehind_40 rfl ?_
          refine g_istore 43 [(4, .int (x4 + 0)), (0, .ref (ad 0)), (1, .int x1), (2, .int x2), (3, .int x3), (5, .int x5)] F dX6_openBehind_41 (lt_kn hn (by decide)) rfl rfl ?_
          refine g_iinc 46 5 (x5 + 1) [(5, .int (x5 + 1)), (4, .int (x4 + 0)), (0, .ref (ad 0)), (1, .int x1), (2, .int x2), (3, .int x3)] F dX6_openBehind_43 rfl rfl (lt_kn hn (by decide)) rfl rfl ?_
          refine g_goto 6 F dX6_openBehind_46 rfl ?_
          exact G.lvs [2, 3, 4, 5, 1, 0] rfl (ih x1 x2 x3 (x4 + 0) (x5 + 1) hf)
        · refine g_aload_n 25 0 F dX6_openBehind_24 rfl rfl ?_
          refine g_iload_n 26 1 F dX6_openBehind_25 rfl rfl ?_
          refine g_iload 28 5 F dX6_openBehind_26 rfl rfl ?_
          obtain ⟨q2, e3, hf⟩ := op_bd hf
          refine g_cVi 31 (st := [.int x4]) F hok (c_X6_dayOf (kl K) D cI cZ ad (kA K) S x1 x5 q2 e3) wy_X6_dayOf ml_X6_191 (m_recv F) ⟨Nat.le_of_ble_eq_true rfl, Nat.le_of_ble_eq_true rfl⟩ rfl rfl (Nat.le_of_ble_eq_true rfl) ⟨Nat.zero_le _, Nat.zero_le _⟩ dX6_openBehind_28 rfl ?_
          refine g_iload_n 32 3 F dX6_openBehind_31 rfl rfl ?_
          refine g_icmp_le 39 35 F dX6_openBehind_32 rfl rfl hf (fun _ hf => ?_) (fun _ hf => ?_)
          · refine g_iconst 40 (v := 0) F dX6_openBehind_39 (by decide) rfl ?_
            refine g_iadd 41 F dX6_openBehind_40 rfl ?_
            refine g_istore 43 [(4, .int (x4 + 0)), (0, .ref (ad 0)), (1, .int x1), (2, .int x2), (3, .int x3), (5, .int x5)] F dX6_openBehind_41 (lt_kn hn (by decide)) rfl rfl ?_
            refine g_iinc 46 5 (x5 + 1) [(5, .int (x5 + 1)), (4, .int (x4 + 0)), (0, .ref (ad 0)), (1, .int x1), (2, .int x2), (3, .int x3)] F dX6_openBehind_43 rfl rfl (lt_kn hn (by decide)) rfl rfl ?_
            refine g_goto 6 F dX6_openBehind_46 rfl ?_
            exact G.lvs [2, 3, 4, 5, 1, 0] rfl (ih x1 x2 x3 (x4 + 0) (x5 + 1) hf)
          · refine g_iconst 36 (v := 1) F dX6_openBehind_35 (by decide) rfl ?_
            refine g_goto 40 F dX6_openBehind_36 rfl ?_
            refine g_iadd 41 F dX6_openBehind_40 rfl ?_
            refine g_istore 43 [(4, .int (x4 + 1)), (0, .ref (ad 0)), (1, .int x1), (2, .int x2), (3, .int x3), (5, .int x5)] F dX6_openBehind_41 (lt_kn hn (by decide)) rfl rfl ?_
            refine g_iinc 46 5 (x5 + 1) [(5, .int (x5 + 1)), (4, .int (x4 + 1)), (0, .ref (ad 0)), (1, .int x1), (2, .int x2), (3, .int x3)] F dX6_openBehind_43 rfl rfl (lt_kn hn (by decide)) rfl rfl ?_
            refine g_goto 6 F dX6_openBehind_46 rfl ?_
            exact G.lvs [2, 3, 4, 5, 1, 0] rfl (ih x1 x2 x3 (x4 + 1) (x5 + 1) hf)
  unfold f_X6_openBehind at hf
  refine g_iconst 1 (v := 0) F dX6_openBehind_0 (by decide) rfl ?_
  refine g_istore 3 [(4, .int 0), (0, .ref (ad 0)), (1, .int a1), (2, .int a2), (3, .int a3)] F dX6_openBehind_1 (lt_kn hn (by decide)) rfl rfl ?_
  refine g_iconst 4 (v := 0) F dX6_openBehind_3 (by decide) rfl ?_
  refine g_istore 6 [(5, .int 0), (4, .int 0), (0, .ref (ad 0)), (1, .int a1), (2, .int a2), (3, .int a3)] F dX6_openBehind_4 (lt_kn hn (by decide)) rfl rfl ?_
  exact G.lvs [2, 3, 4, 5, 1, 0] rfl (L_6 fu a1 a2 a3 0 0 hf)
theorem c_X6_openBehind (l : Launch) (D : va_G) (cI cZ : ClassId) (ad : Nat → Nat) (A : Nat → Prop) (S : MS) (a1 : Int32) (a2 : Int32) (a3 : Int32) (q : Int32) (hf : f_X6_openBehind S a1 a2 a3 = some q) : Ci l yX6_openBehind cX6_openBehind 6 (some .int) 3 65 (mX D cI cZ A ad) (mKf D cI cZ) A S [.ref (ad 0), .int a1, .int a2, .int a3] q S := by
  refine met_i (by decide +kernel) (Nat.le_of_ble_eq_true rfl) (fun K hl hA hn F hR => ?_)
  subst hl; subst hA
  exact w_X6_openBehind D cI cZ ad K F hn S a1 a2 a3 q hf hR
set_option maxHeartbeats 4000000 in
set_option maxRecDepth 100000 in
theorem w_X6_walksBy (D : va_G) (cI cZ : ClassId) (ad : Nat → Nat) (K : Ctx) (F : Fx K cX6_walksBy RX6 (mKf D cI cZ) 4 90) (hn : kn K = 9) (S : MS) (a1 : Int32) (a2 : Int32) (a3 : Int32) (q : MS) (hf : f_X6_walksBy S a1 a2 a3 = some q) (hR : ∀ (pc : Nat) (lv : List (Nat × Value)), decode cX6_walksBy pc = .ok (.return_, 1) → G K (mX D cI cZ (kA K) ad) 0 0 pc q lv []) : G K (mX D cI cZ (kA K) ad) 0 0 0 S [(0, .ref (ad 0)), (1, .int a1), (2, .int a2), (3, .int a3)] [] := by
  have hok := mKf_ok D cI cZ (kA K)
  have L_195 : ∀ (r11 : MS → Int32 → Int32 → Int32 → Int32 → Int32 → Option (MS)) (h11 : ∀ (S : MS) (x1 : Int32) (x2 : Int32) (x3 : Int32) (x4 : Int32) (x5 : Int32), r11 S x1 x2 x3 x4 x5 = some q → G K (mX D cI cZ (kA K) ad) 0 0 11 S [(0, .ref (ad 0)), (1, .int x1), (2, .int x2), (3, .int x3), (4, .int x4), (5, .int x5)] []) (n : Nat) (S : MS) (x1 : Int32) (x2 : Int32) (x3 : Int32) (x4 : Int32) (x5 : Int32) (x8 : Int32), l_X6_walksBy_195 r11 n S x1 x2 x3 x4 x5 x8 = some q → G K (mX D cI cZ (kA K) ad) 0 0 195 S [(0, .ref (ad 0)), (1, .int x1), (2, .int x2), (3, .int x3), (4, .int x4), (5, .int x5), (8, .int x8)] [] := by
    intro r11 h11 n
    induction n with
    | zero =>
      intro S x1 x2 x3 x4 x5 x8 hf
      rw [l_X6_walksBy_195] at hf
      cases hf
    | succ n ih =>
      intro S x1 x2 x3 x4 x5 x8 hf
      rw [l_X6_walksBy_195] at hf
      refine g_iload 197 6 F dX6_walksBy_195 rfl rfl ?_
      refine g_iload 199 5 F dX6_walksBy_197 rfl rfl ?_
      refine g_icmp_gt 216 202 F dX6_walksBy_199 rfl rfl hf (fun _ hf => ?_) (fun _ hf => ?_)
      · refine g_iinc 219 5 (x5 + 1) [(5, .int (x5 + 1)), (0, .ref (ad 0)), (1, .int x1), (2, .int x2), (3, .int x3), (4, .int x4), (8, .int x8)] F dX6_walksBy_216 rfl rfl (lt_kn hn (by decide)) rfl rfl ?_
        refine g_goto 11 F dX6_walksBy_219 rfl ?_
        exact G.lvs [1, 2, 3, 4, 5, 0] rfl (h11 S x1 x2 x3 x4 (x5 + 1) hf)
      · refine g_aload_n 203 0 F dX6_walksBy_202 rfl rfl ?_
        refine m_get_15 206 F fl_X6_32 dX6_walksBy_203 rfl ?_
        refine g_iload 208 6 F dX6_walksBy_206 rfl rfl ?_
        refine g_iconst 209 (v := 0) F dX6_walksBy_208 (by decide) rfl ?_
        obtain ⟨h10, hf⟩ := op_ok hf
        refine m_st_15 210 F h10 dX6_walksBy_209 rfl ?_
        refine g_iinc 213 6 (x8 + 1) [(8, .int (x8 + 1)), (0, .ref (ad 0)), (1, .int x1), (2, .int x2), (3, .int x3), (4, .int x4), (5, .int x5)] F dX6_walksBy_210 rfl rfl (lt_kn hn (by decide)) rfl rfl ?_
        refine g_goto 195 F dX6_walksBy_213 rfl ?_
        exact G.lvs [1, 2, 3, 4, 5, 6, 0] rfl (ih (mA S 15 x8.toNatClampNeg (vp_nar .boolean 0)) x1 x2 x3 x4 x5 (x8 + 1) hf)
  have J_109 : ∀ (r11 : MS → Int32 → Int32 → Int32 → Int32 → Int32 → Option (MS)) (h11 : ∀ (S : MS) (x1 : Int32) (x2 : Int32) (x3 : Int32) (x4 : Int32) (x5 : Int32), r11 S x1 x2 x3 x4 x5 = some q → G K (mX D cI cZ (kA K) ad) 0 0 11 S [(0, .ref (ad 0)), (1, .int x1), (2, .int x2), (3, .int x3), (4, .int x4), (5, .int x5)] []) (S : MS) (x1 : Int32) (x2 : Int32) (x3 : Int32) (x4 : Int32) (x5 : Int32) (x7 : Int32) (t0 : Int32) (t1 : Int32), j_X6_walksBy_109 r11 S x1 x2 x3 x4 x5 x7 t0 t1 = some q → G K (mX D cI cZ (kA K) ad) 0 0 109 S [(0, .ref (ad 0)), (1, .int x1), (2, .int x2), (3, .int x3), (4, .int x4), (5, .int x5), (7, .int x7)] [.int t0, .int t1, .ref (ad 14)] := by
    intro r11 h11 S x1 x2 x3 x4 x5 x7 t0 t1 hf
    unfold j_X6_walksBy_109 at hf
    obtain ⟨h3, hf⟩ := op_ok hf
    refine m_st_14 110 F h3 dX6_walksBy_109 rfl ?_
    refine g_aload_n 111 0 F dX6_walksBy_110 rfl rfl ?_
    refine m_get_15 114 F fl_X6_32 dX6_walksBy_111 rfl ?_
    refine g_iload 116 5 F dX6_walksBy_114 rfl rfl ?_
    refine g_aload_n 117 0 F dX6_walksBy_116 rfl rfl ?_
    refine m_get_14 120 F fl_X6_28 dX6_walksBy_117 rfl ?_
    refine g_iload 122 5 F dX6_walksBy_120 rfl rfl ?_
    obtain ⟨h4, hf⟩ := op_ok hf
    refine m_ld_14 123 F h4 dX6_walksBy_122 rfl ?_
    obtain ⟨h5, hf⟩ := op_ok hf
    refine m_st_15 124 F h5 dX6_walksBy_123 rfl ?_
    refine g_aload_n 125 0 F dX6_walksBy_124 rfl rfl ?_
    refine m_get_14 128 F fl_X6_28 dX6_walksBy_125 rfl ?_
    refine g_iload 130 5 F dX6_walksBy_128 rfl rfl ?_
    obtain ⟨h6, hf⟩ := op_ok hf
    refine m_ld_14 131 F h6 dX6_walksBy_130 rfl ?_
    refine g_if_ne 137 134 F dX6_walksBy_131 rfl rfl hf (fun _ hf => ?_) (fun _ hf => ?_)
    · refine g_iload 139 6 F dX6_walksBy_137 rfl rfl ?_
      refine g_istore 141 [(4, .int x7), (0, .ref (ad 0)), (1, .int x1), (2, .int x2), (3, .int x3), (5, .int x5), (7, .int x7)] F dX6_walksBy_139 (lt_kn hn (by decide)) rfl rfl ?_
      refine g_aload_n 142 1 F dX6_walksBy_141 rfl rfl ?_
      refine g_iload_n 143 2 F dX6_walksBy_142 rfl rfl ?_
      refine g_iload 145 5 F dX6_walksBy_143 rfl rfl ?_
      refine g_iconst 146 (v := 1) F dX6_walksBy_145 (by decide) rfl ?_
      refine g_iadd 147 F dX6_walksBy_146 rfl ?_
      refine g_iload 149 6 F dX6_walksBy_147 rfl rfl ?_
      refine g_aload_n 150 1 F dX6_walksBy_149 rfl rfl ?_
      refine m_get_1 153 F fl_X6_7 dX6_walksBy_150 rfl ?_
      refine g_iconst 154 (v := 3) F dX6_walksBy_153 (by decide) rfl ?_
      refine m_ldK_1 155 3 F (by decide) (by decide) dX6_walksBy_154 rfl ?_
      refine g_isub 156 F dX6_walksBy_155 rfl ?_
      obtain ⟨q7, e8, hf⟩ := op_bd hf
      refine g_cVi 159 (st := []) F hok (c_X6_openBehind (kl K) D cI cZ ad (kA K) (mA (mA S 14 t1.toNatClampNeg (vp_nar .boolean t0)) 15 x5.toNatClampNeg (vp_nar .boolean ((mA S 14 t1.toNatClampNeg (vp_nar .boolean t0)).2 14 x5.toNatClampNeg))) x1 (x5 + 1) (x7 - ((mA (mA S 14 t1.toNatClampNeg (vp_nar .boolean t0)) 15 x5.toNatClampNeg (vp_nar .boolean ((mA S 14 t1.toNatClampNeg (vp_nar .boolean t0)).2 14 x5.toNatClampNeg))).2 1 3)) q7 e8) wy_X6_openBehind ml_X6_197 (m_recv F) ⟨Nat.le_of_ble_eq_true rfl, Nat.le_of_ble_eq_true rfl⟩ rfl rfl (Nat.le_of_ble_eq_true rfl) ⟨Nat.zero_le _, Nat.zero_le _⟩ dX6_walksBy_156 rfl ?_
      refine g_aload_n 160 1 F dX6_walksBy_159 rfl rfl ?_
      refine m_get_1 163 F fl_X6_7 dX6_walksBy_160 rfl ?_
      refine g_iconst 164 (v := 4) F dX6_walksBy_163 (by decide) rfl ?_
      refine m_ldK_1 165 4 F (by decide) (by decide) dX6_walksBy_164 rfl ?_
      refine g_icmp_ge 171 168 F dX6_walksBy_165 rfl rfl hf (fun _ hf => ?_) (fun _ hf => ?_)
      · refine g_aload_n 172 1 F dX6_walksBy_171 rfl rfl ?_
        refine m_get_16 175 F fl_X6_35 dX6_walksBy_172 rfl ?_
        refine g_aload_n 176 1 F dX6_walksBy_175 rfl rfl ?_
        refine m_get_17 179 F fl_X6_194 dX6_walksBy_176 rfl ?_
        refine g_iload 181 6 F dX6_walksBy_179 rfl rfl ?_
        obtain ⟨h9, hf⟩ := op_ok hf
        refine m_st_16 182 F h9 dX6_walksBy_181 rfl ?_
        refine g_aload_n 183 1 F dX6_walksBy_182 rfl rfl ?_
        refine g_dup 184 F dX6_walksBy_183 rfl rfl ?_
        refine m_get_17 187 F fl_X6_194 dX6_walksBy_184 rfl ?_
        refine g_iconst 188 (v := 1) F dX6_walksBy_187 (by decide) rfl ?_
        refine g_iadd 189 F dX6_walksBy_188 rfl ?_
        refine m_put_17 192 F fl_X6_194 dX6_walksBy_189 rfl ?_
        refine g_iconst 193 (v := 0) F dX6_walksBy_192 (by decide) rfl ?_
        refine g_istore 195 [(8, .int 0), (4, .int x7), (0, .ref (ad 0)), (1, .int x1), (2, .int x2), (3, .int x3), (5, .int x5), (7, .int x7)] F dX6_walksBy_193 (lt_kn hn (by decide)) rfl rfl ?_
        exact G.lvs [2, 3, 4, 5, 1, 6, 0] rfl (L_195 r11 h11 fu (mS (mA (mA (mA S 14 t1.toNatClampNeg (vp_nar .boolean t0)) 15 x5.toNatClampNeg (vp_nar .boolean ((mA S 14 t1.toNatClampNeg (vp_nar .boolean t0)).2 14 x5.toNatClampNeg))) 16 ((mA (mA S 14 t1.toNatClampNeg (vp_nar .boolean t0)) 15 x5.toNatClampNeg (vp_nar .boolean ((mA S 14 t1.toNatClampNeg (vp_nar .boolean t0)).2 14 x5.toNatClampNeg))).1 17).toNatClampNeg x7) 17 (((mA (mA (mA S 14 t1.toNatClampNeg (vp_nar .boolean t0)) 15 x5.toNatClampNeg (vp_nar .boolean ((mA S 14 t1.toNatClampNeg (vp_nar .boolean t0)).2 14 x5.toNatClampNeg))) 16 ((mA (mA S 14 t1.toNatClampNeg (vp_nar .boolean t0)) 15 x5.toNatClampNeg (vp_nar .boolean ((mA S 14 t1.toNatClampNeg (vp_nar .boolean t0)).2 14 x5.toNatClampNeg))).1 17).toNatClampNeg x7).1 17) + 1)) x1 x2 x3 x7 x5 0 hf)
      · refine g_goto 216 F dX6_walksBy_168 rfl ?_
        refine g_iinc 219 5 (x5 + 1) [(5, .int (x5 + 1)), (4, .int x7), (0, .ref (ad 0)), (1, .int x1), (2, .int x2), (3, .int x3), (7, .int x7)] F dX6_walksBy_216 rfl rfl (lt_kn hn (by decide)) rfl rfl ?_
        refine g_goto 11 F dX6_walksBy_219 rfl ?_
        exact G.lvs [2, 3, 4, 5, 1, 0] rfl (h11 (mA (mA S 14 t1.toNatClampNeg (vp_nar .boolean t0)) 15 x5.toNatClampNeg (vp_nar .boolean ((mA S 14 t1.toNatClampNeg (vp_nar .boolean t0)).2 14 x5.toNatClampNeg))) x1 x2 x3 x7 (x5 + 1) hf)
    · refine g_goto 216 F dX6_walksBy_134 rfl ?_
      refine g_iinc 219 5 (x5 + 1) [(5, .int (x5 + 1)), (0, .ref (ad 0)), (1, .int x1), (2, .int x2), (3, .int x3), (4, .int x4), (7, .int x7)] F dX6_walksBy_216 rfl rfl (lt_kn hn (by decide)) rfl rfl ?_
      refine g_goto 11 F dX6_walksBy_219 rfl ?_
      exact G.lvs [1, 2, 3, 4, 5, 0] rfl (h11 (mA (mA S 14 t1.toNatClampNeg (vp_nar .boolean t0)) 15 x5.toNatClampNeg (vp_nar .boolean ((mA S 14 t1.toNatClampNeg (vp_nar .boolean t0)).2 14 x5.toNatClampNeg))) x1 x2 x3 x4 (x5 + 1) hf)
  have J_62 : ∀ (r11 : MS → Int32 → Int32 → Int32 → Int32 → Int32 → Option (MS)) (h11 : ∀ (S : MS) (x1 : Int32) (x2 : Int32) (x3 : Int32) (x4 : Int32) (x5 : Int32), r11 S x1 x2 x3 x4 x5 = some q → G K (mX D cI cZ (kA K) ad) 0 0 11 S [(0, .ref (ad 0)), (1, .int x1), (2, .int x2), (3, .int x3), (4, .int x4), (5, .int x5)] []) (S : MS) (x1 : Int32) (x2 : Int32) (x3 : Int32) (x4 : Int32) (x5 : Int32) (t0 : Int32), j_X6_walksBy_62 r11 S x1 x2 x3 x4 x5 t0 = some q → G K (mX D cI cZ (kA K) ad) 0 0 62 S [(0, .ref (ad 0)), (1, .int x1), (2, .int x2), (3, .int x3), (4, .int x4), (5, .int x5)] [.int t0] := by
    intro r11 h11 S x1 x2 x3 x4 x5 t0 hf
    unfold j_X6_walksBy_62 at hf
    refine g_istore 64 [(6, .int t0), (0, .ref (ad 0)), (1, .int x1), (2, .int x2), (3, .int x3), (4, .int x4), (5, .int x5)] F dX6_walksBy_62 (lt_kn hn (by decide)) rfl rfl ?_
    refine g_aload_n 65 1 F dX6_walksBy_64 rfl rfl ?_
    refine g_iload_n 66 2 F dX6_walksBy_65 rfl rfl ?_
    refine g_iload 68 6 F dX6_walksBy_66 rfl rfl ?_
    obtain ⟨q1, e2, hf⟩ := op_bd hf
    refine g_cVi 71 (st := []) F hok (c_X6_dayOf (kl K) D cI cZ ad (kA K) S x1 x5 q1 e2) wy_X6_dayOf ml_X6_191 (m_recv F) ⟨Nat.le_of_ble_eq_true rfl, Nat.le_of_ble_eq_true rfl⟩ rfl rfl (Nat.le_of_ble_eq_true rfl) ⟨Nat.zero_le _, Nat.zero_le _⟩ dX6_walksBy_68 rfl ?_
    refine g_istore 73 [(7, .int q1), (6, .int t0), (0, .ref (ad 0)), (1, .int x1), (2, .int x2), (3, .int x3), (4, .int x4), (5, .int x5)] F dX6_walksBy_71 (lt_kn hn (by decide)) rfl rfl ?_
    refine g_aload_n 74 2 F dX6_walksBy_73 rfl rfl ?_
    refine m_get_14 77 F fl_X6_28 dX6_walksBy_74 rfl ?_
    refine g_iload 79 7 F dX6_walksBy_77 rfl rfl ?_
    refine g_iload 81 1 F dX6_walksBy_79 rfl rfl ?_
    refine g_if_ne 108 84 F dX6_walksBy_81 rfl rfl hf (fun _ hf => ?_) (fun _ hf => ?_)
    · refine g_iconst 109 (v := 0) F dX6_walksBy_108 (by decide) rfl ?_
      exact G.lvs [2, 3, 4, 5, 6, 7, 0] rfl (J_109 r11 h11 S x1 x2 x3 x4 x5 q1 0 x5 hf)
    · refine g_iload 86 6 F dX6_walksBy_84 rfl rfl ?_
      refine g_iconst 87 (v := (-1)) F dX6_walksBy_86 (by decide) rfl ?_
      refine g_icmp_eq 104 90 F dX6_walksBy_87 rfl rfl hf (fun _ hf => ?_) (fun _ hf => ?_)
      · refine g_iconst 105 (v := 1) F dX6_walksBy_104 (by decide) rfl ?_
        refine g_goto 109 F dX6_walksBy_105 rfl ?_
        exact G.lvs [2, 3, 4, 5, 6, 7, 0] rfl (J_109 r11 h11 S x1 x2 x3 x4 x5 q1 1 x5 hf)
      · refine g_iload 92 0 F dX6_walksBy_90 rfl rfl ?_
        refine g_iload 94 6 F dX6_walksBy_92 rfl rfl ?_
        refine g_aload_n 95 2 F dX6_walksBy_94 rfl rfl ?_
        refine m_get_1 98 F fl_X6_7 dX6_walksBy_95 rfl ?_
        refine g_iconst 99 (v := 5) F dX6_walksBy_98 (by decide) rfl ?_
        refine m_ldK_1 100 5 F (by decide) (by decide) dX6_walksBy_99 rfl ?_
        refine g_iadd 101 F dX6_walksBy_100 rfl ?_
        refine g_icmp_lt 108 104 F dX6_walksBy_101 rfl rfl hf (fun _ hf => ?_) (fun _ hf => ?_)
        · refine g_iconst 109 (v := 0) F dX6_walksBy_108 (by decide) rfl ?_
          exact G.lvs [2, 3, 4, 5, 6, 7, 0] rfl (J_109 r11 h11 S x1 x2 x3 x4 x5 q1 0 x5 hf)
        · refine g_iconst 105 (v := 1) F dX6_walksBy_104 (by decide) rfl ?_
          refine g_goto 109 F dX6_walksBy_105 rfl ?_
          exact G.lvs [2, 3, 4, 5, 6, 7, 0] rfl (J_109 r11 h11 S x1 x2 x3 x4 x5 q1 1 x5 hf)
  have L_11 : ∀ (n : Nat) (S : MS) (x1 : Int32) (x2 : Int32) (x3 : Int32) (x4 : Int32) (x5 : Int32), l_X6_walksBy_11 n S x1 x2 x3 x4 x5 = some q → G K (mX D cI cZ (kA K) ad) 0 0 11 S [(0, .ref (ad 0)), (1, .int x1), (2, .int x2), (3, .int x3), (4, .int x4), (5, .int x5)] [] := by
    intro n
    induction n with
    | zero =>
      intro S x1 x2 x3 x4 x5 hf
      rw [l_X6_walksBy_11] at hf
      cases hf
    | succ n ih =>
      intro S x1 x2 x3 x4 x5 hf
      rw [l_X6_walksBy_11] at hf
      refine g_iload 13 5 F dX6_walksBy_11 rfl rfl ?_
      refine g_iload_n 14 2 F dX6_walksBy_13 rfl rfl ?_
      refine g_icmp_ge 222 17 F dX6_walksBy_14 rfl rfl hf (fun _ hf => ?_) (fun _ hf => ?_)
      · obtain rfl := Option.some.inj hf
        exact hR _ _ dX6_walksBy_222
      · refine g_iload 19 5 F dX6_walksBy_17 rfl rfl ?_
        refine g_iload_n 20 3 F dX6_walksBy_19 rfl rfl ?_
        refine g_icmp_eq 57 23 F dX6_walksBy_20 rfl rfl hf (fun _ hf => ?_) (fun _ hf => ?_)
        · refine g_iconst 58 (v := 1) F dX6_walksBy_57 (by decide) rfl ?_
          refine g_goto 62 F dX6_walksBy_58 rfl ?_
          exact G.lvs [0, 1, 2, 3, 4, 5] rfl (J_62 (l_X6_walksBy_11 n) ih S x1 x2 x3 x4 x5 1 hf)
        · refine g_iload 25 5 F dX6_walksBy_23 rfl rfl ?_
          refine g_aload_n 26 0 F dX6_walksBy_25 rfl rfl ?_
          refine g_iload_n 27 1 F dX6_walksBy_26 rfl rfl ?_
          refine g_bipush 29 (v := 7) F dX6_walksBy_27 (by decide) rfl ?_
          obtain ⟨q11, e12, hf⟩ := op_bd hf
          refine g_cVi 32 (st := [.int x5]) F hok (c_X6_its (kl K) D cI cZ ad (kA K) S x1 7 q11 e12) wy_X6_its ml_X6_50 (m_recv F) ⟨Nat.le_of_ble_eq_true rfl, Nat.le_of_ble_eq_true rfl⟩ rfl rfl (Nat.le_of_ble_eq_true rfl) ⟨Nat.zero_le _, Nat.zero_le _⟩ dX6_walksBy_29 rfl ?_
          refine g_icmp_ge 61 35 F dX6_walksBy_32 rfl rfl hf (fun _ hf => ?_) (fun _ hf => ?_)
          · refine g_iconst 62 (v := 0) F dX6_walksBy_61 (by decide) rfl ?_
            exact G.lvs [0, 1, 2, 3, 4, 5] rfl (J_62 (l_X6_walksBy_11 n) ih S x1 x2 x3 x4 x5 0 hf)
          · refine g_aload_n 36 0 F dX6_walksBy_35 rfl rfl ?_
            refine m_get_1 39 F fl_X6_7 dX6_walksBy_36 rfl ?_
            refine g_iload_n 40 1 F dX6_walksBy_39 rfl rfl ?_
            refine g_bipush 42 (v := 8) F dX6_walksBy_40 (by decide) rfl ?_
            refine g_iconst 43 (v := 3) F dX6_walksBy_42 (by decide) rfl ?_
            refine g_iload 45 5 F dX6_walksBy_43 rfl rfl ?_
            refine g_imul 46 F dX6_walksBy_45 rfl ?_
            refine g_iadd 47 F dX6_walksBy_46 rfl ?_
            refine g_iconst 48 (v := 2) F dX6_walksBy_47 (by decide) rfl ?_
            refine g_iadd 49 F dX6_walksBy_48 rfl ?_
            refine g_cSi 52 (st := [.ref (ad 1)]) F hok (c_X6_cell (kl K) D cI cZ ad (kA K) S x1 ((8 + (3 * x5)) + 2) _ rfl) ws_X6_cell ml_X6_46 ⟨Nat.le_of_ble_eq_true rfl, Nat.le_of_ble_eq_true rfl⟩ rfl rfl (Nat.le_of_ble_eq_true rfl) ⟨Nat.zero_le _, Nat.zero_le _⟩ dX6_walksBy_49 rfl ?_
            obtain ⟨h13, hf⟩ := op_ok hf
            refine m_ld_1 53 F h13 dX6_walksBy_52 rfl ?_
            refine g_iconst 54 (v := 1) F dX6_walksBy_53 (by decide) rfl ?_
            refine g_icmp_ne 61 57 F dX6_walksBy_54 rfl rfl hf (fun _ hf => ?_) (fun _ hf => ?_)
            · refine g_iconst 62 (v := 0) F dX6_walksBy_61 (by decide) rfl ?_
              exact G.lvs [0, 1, 2, 3, 4, 5] rfl (J_62 (l_X6_walksBy_11 n) ih S x1 x2 x3 x4 x5 0 hf)
            · refine g_iconst 58 (v := 1) F dX6_walksBy_57 (by decide) rfl ?_
              refine g_goto 62 F dX6_walksBy_58 rfl ?_
              exact G.lvs [0, 1, 2, 3, 4, 5] rfl (J_62 (l_X6_walksBy_11 n) ih S x1 x2 x3 x4 x5 1 hf)
  unfold f_X6_walksBy at hf
  refine g_aload_n 1 0 F dX6_walksBy_0 rfl rfl ?_
  refine g_iconst 2 (v := 0) F dX6_walksBy_1 (by decide) rfl ?_
  refine m_put_17 5 F fl_X6_194 dX6_walksBy_2 rfl ?_
  refine g_iconst 6 (v := (-1)) F dX6_walksBy_5 (by decide) rfl ?_
  refine g_istore 8 [(4, .int (-1)), (0, .ref (ad 0)), (1, .int a1), (2, .int a2), (3, .int a3)] F dX6_walksBy_6 (lt_kn hn (by decide)) rfl rfl ?_
  refine g_iconst 9 (v := 0) F dX6_walksBy_8 (by decide) rfl ?_
  refine g_istore 11 [(5, .int 0), (4, .int (-1)), (0, .ref (ad 0)), (1, .int a1), (2, .int a2), (3, .int a3)] F dX6_walksBy_9 (lt_kn hn (by decide)) rfl rfl ?_
  exact G.lvs [2, 3, 4, 5, 1, 0] rfl (L_11 fu (mS S 17 0) a1 a2 a3 (-1) 0 hf)
theorem c_X6_walksBy (l : Launch) (D : va_G) (cI cZ : ClassId) (ad : Nat → Nat) (A : Nat → Prop) (S : MS) (a1 : Int32) (a2 : Int32) (a3 : Int32) (q : MS) (hf : f_X6_walksBy S a1 a2 a3 = some q) : Cv l yX6_walksBy cX6_walksBy 9 none 4 90 (mX D cI cZ A ad) (mKf D cI cZ) A S [.ref (ad 0), .int a1, .int a2, .int a3] q := by
  refine met_v (by decide +kernel) (Nat.le_of_ble_eq_true rfl) (fun K hl hA hn F hR => ?_)
  subst hl; subst hA
  exact w_X6_walksBy D cI cZ ad K F hn S a1 a2 a3 q hf hR
set_option maxHeartbeats 4000000 in
set_option maxRecDepth 100000 in
theorem w_X6_walks (D : va_G) (cI cZ : ClassId) (ad : Nat → Nat) (K : Ctx) (F : Fx K cX6_walks RX6 (mKf D cI cZ) 5 118) (hn : kn K = 2) (S : MS) (a1 : Int32) (q : MS) (hf : f_X6_walks S a1 = some q) (hR : ∀ (pc : Nat) (lv : List (Nat × Value)), decode cX6_walks pc = .ok (.return_, 1) → G K (mX D cI cZ (kA K) ad) 0 0 pc q lv []) : G K (mX D cI cZ (kA K) ad) 0 0 0 S [(0, .ref (ad 0)), (1, .int a1)] [] := by
  have hok := mKf_ok D cI cZ (kA K)
  unfold f_X6_walks at hf
  refine g_aload_n 1 0 F dX6_walks_0 rfl rfl ?_
  refine g_iload_n 2 1 F dX6_walks_1 rfl rfl ?_
  refine g_aload_n 3 0 F dX6_walks_2 rfl rfl ?_
  refine g_iload_n 4 1 F dX6_walks_3 rfl rfl ?_
  refine g_bipush 6 (v := 7) F dX6_walks_4 (by decide) rfl ?_
  obtain ⟨q1, e2, hf⟩ := op_bd hf
  refine g_cVi 9 (st := [.int a1, .ref (ad 0)]) F hok (c_X6_its (kl K) D cI cZ ad (kA K) S a1 7 q1 e2) wy_X6_its ml_X6_50 (m_recv F) ⟨Nat.le_of_ble_eq_true rfl, Nat.le_of_ble_eq_true rfl⟩ rfl rfl (Nat.le_of_ble_eq_true rfl) ⟨Nat.zero_le _, Nat.zero_le _⟩ dX6_walks_6 rfl ?_
  refine g_iconst 10 (v := (-1)) F dX6_walks_9 (by decide) rfl ?_
  obtain ⟨q3, e4, hf⟩ := op_bd hf
  refine g_cVv 13 (st := []) F hok (c_X6_walksBy (kl K) D cI cZ ad (kA K) S a1 q1 (-1) q3 e4) wy_X6_walksBy ml_X6_201 (m_recv F) ⟨Nat.le_of_ble_eq_true rfl, Nat.le_of_ble_eq_true rfl⟩ rfl rfl (Nat.le_of_ble_eq_true rfl) ⟨Nat.zero_le _, Nat.zero_le _⟩ dX6_walks_10 rfl ?_
  obtain rfl := Option.some.inj hf
  exact hR _ _ dX6_walks_13
theorem c_X6_walks (l : Launch) (D : va_G) (cI cZ : ClassId) (ad : Nat → Nat) (A : Nat → Prop) (S : MS) (a1 : Int32) (q : MS) (hf : f_X6_walks S a1 = some q) : Cv l yX6_walks cX6_walks 2 none 5 118 (mX D cI cZ A ad) (mKf D cI cZ) A S [.ref (ad 0), .int a1] q := by
  refine met_v (by decide +kernel) (Nat.le_of_ble_eq_true rfl) (fun K hl hA hn F hR => ?_)
  subst hl; subst hA
  exact w_X6_walks D cI cZ ad K F hn S a1 q hf hR
set_option maxHeartbeats 4000000 in
set_option maxRecDepth 100000 in
theorem w_X6_pointsNow (D : va_G) (cI cZ : ClassId) (ad : Nat → Nat) (K : Ctx) (F : Fx K cX6_pointsNow RX6 (mKf D cI cZ) 6 139) (hn : kn K = 2) (S : MS) (a1 : Int32) (q : Int32 × MS) (hf : f_X6_pointsNow S a1 = some q) (hR : ∀ (pc : Nat) (lv : List (Nat × Value)), decode cX6_pointsNow pc = .ok (.ireturn, 1) → G K (mX D cI cZ (kA K) ad) 0 0 pc q.2 lv [.int q.1]) : G K (mX D cI cZ (kA K) ad) 0 0 0 S [(0, .ref (ad 0)), (1, .int a1)] [] := by
  have hok := mKf_ok D cI cZ (kA K)
  unfold f_X6_pointsNow at hf
  refine g_aload_n 1 0 F dX6_pointsNow_0 rfl rfl ?_
  refine g_iload_n 2 1 F dX6_pointsNow_1 rfl rfl ?_
  obtain ⟨q1, e2, hf⟩ := op_bd hf
  refine g_cVv 5 (st := []) F hok (c_X6_walks (kl K) D cI cZ ad (kA K) S a1 q1 e2) wy_X6_walks ml_X6_205 (m_recv F) ⟨Nat.le_of_ble_eq_true rfl, Nat.le_of_ble_eq_true rfl⟩ rfl rfl (Nat.le_of_ble_eq_true rfl) ⟨Nat.zero_le _, Nat.zero_le _⟩ dX6_pointsNow_2 rfl ?_
  refine g_aload_n 6 0 F dX6_pointsNow_5 rfl rfl ?_
  refine g_iload_n 7 1 F dX6_pointsNow_6 rfl rfl ?_
  refine g_aload_n 8 0 F dX6_pointsNow_7 rfl rfl ?_
  refine g_iload_n 9 1 F dX6_pointsNow_8 rfl rfl ?_
  refine g_bipush 11 (v := 7) F dX6_pointsNow_9 (by decide) rfl ?_
  obtain ⟨q3, e4, hf⟩ := op_bd hf
  refine g_cVi 14 (st := [.int a1, .ref (ad 0)]) F hok (c_X6_its (kl K) D cI cZ ad (kA K) q1 a1 7 q3 e4) wy_X6_its ml_X6_50 (m_recv F) ⟨Nat.le_of_ble_eq_true rfl, Nat.le_of_ble_eq_true rfl⟩ rfl rfl (Nat.le_of_ble_eq_true rfl) ⟨Nat.zero_le _, Nat.zero_le _⟩ dX6_pointsNow_11 rfl ?_
  refine g_aload_n 15 0 F dX6_pointsNow_14 rfl rfl ?_
  refine m_get_1 18 F fl_X6_7 dX6_pointsNow_15 rfl ?_
  refine g_iconst 19 (v := 0) F dX6_pointsNow_18 (by decide) rfl ?_
  refine m_ldK_1 20 0 F (by decide) (by decide) dX6_pointsNow_19 rfl ?_
  refine g_aload_n 21 0 F dX6_pointsNow_20 rfl rfl ?_
  refine m_get_1 24 F fl_X6_7 dX6_pointsNow_21 rfl ?_
  refine g_iconst 25 (v := 3) F dX6_pointsNow_24 (by decide) rfl ?_
  refine m_ldK_1 26 3 F (by decide) (by decide) dX6_pointsNow_25 rfl ?_
  refine g_isub 27 F dX6_pointsNow_26 rfl ?_
  obtain ⟨q5, e6, hf⟩ := op_bd hf
  refine g_cVi 30 (st := []) F hok (c_X6_openBehind (kl K) D cI cZ ad (kA K) q1 a1 q3 ((q1.2 1 0) - (q1.2 1 3)) q5 e6) wy_X6_openBehind ml_X6_197 (m_recv F) ⟨Nat.le_of_ble_eq_true rfl, Nat.le_of_ble_eq_true rfl⟩ rfl rfl (Nat.le_of_ble_eq_true rfl) ⟨Nat.zero_le _, Nat.zero_le _⟩ dX6_pointsNow_27 rfl ?_
  obtain rfl := Option.some.inj hf
  exact hR _ _ dX6_pointsNow_30
theorem c_X6_pointsNow (l : Launch) (D : va_G) (cI cZ : ClassId) (ad : Nat → Nat) (A : Nat → Prop) (S : MS) (a1 : Int32) (q : Int32 × MS) (hf : f_X6_pointsNow S a1 = some q) : Ci l yX6_pointsNow cX6_pointsNow 2 (some .int) 6 139 (mX D cI cZ A ad) (mKf D cI cZ) A S [.ref (ad 0), .int a1] q.1 q.2 := by
  refine met_i (by decide +kernel) (Nat.le_of_ble_eq_true rfl) (fun K hl hA hn F hR => ?_)
  subst hl; subst hA
  exact w_X6_pointsNow D cI cZ ad K F hn S a1 q hf hR
set_option maxHeartbeats 4000000 in
set_option maxRecDepth 100000 in
theorem w_X6_weightOf (D : va_G) (cI cZ : ClassId) (ad : Nat → Nat) (K : Ctx) (F : Fx K cX6_weightOf RX6 (mKf D cI cZ) 7 160) (hn : kn K = 3) (S : MS) (a1 : Int32) (q : Int32 × MS) (hf : f_X6_weightOf S a1 = some q) (hR : ∀ (pc : Nat) (lv : List (Nat × Value)), decode cX6_weightOf pc = .ok (.ireturn, 1) → G K (mX D cI cZ (kA K) ad) 0 0 pc q.2 lv [.int q.1]) : G K (mX D cI cZ (kA K) ad) 0 0 0 S [(0, .ref (ad 0)), (1, .int a1)] [] := by
  have hok := mKf_ok D cI cZ (kA K)
  have J_25 : ∀ (S : MS) (x1 : Int32) (t0 : Int32), j_X6_weightOf_25 S x1 t0 = some q → G K (mX D cI cZ (kA K) ad) 0 0 25 S [(0, .ref (ad 0)), (1, .int x1)] [.int t0] := by
    intro S x1 t0 hf
    unfold j_X6_weightOf_25 at hf
    refine g_istore_n 26 [(2, .int t0), (0, .ref (ad 0)), (1, .int x1)] F dX6_weightOf_25 (lt_kn hn (by decide)) rfl rfl ?_
    refine g_aload_n 27 1 F dX6_weightOf_26 rfl rfl ?_
    refine g_iload_n 28 2 F dX6_weightOf_27 rfl rfl ?_
    refine g_iconst 29 (v := 0) F dX6_weightOf_28 (by decide) rfl ?_
    obtain ⟨q5, e6, hf⟩ := op_bd hf
    refine g_cVi 32 (st := []) F hok (c_X6_its (kl K) D cI cZ ad (kA K) S x1 0 q5 e6) wy_X6_its ml_X6_50 (m_recv F) ⟨Nat.le_of_ble_eq_true rfl, Nat.le_of_ble_eq_true rfl⟩ rfl rfl (Nat.le_of_ble_eq_true rfl) ⟨Nat.zero_le _, Nat.zero_le _⟩ dX6_weightOf_29 rfl ?_
    refine g_iconst 33 (v := 1) F dX6_weightOf_32 (by decide) rfl ?_
    refine g_aload_n 34 1 F dX6_weightOf_33 rfl rfl ?_
    refine m_get_1 37 F fl_X6_7 dX6_weightOf_34 rfl ?_
    refine g_iconst 38 (v := 0) F dX6_weightOf_37 (by decide) rfl ?_
    refine m_ldK_1 39 0 F (by decide) (by decide) dX6_weightOf_38 rfl ?_
    refine g_iadd 40 F dX6_weightOf_39 rfl ?_
    refine g_iload_n 41 0 F dX6_weightOf_40 rfl rfl ?_
    refine g_isub 42 F dX6_weightOf_41 rfl ?_
    refine g_imul 43 F dX6_weightOf_42 rfl ?_
    refine g_iconst 44 (v := 1) F dX6_weightOf_43 (by decide) rfl ?_
    refine g_aload_n 45 1 F dX6_weightOf_44 rfl rfl ?_
    refine g_iload_n 46 2 F dX6_weightOf_45 rfl rfl ?_
    obtain ⟨q7, e8, hf⟩ := op_bd hf
    refine g_cVi 49 (st := [.int 1, .int (q5 * ((1 + (S.2 1 0)) - t0))]) F hok (c_X6_pointsNow (kl K) D cI cZ ad (kA K) S x1 q7 e8) wy_X6_pointsNow ml_X6_208 (m_recv F) ⟨Nat.le_of_ble_eq_true rfl, Nat.le_of_ble_eq_true rfl⟩ rfl rfl (Nat.le_of_ble_eq_true rfl) ⟨Nat.zero_le _, Nat.zero_le _⟩ dX6_weightOf_46 rfl ?_
    refine g_iadd 50 F dX6_weightOf_49 rfl ?_
    refine g_imul 51 F dX6_weightOf_50 rfl ?_
    obtain rfl := Option.some.inj hf
    exact hR _ _ dX6_weightOf_51
  unfold f_X6_weightOf at hf
  refine g_aload_n 1 0 F dX6_weightOf_0 rfl rfl ?_
  refine g_iload_n 2 1 F dX6_weightOf_1 rfl rfl ?_
  refine g_iconst 3 (v := 4) F dX6_weightOf_2 (by decide) rfl ?_
  obtain ⟨q1, e2, hf⟩ := op_bd hf
  refine g_cVi 6 (st := []) F hok (c_X6_its (kl K) D cI cZ ad (kA K) S a1 4 q1 e2) wy_X6_its ml_X6_50 (m_recv F) ⟨Nat.le_of_ble_eq_true rfl, Nat.le_of_ble_eq_true rfl⟩ rfl rfl (Nat.le_of_ble_eq_true rfl) ⟨Nat.zero_le _, Nat.zero_le _⟩ dX6_weightOf_3 rfl ?_
  refine g_iconst 7 (v := (-1)) F dX6_weightOf_6 (by decide) rfl ?_
  refine g_icmp_ne 19 10 F dX6_weightOf_7 rfl rfl hf (fun _ hf => ?_) (fun _ hf => ?_)
  · refine g_aload_n 20 0 F dX6_weightOf_19 rfl rfl ?_
    refine g_iload_n 21 1 F dX6_weightOf_20 rfl rfl ?_
    refine g_iconst 22 (v := 4) F dX6_weightOf_21 (by decide) rfl ?_
    obtain ⟨q3, e4, hf⟩ := op_bd hf
    refine g_cVi 25 (st := []) F hok (c_X6_its (kl K) D cI cZ ad (kA K) S a1 4 q3 e4) wy_X6_its ml_X6_50 (m_recv F) ⟨Nat.le_of_ble_eq_true rfl, Nat.le_of_ble_eq_true rfl⟩ rfl rfl (Nat.le_of_ble_eq_true rfl) ⟨Nat.zero_le _, Nat.zero_le _⟩ dX6_weightOf_22 rfl ?_
    exact G.lvs [0, 1] rfl (J_25 S a1 q3 hf)
  · refine g_aload_n 11 0 F dX6_weightOf_10 rfl rfl ?_
    refine g_iload_n 12 1 F dX6_weightOf_11 rfl rfl ?_
    refine g_iconst 13 (v := 1) F dX6_weightOf_12 (by decide) rfl ?_
    obtain ⟨q9, e10, hf⟩ := op_bd hf
    refine g_cVi 16 (st := []) F hok (c_X6_its (kl K) D cI cZ ad (kA K) S a1 1 q9 e10) wy_X6_its ml_X6_50 (m_recv F) ⟨Nat.le_of_ble_eq_true rfl, Nat.le_of_ble_eq_true rfl⟩ rfl rfl (Nat.le_of_ble_eq_true rfl) ⟨Nat.zero_le _, Nat.zero_le _⟩ dX6_weightOf_13 rfl ?_
    refine g_goto 25 F dX6_weightOf_16 rfl ?_
    exact G.lvs [0, 1] rfl (J_25 S a1 q9 hf)
theorem c_X6_weightOf (l : Launch) (D : va_G) (cI cZ : ClassId) (ad : Nat → Nat) (A : Nat → Prop) (S : MS) (a1 : Int32) (q : Int32 × MS) (hf : f_X6_weightOf S a1 = some q) : Ci l yX6_weightOf cX6_weightOf 3 (some .int) 7 160 (mX D cI cZ A ad) (mKf D cI cZ) A S [.ref (ad 0), .int a1] q.1 q.2 := by
  refine met_i (by decide +kernel) (Nat.le_of_ble_eq_true rfl) (fun K hl hA hn F hR => ?_)
  subst hl; subst hA
  exact w_X6_weightOf D cI cZ ad K F hn S a1 q hf hR
set_option maxHeartbeats 4000000 in
set_option maxRecDepth 100000 in
theorem w_X6_latesOf (D : va_G) (cI cZ : ClassId) (ad : Nat → Nat) (K : Ctx) (F : Fx K cX6_latesOf RX6 (mKf D cI cZ) 2 43) (hn : kn K = 2) (S : MS) (a1 : Int32) (q : Int32) (hf : f_X6_latesOf S a1 = some q) (hR : ∀ (pc : Nat) (lv : List (Nat × Value)), decode cX6_latesOf pc = .ok (.ireturn, 1) → G K (mX D cI cZ (kA K) ad) 0 0 pc S lv [.int q]) : G K (mX D cI cZ (kA K) ad) 0 0 0 S [(0, .ref (ad 0)), (1, .int a1)] [] := by
  have hok := mKf_ok D cI cZ (kA K)
  unfold f_X6_latesOf at hf
  refine g_aload_n 1 0 F dX6_latesOf_0 rfl rfl ?_
  refine g_iload_n 2 1 F dX6_latesOf_1 rfl rfl ?_
  refine g_bipush 4 (v := 6) F dX6_latesOf_2 (by decide) rfl ?_
  obtain ⟨q1, e2, hf⟩ := op_bd hf
  refine g_cVi 7 (st := []) F hok (c_X6_its (kl K) D cI cZ ad (kA K) S a1 6 q1 e2) wy_X6_its ml_X6_50 (m_recv F) ⟨Nat.le_of_ble_eq_true rfl, Nat.le_of_ble_eq_true rfl⟩ rfl rfl (Nat.le_of_ble_eq_true rfl) ⟨Nat.zero_le _, Nat.zero_le _⟩ dX6_latesOf_4 rfl ?_
  refine g_aload_n 8 0 F dX6_latesOf_7 rfl rfl ?_
  refine m_get_1 11 F fl_X6_7 dX6_latesOf_8 rfl ?_
  refine g_iconst 12 (v := 0) F dX6_latesOf_11 (by decide) rfl ?_
  refine m_ldK_1 13 0 F (by decide) (by decide) dX6_latesOf_12 rfl ?_
  refine g_bipush 15 (v := 30) F dX6_latesOf_13 (by decide) rfl ?_
  refine g_idiv 16 F dX6_latesOf_15 (by decide) rfl ?_
  refine g_icmp_ne 28 19 F dX6_latesOf_16 rfl rfl hf (fun _ hf => ?_) (fun _ hf => ?_)
  · refine g_iconst 29 (v := 0) F dX6_latesOf_28 (by decide) rfl ?_
    obtain rfl := Option.some.inj hf
    exact hR _ _ dX6_latesOf_29
  · refine g_aload_n 20 0 F dX6_latesOf_19 rfl rfl ?_
    refine g_iload_n 21 1 F dX6_latesOf_20 rfl rfl ?_
    refine g_iconst 22 (v := 5) F dX6_latesOf_21 (by decide) rfl ?_
    obtain ⟨q3, e4, hf⟩ := op_bd hf
    refine g_cVi 25 (st := []) F hok (c_X6_its (kl K) D cI cZ ad (kA K) S a1 5 q3 e4) wy_X6_its ml_X6_50 (m_recv F) ⟨Nat.le_of_ble_eq_true rfl, Nat.le_of_ble_eq_true rfl⟩ rfl rfl (Nat.le_of_ble_eq_true rfl) ⟨Nat.zero_le _, Nat.zero_le _⟩ dX6_latesOf_22 rfl ?_
    refine g_goto 29 F dX6_latesOf_25 rfl ?_
    obtain rfl := Option.some.inj hf
    exact hR _ _ dX6_latesOf_29
theorem c_X6_latesOf (l : Launch) (D : va_G) (cI cZ : ClassId) (ad : Nat → Nat) (A : Nat → Prop) (S : MS) (a1 : Int32) (q : Int32) (hf : f_X6_latesOf S a1 = some q) : Ci l yX6_latesOf cX6_latesOf 2 (some .int) 2 43 (mX D cI cZ A ad) (mKf D cI cZ) A S [.ref (ad 0), .int a1] q S := by
  refine met_i (by decide +kernel) (Nat.le_of_ble_eq_true rfl) (fun K hl hA hn F hR => ?_)
  subst hl; subst hA
  exact w_X6_latesOf D cI cZ ad K F hn S a1 q hf hR
set_option maxHeartbeats 4000000 in
set_option maxRecDepth 100000 in
theorem w_X6_violationsOf (D : va_G) (cI cZ : ClassId) (ad : Nat → Nat) (K : Ctx) (F : Fx K cX6_violationsOf RX6 (mKf D cI cZ) 6 139) (hn : kn K = 2) (S : MS) (a1 : Int32) (q : Int32 × MS) (hf : f_X6_violationsOf S a1 = some q) (hR : ∀ (pc : Nat) (lv : List (Nat × Value)), decode cX6_violationsOf pc = .ok (.ireturn, 1) → G K (mX D cI cZ (kA K) ad) 0 0 pc q.2 lv [.int q.1]) : G K (mX D cI cZ (kA K) ad) 0 0 0 S [(0, .ref (ad 0)), (1, .int a1)] [] := by
  have hok := mKf_ok D cI cZ (kA K)
  unfold f_X6_violationsOf at hf
  refine g_aload_n 1 0 F dX6_violationsOf_0 rfl rfl ?_
  refine g_iload_n 2 1 F dX6_violationsOf_1 rfl rfl ?_
  obtain ⟨q1, e2, hf⟩ := op_bd hf
  refine g_cVv 5 (st := []) F hok (c_X6_walks (kl K) D cI cZ ad (kA K) S a1 q1 e2) wy_X6_walks ml_X6_205 (m_recv F) ⟨Nat.le_of_ble_eq_true rfl, Nat.le_of_ble_eq_true rfl⟩ rfl rfl (Nat.le_of_ble_eq_true rfl) ⟨Nat.zero_le _, Nat.zero_le _⟩ dX6_violationsOf_2 rfl ?_
  refine g_aload_n 6 0 F dX6_violationsOf_5 rfl rfl ?_
  refine m_get_17 9 F fl_X6_194 dX6_violationsOf_6 rfl ?_
  obtain rfl := Option.some.inj hf
  exact hR _ _ dX6_violationsOf_9
theorem c_X6_violationsOf (l : Launch) (D : va_G) (cI cZ : ClassId) (ad : Nat → Nat) (A : Nat → Prop) (S : MS) (a1 : Int32) (q : Int32 × MS) (hf : f_X6_violationsOf S a1 = some q) : Ci l yX6_violationsOf cX6_violationsOf 2 (some .int) 6 139 (mX D cI cZ A ad) (mKf D cI cZ) A S [.ref (ad 0), .int a1] q.1 q.2 := by
  refine met_i (by decide +kernel) (Nat.le_of_ble_eq_true rfl) (fun K hl hA hn F hR => ?_)
  subst hl; subst hA
  exact w_X6_violationsOf D cI cZ ad K F hn S a1 q hf hR
set_option maxHeartbeats 4000000 in
set_option maxRecDepth 100000 in
theorem w_X6_of (D : va_G) (cI cZ : ClassId) (ad : Nat → Nat) (K : Ctx) (F : Fx K cX6_of RX6 (mKf D cI cZ) 8 182) (hn : kn K = 3) (S : MS) (a1 : Int32) (a2 : Int32) (q : Int32 × MS) (hf : f_X6_of S a1 a2 = some q) (hR : ∀ (pc : Nat) (lv : List (Nat × Value)), decode cX6_of pc = .ok (.ireturn, 1) → G K (mX D cI cZ (kA K) ad) 0 0 pc q.2 lv [.int q.1]) : G K (mX D cI cZ (kA K) ad) 0 0 0 S [(0, .ref (ad 0)), (1, .int a1), (2, .int a2)] [] := by
  have hok := mKf_ok D cI cZ (kA K)
  have J_24 : ∀ (S : MS) (x1 : Int32) (x2 : Int32) (t0 : Int32), j_X6_of_24 S x1 x2 t0 = some q → G K (mX D cI cZ (kA K) ad) 0 0 24 S [(0, .ref (ad 0)), (1, .int x1), (2, .int x2)] [.int t0, .ref (ad 0)] := by
    intro S x1 x2 t0 hf
    unfold j_X6_of_24 at hf
    refine m_put_0 27 F fl_X6_38 dX6_of_24 rfl ?_
    refine g_aload_n 28 0 F dX6_of_27 rfl rfl ?_
    refine m_get_0 31 F fl_X6_38 dX6_of_28 rfl ?_
    refine g_if_le 36 34 F dX6_of_31 rfl rfl hf (fun _ hf => ?_) (fun _ hf => ?_)
    · refine g_iload_n 37 2 F dX6_of_36 rfl rfl ?_
      rcases op_if hf with ⟨c1, hf⟩ | ⟨c1, hf⟩
      · refine g_tab 0 88 F dX6_of_37 c1 (by decide) (by decide) rfl rfl ?_
        refine g_aload_n 89 0 F dX6_of_88 rfl rfl ?_
        refine g_iload_n 90 1 F dX6_of_89 rfl rfl ?_
        refine g_iconst 91 (v := 0) F dX6_of_90 (by decide) rfl ?_
        obtain ⟨q2, e3, hf⟩ := op_bd hf
        refine g_cVi 94 (st := []) F hok (c_X6_its (kl K) D cI cZ ad (kA K) (mS S 0 t0) x1 0 q2 e3) wy_X6_its ml_X6_50 (m_recv F) ⟨Nat.le_of_ble_eq_true rfl, Nat.le_of_ble_eq_true rfl⟩ rfl rfl (Nat.le_of_ble_eq_true rfl) ⟨Nat.zero_le _, Nat.zero_le _⟩ dX6_of_91 rfl ?_
        obtain rfl := Option.some.inj hf
        exact hR _ _ dX6_of_94
      · rcases op_if hf with ⟨c4, hf⟩ | ⟨c4, hf⟩
        · refine g_tab 1 95 F dX6_of_37 c4 (by decide) (by decide) rfl rfl ?_
          refine g_aload_n 96 0 F dX6_of_95 rfl rfl ?_
          refine g_iload_n 97 1 F dX6_of_96 rfl rfl ?_
          obtain ⟨q5, e6, hf⟩ := op_bd hf
          refine g_cVi 100 (st := []) F hok (c_X6_pointsNow (kl K) D cI cZ ad (kA K) (mS S 0 t0) x1 q5 e6) wy_X6_pointsNow ml_X6_208 (m_recv F) ⟨Nat.le_of_ble_eq_true rfl, Nat.le_of_ble_eq_true rfl⟩ rfl rfl (Nat.le_of_ble_eq_true rfl) ⟨Nat.zero_le _, Nat.zero_le _⟩ dX6_of_97 rfl ?_
          obtain rfl := Option.some.inj hf
          exact hR _ _ dX6_of_100
        · rcases op_if hf with ⟨c7, hf⟩ | ⟨c7, hf⟩
          · refine g_tab 2 101 F dX6_of_37 c7 (by decide) (by decide) rfl rfl ?_
            refine g_aload_n 102 0 F dX6_of_101 rfl rfl ?_
            refine g_iload_n 103 1 F dX6_of_102 rfl rfl ?_
            refine g_bipush 105 (v := 7) F dX6_of_103 (by decide) rfl ?_
            obtain ⟨q8, e9, hf⟩ := op_bd hf
            refine g_cVi 108 (st := []) F hok (c_X6_its (kl K) D cI cZ ad (kA K) (mS S 0 t0) x1 7 q8 e9) wy_X6_its ml_X6_50 (m_recv F) ⟨Nat.le_of_ble_eq_true rfl, Nat.le_of_ble_eq_true rfl⟩ rfl rfl (Nat.le_of_ble_eq_true rfl) ⟨Nat.zero_le _, Nat.zero_le _⟩ dX6_of_105 rfl ?_
            obtain rfl := Option.some.inj hf
            exact hR _ _ dX6_of_108
          · rcases op_if hf with ⟨c10, hf⟩ | ⟨c10, hf⟩
            · refine g_tab 3 109 F dX6_of_37 c10 (by decide) (by decide) rfl rfl ?_
              refine g_aload_n 110 0 F dX6_of_109 rfl rfl ?_
              refine g_iload_n 111 1 F dX6_of_110 rfl rfl ?_
              obtain ⟨q11, e12, hf⟩ := op_bd hf
              refine g_cVi 114 (st := []) F hok (c_X6_violationsOf (kl K) D cI cZ ad (kA K) (mS S 0 t0) x1 q11 e12) wy_X6_violationsOf ml_X6_211 (m_recv F) ⟨Nat.le_of_ble_eq_true rfl, Nat.le_of_ble_eq_true rfl⟩ rfl rfl (Nat.le_of_ble_eq_true rfl) ⟨Nat.zero_le _, Nat.zero_le _⟩ dX6_of_111 rfl ?_
              obtain rfl := Option.some.inj hf
              exact hR _ _ dX6_of_114
            · rcases op_if hf with ⟨c13, hf⟩ | ⟨c13, hf⟩
              · refine g_tab 4 115 F dX6_of_37 c13 (by decide) (by decide) rfl rfl ?_
                refine g_aload_n 116 0 F dX6_of_115 rfl rfl ?_
                refine g_iload_n 117 1 F dX6_of_116 rfl rfl ?_
                obtain ⟨q14, e15, hf⟩ := op_bd hf
                refine g_cVi 120 (st := []) F hok (c_X6_latesOf (kl K) D cI cZ ad (kA K) (mS S 0 t0) x1 q14 e15) wy_X6_latesOf ml_X6_214 (m_recv F) ⟨Nat.le_of_ble_eq_true rfl, Nat.le_of_ble_eq_true rfl⟩ rfl rfl (Nat.le_of_ble_eq_true rfl) ⟨Nat.zero_le _, Nat.zero_le _⟩ dX6_of_117 rfl ?_
                obtain rfl := Option.some.inj hf
                exact hR _ _ dX6_of_120
              · rcases op_if hf with ⟨c16, hf⟩ | ⟨c16, hf⟩
                · refine g_tab 5 121 F dX6_of_37 c16 (by decide) (by decide) rfl rfl ?_
                  refine g_aload_n 122 0 F dX6_of_121 rfl rfl ?_
                  refine g_iload_n 123 1 F dX6_of_122 rfl rfl ?_
                  refine g_iconst 124 (v := 2) F dX6_of_123 (by decide) rfl ?_
                  obtain ⟨q17, e18, hf⟩ := op_bd hf
                  refine g_cVi 127 (st := []) F hok (c_X6_its (kl K) D cI cZ ad (kA K) (mS S 0 t0) x1 2 q17 e18) wy_X6_its ml_X6_50 (m_recv F) ⟨Nat.le_of_ble_eq_true rfl, Nat.le_of_ble_eq_true rfl⟩ rfl rfl (Nat.le_of_ble_eq_true rfl) ⟨Nat.zero_le _, Nat.zero_le _⟩ dX6_of_124 rfl ?_
                  obtain rfl := Option.some.inj hf
                  exact hR _ _ dX6_of_127
                · rcases op_if hf with ⟨c19, hf⟩ | ⟨c19, hf⟩
                  · refine g_tab 6 128 F dX6_of_37 c19 (by decide) (by decide) rfl rfl ?_
                    refine g_aload_n 129 0 F dX6_of_128 rfl rfl ?_
                    refine g_iload_n 130 1 F dX6_of_129 rfl rfl ?_
                    refine g_iconst 131 (v := 3) F dX6_of_130 (by decide) rfl ?_
                    obtain ⟨q20, e21, hf⟩ := op_bd hf
                    refine g_cVi 134 (st := []) F hok (c_X6_its (kl K) D cI cZ ad (kA K) (mS S 0 t0) x1 3 q20 e21) wy_X6_its ml_X6_50 (m_recv F) ⟨Nat.le_of_ble_eq_true rfl, Nat.le_of_ble_eq_true rfl⟩ rfl rfl (Nat.le_of_ble_eq_true rfl) ⟨Nat.zero_le _, Nat.zero_le _⟩ dX6_of_131 rfl ?_
                    obtain rfl := Option.some.inj hf
                    exact hR _ _ dX6_of_134
                  · rcases op_if hf with ⟨c22, hf⟩ | ⟨c22, hf⟩
                    · refine g_tab 7 135 F dX6_of_37 c22 (by decide) (by decide) rfl rfl ?_
                      refine g_aload_n 136 0 F dX6_of_135 rfl rfl ?_
                      refine g_iload_n 137 1 F dX6_of_136 rfl rfl ?_
                      refine g_iconst 138 (v := 4) F dX6_of_137 (by decide) rfl ?_
                      obtain ⟨q23, e24, hf⟩ := op_bd hf
                      refine g_cVi 141 (st := []) F hok (c_X6_its (kl K) D cI cZ ad (kA K) (mS S 0 t0) x1 4 q23 e24) wy_X6_its ml_X6_50 (m_recv F) ⟨Nat.le_of_ble_eq_true rfl, Nat.le_of_ble_eq_true rfl⟩ rfl rfl (Nat.le_of_ble_eq_true rfl) ⟨Nat.zero_le _, Nat.zero_le _⟩ dX6_of_138 rfl ?_
                      obtain rfl := Option.some.inj hf
                      exact hR _ _ dX6_of_141
                    · rcases op_if hf with ⟨c25, hf⟩ | ⟨c25, hf⟩
                      · refine g_tab 8 142 F dX6_of_37 c25 (by decide) (by decide) rfl rfl ?_
                        refine g_aload_n 143 0 F dX6_of_142 rfl rfl ?_
                        refine g_iload_n 144 1 F dX6_of_143 rfl rfl ?_
                        obtain ⟨q26, e27, hf⟩ := op_bd hf
                        refine g_cVi 147 (st := []) F hok (c_X6_weightOf (kl K) D cI cZ ad (kA K) (mS S 0 t0) x1 q26 e27) wy_X6_weightOf ml_X6_217 (m_recv F) ⟨Nat.le_of_ble_eq_true rfl, Nat.le_of_ble_eq_true rfl⟩ rfl rfl (Nat.le_of_ble_eq_true rfl) ⟨Nat.zero_le _, Nat.zero_le _⟩ dX6_of_144 rfl ?_
                        obtain rfl := Option.some.inj hf
                        exact hR _ _ dX6_of_147
                      · refine g_tabD 148 F dX6_of_37 (by have := lv_neT c1 (by decide : (0 : Int32).toInt = 0); have := lv_neT c4 (by decide : (1 : Int32).toInt = 1); have := lv_neT c7 (by decide : (2 : Int32).toInt = 2); have := lv_neT c10 (by decide : (3 : Int32).toInt = 3); have := lv_neT c13 (by decide : (4 : Int32).toInt = 4); have := lv_neT c16 (by decide : (5 : Int32).toInt = 5); have := lv_neT c19 (by decide : (6 : Int32).toInt = 6); have := lv_neT c22 (by decide : (7 : Int32).toInt = 7); have := lv_neT c25 (by decide : (8 : Int32).toInt = 8); omega) rfl ?_
                        refine g_aload_n 149 0 F dX6_of_148 rfl rfl ?_
                        refine g_iload_n 150 1 F dX6_of_149 rfl rfl ?_
                        refine g_iconst 151 (v := 1) F dX6_of_150 (by decide) rfl ?_
                        obtain ⟨q28, e29, hf⟩ := op_bd hf
                        refine g_cVi 154 (st := []) F hok (c_X6_its (kl K) D cI cZ ad (kA K) (mS S 0 t0) x1 1 q28 e29) wy_X6_its ml_X6_50 (m_recv F) ⟨Nat.le_of_ble_eq_true rfl, Nat.le_of_ble_eq_true rfl⟩ rfl rfl (Nat.le_of_ble_eq_true rfl) ⟨Nat.zero_le _, Nat.zero_le _⟩ dX6_of_151 rfl ?_
                        obtain rfl := Option.some.inj hf
                        exact hR _ _ dX6_of_154
    · refine g_iconst 35 (v := 0) F dX6_of_34 (by decide) rfl ?_
      obtain rfl := Option.some.inj hf
      exact hR _ _ dX6_of_35
  unfold f_X6_of at hf
  refine g_aload_n 1 0 F dX6_of_0 rfl rfl ?_
  refine g_aload_n 2 0 F dX6_of_1 rfl rfl ?_
  refine g_iload_n 3 1 F dX6_of_2 rfl rfl ?_
  refine g_cVi 6 (st := [.ref (ad 0)]) F hok (c_X6_isAthlete (kl K) D cI cZ ad (kA K) S a1 _ rfl) wy_X6_isAthlete ml_X6_73 (m_recv F) ⟨Nat.le_of_ble_eq_true rfl, Nat.le_of_ble_eq_true rfl⟩ rfl rfl (Nat.le_of_ble_eq_true rfl) ⟨Nat.zero_le _, Nat.zero_le _⟩ dX6_of_3 rfl ?_
  refine g_ifeq_b 23 9 F dX6_of_6 rfl rfl hf (fun _ hf => ?_) (fun _ hf => ?_)
  · refine g_iconst 24 (v := 1) F dX6_of_23 (by decide) rfl ?_
    exact G.lvs [0, 1, 2] rfl (J_24 S a1 a2 1 hf)
  · refine g_iload_n 10 2 F dX6_of_9 rfl rfl ?_
    refine g_iconst 11 (v := 0) F dX6_of_10 (by decide) rfl ?_
    refine g_bipush 13 (v := 9) F dX6_of_11 (by decide) rfl ?_
    refine g_cSi 16 (st := [.ref (ad 0)]) F hok (c_X6_in (kl K) D cI cZ ad (kA K) S a2 0 9 _ rfl) ws_X6_in ml_X6_42 ⟨Nat.le_of_ble_eq_true rfl, Nat.le_of_ble_eq_true rfl⟩ rfl rfl (Nat.le_of_ble_eq_true rfl) ⟨Nat.zero_le _, Nat.zero_le _⟩ dX6_of_13 rfl ?_
    refine g_ifeq_b 23 19 F dX6_of_16 rfl rfl hf (fun _ hf => ?_) (fun _ hf => ?_)
    · refine g_iconst 24 (v := 1) F dX6_of_23 (by decide) rfl ?_
      exact G.lvs [0, 1, 2] rfl (J_24 S a1 a2 1 hf)
    · refine g_iconst 20 (v := 0) F dX6_of_19 (by decide) rfl ?_
      refine g_goto 24 F dX6_of_20 rfl ?_
      exact G.lvs [0, 1, 2] rfl (J_24 S a1 a2 0 hf)
theorem c_X6_of (l : Launch) (D : va_G) (cI cZ : ClassId) (ad : Nat → Nat) (A : Nat → Prop) (S : MS) (a1 : Int32) (a2 : Int32) (q : Int32 × MS) (hf : f_X6_of S a1 a2 = some q) : Ci l yX6_of cX6_of 3 (some .int) 8 182 (mX D cI cZ A ad) (mKf D cI cZ) A S [.ref (ad 0), .int a1, .int a2] q.1 q.2 := by
  refine met_i (by decide +kernel) (Nat.le_of_ble_eq_true rfl) (fun K hl hA hn F hR => ?_)
  subst hl; subst hA
  exact w_X6_of D cI cZ ad K F hn S a1 a2 q hf hR
set_option maxHeartbeats 4000000 in
set_option maxRecDepth 100000 in
theorem w_X6_count (D : va_G) (cI cZ : ClassId) (ad : Nat → Nat) (K : Ctx) (F : Fx K cX6_count RX6 (mKf D cI cZ) 1 22) (hn : kn K = 2) (S : MS) (a1 : Int32) (q : Int32 × MS) (hf : f_X6_count S a1 = some q) (hR : ∀ (pc : Nat) (lv : List (Nat × Value)), decode cX6_count pc = .ok (.ireturn, 1) → G K (mX D cI cZ (kA K) ad) 0 0 pc q.2 lv [.int q.1]) : G K (mX D cI cZ (kA K) ad) 0 0 0 S [(0, .ref (ad 0)), (1, .int a1)] [] := by
  have hok := mKf_ok D cI cZ (kA K)
  unfold f_X6_count at hf
  refine g_aload_n 1 0 F dX6_count_0 rfl rfl ?_
  refine g_iconst 2 (v := 0) F dX6_count_1 (by decide) rfl ?_
  refine m_put_0 5 F fl_X6_38 dX6_count_2 rfl ?_
  refine g_iload_n 6 1 F dX6_count_5 rfl rfl ?_
  refine g_bipush 8 (v := 10) F dX6_count_6 (by decide) rfl ?_
  refine g_bipush 10 (v := 15) F dX6_count_8 (by decide) rfl ?_
  refine g_cSi 13 (st := []) F hok (c_X6_in (kl K) D cI cZ ad (kA K) (mS S 0 0) a1 10 15 _ rfl) ws_X6_in ml_X6_42 ⟨Nat.le_of_ble_eq_true rfl, Nat.le_of_ble_eq_true rfl⟩ rfl rfl (Nat.le_of_ble_eq_true rfl) ⟨Nat.zero_le _, Nat.zero_le _⟩ dX6_count_10 rfl ?_
  refine g_ifeq_b 28 16 F dX6_count_13 rfl rfl hf (fun _ hf => ?_) (fun _ hf => ?_)
  · refine g_iload_n 29 1 F dX6_count_28 rfl rfl ?_
    rcases op_if hf with ⟨c1, hf⟩ | ⟨c1, hf⟩
    · refine g_tab 0 60 F dX6_count_29 c1 (by decide) (by decide) rfl rfl ?_
      refine g_aload_n 61 0 F dX6_count_60 rfl rfl ?_
      refine m_get_1 64 F fl_X6_7 dX6_count_61 rfl ?_
      refine g_iconst 65 (v := 2) F dX6_count_64 (by decide) rfl ?_
      refine m_ldK_1 66 2 F (by decide) (by decide) dX6_count_65 rfl ?_
      obtain rfl := Option.some.inj hf
      exact hR _ _ dX6_count_66
    · rcases op_if hf with ⟨c2, hf⟩ | ⟨c2, hf⟩
      · refine g_tab 1 67 F dX6_count_29 c2 (by decide) (by decide) rfl rfl ?_
        refine g_aload_n 68 0 F dX6_count_67 rfl rfl ?_
        refine m_get_1 71 F fl_X6_7 dX6_count_68 rfl ?_
        refine g_iconst 72 (v := 0) F dX6_count_71 (by decide) rfl ?_
        refine m_ldK_1 73 0 F (by decide) (by decide) dX6_count_72 rfl ?_
        obtain rfl := Option.some.inj hf
        exact hR _ _ dX6_count_73
      · rcases op_if hf with ⟨c3, hf⟩ | ⟨c3, hf⟩
        · refine g_tab 2 74 F dX6_count_29 c3 (by decide) (by decide) rfl rfl ?_
          refine g_aload_n 75 0 F dX6_count_74 rfl rfl ?_
          refine m_get_1 78 F fl_X6_7 dX6_count_75 rfl ?_
          refine g_iconst 79 (v := 1) F dX6_count_78 (by decide) rfl ?_
          refine m_ldK_1 80 1 F (by decide) (by decide) dX6_count_79 rfl ?_
          obtain rfl := Option.some.inj hf
          exact hR _ _ dX6_count_80
        · rcases op_if hf with ⟨c4, hf⟩ | ⟨c4, hf⟩
          · refine g_tab 3 81 F dX6_count_29 c4 (by decide) (by decide) rfl rfl ?_
            refine g_aload_n 82 0 F dX6_count_81 rfl rfl ?_
            refine m_get_6 85 F fl_X6_108 dX6_count_82 rfl ?_
            obtain rfl := Option.some.inj hf
            exact hR _ _ dX6_count_85
          · refine g_tabD 86 F dX6_count_29 (by have := lv_neT c1 (by decide : (0 : Int32).toInt = 0); have := lv_neT c2 (by decide : (1 : Int32).toInt = 1); have := lv_neT c3 (by decide : (2 : Int32).toInt = 2); have := lv_neT c4 (by decide : (3 : Int32).toInt = 3); omega) rfl ?_
            refine g_iconst 87 (v := (-1)) F dX6_count_86 (by decide) rfl ?_
            obtain rfl := Option.some.inj hf
            exact hR _ _ dX6_count_87
  · refine g_aload_n 17 0 F dX6_count_16 rfl rfl ?_
    refine m_get_1 20 F fl_X6_7 dX6_count_17 rfl ?_
    refine g_iconst 21 (v := 3) F dX6_count_20 (by decide) rfl ?_
    refine g_iload_n 22 1 F dX6_count_21 rfl rfl ?_
    refine g_iadd 23 F dX6_count_22 rfl ?_
    refine g_bipush 25 (v := 10) F dX6_count_23 (by decide) rfl ?_
    refine g_isub 26 F dX6_count_25 rfl ?_
    obtain ⟨h5, hf⟩ := op_ok hf
    refine m_ld_1 27 F h5 dX6_count_26 rfl ?_
    obtain rfl := Option.some.inj hf
    exact hR _ _ dX6_count_27
theorem c_X6_count (l : Launch) (D : va_G) (cI cZ : ClassId) (ad : Nat → Nat) (A : Nat → Prop) (S : MS) (a1 : Int32) (q : Int32 × MS) (hf : f_X6_count S a1 = some q) : Ci l yX6_count cX6_count 2 (some .int) 1 22 (mX D cI cZ A ad) (mKf D cI cZ) A S [.ref (ad 0), .int a1] q.1 q.2 := by
  refine met_i (by decide +kernel) (Nat.le_of_ble_eq_true rfl) (fun K hl hA hn F hR => ?_)
  subst hl; subst hA
  exact w_X6_count D cI cZ ad K F hn S a1 q hf hR
set_option maxHeartbeats 4000000 in
set_option maxRecDepth 100000 in
theorem w_X6_isDay (D : va_G) (cI cZ : ClassId) (ad : Nat → Nat) (K : Ctx) (F : Fx K cX6_isDay RX6 (mKf D cI cZ) 1 22) (hn : kn K = 1) (S : MS) (a1 : Int32) (q : Bool) (hf : f_X6_isDay a1 = q) (hR : ∀ (pc : Nat) (lv : List (Nat × Value)), decode cX6_isDay pc = .ok (.ireturn, 1) → G K (mX D cI cZ (kA K) ad) 0 0 pc S lv [.int (bI q)]) : G K (mX D cI cZ (kA K) ad) 0 0 0 S [(0, .int a1)] [] := by
  have hok := mKf_ok D cI cZ (kA K)
  unfold f_X6_isDay at hf
  refine g_iload_n 1 0 F dX6_isDay_0 rfl rfl ?_
  refine g_iconst 2 (v := 0) F dX6_isDay_1 (by decide) rfl ?_
  refine g_sipush 5 (v := 1099) F dX6_isDay_2 (by decide) rfl ?_
  refine g_cSi 8 (st := []) F hok (c_X6_in (kl K) D cI cZ ad (kA K) S a1 0 1099 _ rfl) ws_X6_in ml_X6_42 ⟨Nat.le_of_ble_eq_true rfl, Nat.le_of_ble_eq_true rfl⟩ rfl rfl (Nat.le_of_ble_eq_true rfl) ⟨Nat.zero_le _, Nat.zero_le _⟩ dX6_isDay_5 rfl ?_
  subst hf
  exact hR _ _ dX6_isDay_8
theorem c_X6_isDay (l : Launch) (D : va_G) (cI cZ : ClassId) (ad : Nat → Nat) (A : Nat → Prop) (S : MS) (a1 : Int32) (q : Bool) (hf : f_X6_isDay a1 = q) : Ci l yX6_isDay cX6_isDay 1 (some .boolean) 1 22 (mX D cI cZ A ad) (mKf D cI cZ) A S [.int a1] (bI q) S := by
  refine met_z (by decide +kernel) (Nat.le_of_ble_eq_true rfl) (fun K hl hA hn F hR => ?_)
  subst hl; subst hA
  exact w_X6_isDay D cI cZ ad K F hn S a1 q hf hR
set_option maxHeartbeats 4000000 in
set_option maxRecDepth 100000 in
theorem w_X6_filed (D : va_G) (cI cZ : ClassId) (ad : Nat → Nat) (K : Ctx) (F : Fx K cX6_filed RX6 (mKf D cI cZ) 3 65) (hn : kn K = 4) (S : MS) (a1 : Int32) (a2 : Int32) (a3 : Int32) (q : Int32 × MS) (hf : f_X6_filed S a1 a2 a3 = some q) (hR : ∀ (pc : Nat) (lv : List (Nat × Value)), decode cX6_filed pc = .ok (.ireturn, 1) → G K (mX D cI cZ (kA K) ad) 0 0 pc q.2 lv [.int q.1]) : G K (mX D cI cZ (kA K) ad) 0 0 0 S [(0, .ref (ad 0)), (1, .int a1), (2, .int a2), (3, .int a3)] [] := by
  have hok := mKf_ok D cI cZ (kA K)
  unfold f_X6_filed at hf
  refine g_aload_n 1 0 F dX6_filed_0 rfl rfl ?_
  refine g_iconst 2 (v := 0) F dX6_filed_1 (by decide) rfl ?_
  refine m_put_0 5 F fl_X6_38 dX6_filed_2 rfl ?_
  refine g_aload_n 6 0 F dX6_filed_5 rfl rfl ?_
  refine g_iload_n 7 1 F dX6_filed_6 rfl rfl ?_
  refine g_cVi 10 (st := []) F hok (c_X6_isAthlete (kl K) D cI cZ ad (kA K) (mS S 0 0) a1 _ rfl) wy_X6_isAthlete ml_X6_73 (m_recv F) ⟨Nat.le_of_ble_eq_true rfl, Nat.le_of_ble_eq_true rfl⟩ rfl rfl (Nat.le_of_ble_eq_true rfl) ⟨Nat.zero_le _, Nat.zero_le _⟩ dX6_filed_7 rfl ?_
  refine g_ifeq_b 38 13 F dX6_filed_10 rfl rfl hf (fun _ hf => ?_) (fun _ hf => ?_)
  · refine g_iconst 39 (v := (-1)) F dX6_filed_38 (by decide) rfl ?_
    obtain rfl := Option.some.inj hf
    exact hR _ _ dX6_filed_39
  · refine g_iload_n 14 2 F dX6_filed_13 rfl rfl ?_
    refine g_cSi 17 (st := []) F hok (c_X6_isDay (kl K) D cI cZ ad (kA K) (mS S 0 0) a2 _ rfl) ws_X6_isDay ml_X6_220 ⟨Nat.le_of_ble_eq_true rfl, Nat.le_of_ble_eq_true rfl⟩ rfl rfl (Nat.le_of_ble_eq_true rfl) ⟨Nat.zero_le _, Nat.zero_le _⟩ dX6_filed_14 rfl ?_
    refine g_ifeq_b 38 20 F dX6_filed_17 rfl rfl hf (fun _ hf => ?_) (fun _ hf => ?_)
    · refine g_iconst 39 (v := (-1)) F dX6_filed_38 (by decide) rfl ?_
      obtain rfl := Option.some.inj hf
      exact hR _ _ dX6_filed_39
    · refine g_iload_n 21 3 F dX6_filed_20 rfl rfl ?_
      refine g_iconst 22 (v := 0) F dX6_filed_21 (by decide) rfl ?_
      refine g_iconst 23 (v := 1) F dX6_filed_22 (by decide) rfl ?_
      refine g_cSi 26 (st := []) F hok (c_X6_in (kl K) D cI cZ ad (kA K) (mS S 0 0) a3 0 1 _ rfl) ws_X6_in ml_X6_42 ⟨Nat.le_of_ble_eq_true rfl, Nat.le_of_ble_eq_true rfl⟩ rfl rfl (Nat.le_of_ble_eq_true rfl) ⟨Nat.zero_le _, Nat.zero_le _⟩ dX6_filed_23 rfl ?_
      refine g_ifeq_b 38 29 F dX6_filed_26 rfl rfl hf (fun _ hf => ?_) (fun _ hf => ?_)
      · refine g_iconst 39 (v := (-1)) F dX6_filed_38 (by decide) rfl ?_
        obtain rfl := Option.some.inj hf
        exact hR _ _ dX6_filed_39
      · refine g_aload_n 30 0 F dX6_filed_29 rfl rfl ?_
        refine g_iload_n 31 1 F dX6_filed_30 rfl rfl ?_
        refine g_iload_n 32 2 F dX6_filed_31 rfl rfl ?_
        obtain ⟨q1, e2, hf⟩ := op_bd hf
        refine g_cVi 35 (st := []) F hok (c_X6_isFiled (kl K) D cI cZ ad (kA K) (mS S 0 0) a1 a2 q1 e2) wy_X6_isFiled ml_X6_53 (m_recv F) ⟨Nat.le_of_ble_eq_true rfl, Nat.le_of_ble_eq_true rfl⟩ rfl rfl (Nat.le_of_ble_eq_true rfl) ⟨Nat.zero_le _, Nat.zero_le _⟩ dX6_filed_32 rfl ?_
        refine g_ifne_b 40 38 F dX6_filed_35 rfl rfl hf (fun _ hf => ?_) (fun _ hf => ?_)
        · refine g_iload_n 41 3 F dX6_filed_40 rfl rfl ?_
          refine g_if_ne 53 44 F dX6_filed_41 rfl rfl hf (fun _ hf => ?_) (fun _ hf => ?_)
          · refine g_aload_n 54 0 F dX6_filed_53 rfl rfl ?_
            refine g_iload_n 55 1 F dX6_filed_54 rfl rfl ?_
            refine g_iload_n 56 2 F dX6_filed_55 rfl rfl ?_
            obtain ⟨q3, e4, hf⟩ := op_bd hf
            refine g_cVi 59 (st := []) F hok (c_X6_placeOf (kl K) D cI cZ ad (kA K) (mS S 0 0) a1 a2 q3 e4) wy_X6_placeOf ml_X6_70 (m_recv F) ⟨Nat.le_of_ble_eq_true rfl, Nat.le_of_ble_eq_true rfl⟩ rfl rfl (Nat.le_of_ble_eq_true rfl) ⟨Nat.zero_le _, Nat.zero_le _⟩ dX6_filed_56 rfl ?_
            obtain rfl := Option.some.inj hf
            exact hR _ _ dX6_filed_59
          · refine g_aload_n 45 0 F dX6_filed_44 rfl rfl ?_
            refine g_iload_n 46 1 F dX6_filed_45 rfl rfl ?_
            refine g_iload_n 47 2 F dX6_filed_46 rfl rfl ?_
            obtain ⟨q5, e6, hf⟩ := op_bd hf
            refine g_cVi 50 (st := []) F hok (c_X6_hourOf (kl K) D cI cZ ad (kA K) (mS S 0 0) a1 a2 q5 e6) wy_X6_hourOf ml_X6_63 (m_recv F) ⟨Nat.le_of_ble_eq_true rfl, Nat.le_of_ble_eq_true rfl⟩ rfl rfl (Nat.le_of_ble_eq_true rfl) ⟨Nat.zero_le _, Nat.zero_le _⟩ dX6_filed_47 rfl ?_
            refine g_goto 59 F dX6_filed_50 rfl ?_
            obtain rfl := Option.some.inj hf
            exact hR _ _ dX6_filed_59
        · refine g_iconst 39 (v := (-1)) F dX6_filed_38 (by decide) rfl ?_
          obtain rfl := Option.some.inj hf
          exact hR _ _ dX6_filed_39
theorem c_X6_filed (l : Launch) (D : va_G) (cI cZ : ClassId) (ad : Nat → Nat) (A : Nat → Prop) (S : MS) (a1 : Int32) (a2 : Int32) (a3 : Int32) (q : Int32 × MS) (hf : f_X6_filed S a1 a2 a3 = some q) : Ci l yX6_filed cX6_filed 4 (some .int) 3 65 (mX D cI cZ A ad) (mKf D cI cZ) A S [.ref (ad 0), .int a1, .int a2, .int a3] q.1 q.2 := by
  refine met_i (by decide +kernel) (Nat.le_of_ble_eq_true rfl) (fun K hl hA hn F hR => ?_)
  subst hl; subst hA
  exact w_X6_filed D cI cZ ad K F hn S a1 a2 a3 q hf hR
set_option maxHeartbeats 4000000 in
set_option maxRecDepth 100000 in
theorem w_X6_failure (D : va_G) (cI cZ : ClassId) (ad : Nat → Nat) (K : Ctx) (F : Fx K cX6_failure RX6 (mKf D cI cZ) 6 139) (hn : kn K = 4) (S : MS) (a1 : Int32) (a2 : Int32) (a3 : Int32) (q : Int32 × MS) (hf : f_X6_failure S a1 a2 a3 = some q) (hR : ∀ (pc : Nat) (lv : List (Nat × Value)), decode cX6_failure pc = .ok (.ireturn, 1) → G K (mX D cI cZ (kA K) ad) 0 0 pc q.2 lv [.int q.1]) : G K (mX D cI cZ (kA K) ad) 0 0 0 S [(0, .ref (ad 0)), (1, .int a1), (2, .int a2), (3, .int a3)] [] := by
  have hok := mKf_ok D cI cZ (kA K)
  unfold f_X6_failure at hf
  refine g_aload_n 1 0 F dX6_failure_0 rfl rfl ?_
  refine g_iconst 2 (v := 0) F dX6_failure_1 (by decide) rfl ?_
  refine m_put_0 5 F fl_X6_38 dX6_failure_2 rfl ?_
  refine g_aload_n 6 0 F dX6_failure_5 rfl rfl ?_
  refine g_iload_n 7 1 F dX6_failure_6 rfl rfl ?_
  refine g_iload_n 8 2 F dX6_failure_7 rfl rfl ?_
  obtain ⟨q1, e2, hf⟩ := op_bd hf
  refine g_cVi 11 (st := []) F hok (c_X6_isFailure (kl K) D cI cZ ad (kA K) (mS S 0 0) a1 a2 q1 e2) wy_X6_isFailure ml_X6_102 (m_recv F) ⟨Nat.le_of_ble_eq_true rfl, Nat.le_of_ble_eq_true rfl⟩ rfl rfl (Nat.le_of_ble_eq_true rfl) ⟨Nat.zero_le _, Nat.zero_le _⟩ dX6_failure_8 rfl ?_
  refine g_ifeq_b 23 14 F dX6_failure_11 rfl rfl hf (fun _ hf => ?_) (fun _ hf => ?_)
  · refine g_iconst 24 (v := (-1)) F dX6_failure_23 (by decide) rfl ?_
    obtain rfl := Option.some.inj hf
    exact hR _ _ dX6_failure_24
  · refine g_iload_n 15 3 F dX6_failure_14 rfl rfl ?_
    refine g_iconst 16 (v := 0) F dX6_failure_15 (by decide) rfl ?_
    refine g_iconst 17 (v := 4) F dX6_failure_16 (by decide) rfl ?_
    refine g_cSi 20 (st := []) F hok (c_X6_in (kl K) D cI cZ ad (kA K) (mS S 0 0) a3 0 4 _ rfl) ws_X6_in ml_X6_42 ⟨Nat.le_of_ble_eq_true rfl, Nat.le_of_ble_eq_true rfl⟩ rfl rfl (Nat.le_of_ble_eq_true rfl) ⟨Nat.zero_le _, Nat.zero_le _⟩ dX6_failure_17 rfl ?_
    refine g_ifne_b 25 23 F dX6_failure_20 rfl rfl hf (fun _ hf => ?_) (fun _ hf => ?_)
    · refine g_aload_n 26 0 F dX6_failure_25 rfl rfl ?_
      refine g_iload_n 27 1 F dX6_failure_26 rfl rfl ?_
      obtain ⟨q3, e4, hf⟩ := op_bd hf
      refine g_cVv 30 (st := []) F hok (c_X6_walks (kl K) D cI cZ ad (kA K) (mS S 0 0) a1 q3 e4) wy_X6_walks ml_X6_205 (m_recv F) ⟨Nat.le_of_ble_eq_true rfl, Nat.le_of_ble_eq_true rfl⟩ rfl rfl (Nat.le_of_ble_eq_true rfl) ⟨Nat.zero_le _, Nat.zero_le _⟩ dX6_failure_27 rfl ?_
      refine g_iload_n 31 3 F dX6_failure_30 rfl rfl ?_
      refine g_iconst 32 (v := 3) F dX6_failure_31 (by decide) rfl ?_
      refine g_icmp_ge 55 35 F dX6_failure_32 rfl rfl hf (fun _ hf => ?_) (fun _ hf => ?_)
      · refine g_iload_n 56 3 F dX6_failure_55 rfl rfl ?_
        refine g_iconst 57 (v := 3) F dX6_failure_56 (by decide) rfl ?_
        refine g_icmp_ne 72 60 F dX6_failure_57 rfl rfl hf (fun _ hf => ?_) (fun _ hf => ?_)
        · refine g_aload_n 73 0 F dX6_failure_72 rfl rfl ?_
          refine m_get_15 76 F fl_X6_32 dX6_failure_73 rfl ?_
          refine g_iload_n 77 2 F dX6_failure_76 rfl rfl ?_
          obtain ⟨h5, hf⟩ := op_ok hf
          refine m_ld_15 78 F h5 dX6_failure_77 rfl ?_
          refine g_if_eq 85 81 F dX6_failure_78 rfl rfl hf (fun _ hf => ?_) (fun _ hf => ?_)
          · refine g_iconst 86 (v := 0) F dX6_failure_85 (by decide) rfl ?_
            obtain rfl := Option.some.inj hf
            exact hR _ _ dX6_failure_86
          · refine g_iconst 82 (v := 1) F dX6_failure_81 (by decide) rfl ?_
            refine g_goto 86 F dX6_failure_82 rfl ?_
            obtain rfl := Option.some.inj hf
            exact hR _ _ dX6_failure_86
        · refine g_aload_n 61 0 F dX6_failure_60 rfl rfl ?_
          refine m_get_14 64 F fl_X6_28 dX6_failure_61 rfl ?_
          refine g_iload_n 65 2 F dX6_failure_64 rfl rfl ?_
          obtain ⟨h6, hf⟩ := op_ok hf
          refine m_ld_14 66 F h6 dX6_failure_65 rfl ?_
          refine g_if_eq 85 69 F dX6_failure_66 rfl rfl hf (fun _ hf => ?_) (fun _ hf => ?_)
          · refine g_iconst 86 (v := 0) F dX6_failure_85 (by decide) rfl ?_
            obtain rfl := Option.some.inj hf
            exact hR _ _ dX6_failure_86
          · refine g_goto 81 F dX6_failure_69 rfl ?_
            refine g_iconst 82 (v := 1) F dX6_failure_81 (by decide) rfl ?_
            refine g_goto 86 F dX6_failure_82 rfl ?_
            obtain rfl := Option.some.inj hf
            exact hR _ _ dX6_failure_86
      · refine g_aload_n 36 0 F dX6_failure_35 rfl rfl ?_
        refine m_get_1 39 F fl_X6_7 dX6_failure_36 rfl ?_
        refine g_iload_n 40 1 F dX6_failure_39 rfl rfl ?_
        refine g_bipush 42 (v := 8) F dX6_failure_40 (by decide) rfl ?_
        refine g_iconst 43 (v := 3) F dX6_failure_42 (by decide) rfl ?_
        refine g_iload_n 44 2 F dX6_failure_43 rfl rfl ?_
        refine g_imul 45 F dX6_failure_44 rfl ?_
        refine g_iadd 46 F dX6_failure_45 rfl ?_
        refine g_iload_n 47 3 F dX6_failure_46 rfl rfl ?_
        refine g_iadd 48 F dX6_failure_47 rfl ?_
        refine g_cSi 51 (st := [.ref (ad 1)]) F hok (c_X6_cell (kl K) D cI cZ ad (kA K) q3 a1 ((8 + (3 * a2)) + a3) _ rfl) ws_X6_cell ml_X6_46 ⟨Nat.le_of_ble_eq_true rfl, Nat.le_of_ble_eq_true rfl⟩ rfl rfl (Nat.le_of_ble_eq_true rfl) ⟨Nat.zero_le _, Nat.zero_le _⟩ dX6_failure_48 rfl ?_
        obtain ⟨h7, hf⟩ := op_ok hf
        refine m_ld_1 52 F h7 dX6_failure_51 rfl ?_
        refine g_goto 86 F dX6_failure_52 rfl ?_
        obtain rfl := Option.some.inj hf
        exact hR _ _ dX6_failure_86
    · refine g_iconst 24 (v := (-1)) F dX6_failure_23 (by decide) rfl ?_
      obtain rfl := Option.some.inj hf
      exact hR _ _ dX6_failure_24
theorem c_X6_failure (l : Launch) (D : va_G) (cI cZ : ClassId) (ad : Nat → Nat) (A : Nat → Prop) (S : MS) (a1 : Int32) (a2 : Int32) (a3 : Int32) (q : Int32 × MS) (hf : f_X6_failure S a1 a2 a3 = some q) : Ci l yX6_failure cX6_failure 4 (some .int) 6 139 (mX D cI cZ A ad) (mKf D cI cZ) A S [.ref (ad 0), .int a1, .int a2, .int a3] q.1 q.2 := by
  refine met_i (by decide +kernel) (Nat.le_of_ble_eq_true rfl) (fun K hl hA hn F hR => ?_)
  subst hl; subst hA
  exact w_X6_failure D cI cZ ad K F hn S a1 a2 a3 q hf hR
set_option maxHeartbeats 4000000 in
set_option maxRecDepth 100000 in
theorem w_X6_violation (D : va_G) (cI cZ : ClassId) (ad : Nat → Nat) (K : Ctx) (F : Fx K cX6_violation RX6 (mKf D cI cZ) 6 139) (hn : kn K = 3) (S : MS) (a1 : Int32) (a2 : Int32) (q : Int32 × MS) (hf : f_X6_violation S a1 a2 = some q) (hR : ∀ (pc : Nat) (lv : List (Nat × Value)), decode cX6_violation pc = .ok (.ireturn, 1) → G K (mX D cI cZ (kA K) ad) 0 0 pc q.2 lv [.int q.1]) : G K (mX D cI cZ (kA K) ad) 0 0 0 S [(0, .ref (ad 0)), (1, .int a1), (2, .int a2)] [] := by
  have hok := mKf_ok D cI cZ (kA K)
  unfold f_X6_violation at hf
  refine g_aload_n 1 0 F dX6_violation_0 rfl rfl ?_
  refine g_iconst 2 (v := 0) F dX6_violation_1 (by decide) rfl ?_
  refine m_put_0 5 F fl_X6_38 dX6_violation_2 rfl ?_
  refine g_aload_n 6 0 F dX6_violation_5 rfl rfl ?_
  refine g_iload_n 7 1 F dX6_violation_6 rfl rfl ?_
  refine g_cVi 10 (st := []) F hok (c_X6_isAthlete (kl K) D cI cZ ad (kA K) (mS S 0 0) a1 _ rfl) wy_X6_isAthlete ml_X6_73 (m_recv F) ⟨Nat.le_of_ble_eq_true rfl, Nat.le_of_ble_eq_true rfl⟩ rfl rfl (Nat.le_of_ble_eq_true rfl) ⟨Nat.zero_le _, Nat.zero_le _⟩ dX6_violation_7 rfl ?_
  refine g_ifne_b 15 13 F dX6_violation_10 rfl rfl hf (fun _ hf => ?_) (fun _ hf => ?_)
  · refine g_aload_n 16 0 F dX6_violation_15 rfl rfl ?_
    refine g_iload_n 17 1 F dX6_violation_16 rfl rfl ?_
    obtain ⟨q1, e2, hf⟩ := op_bd hf
    refine g_cVv 20 (st := []) F hok (c_X6_walks (kl K) D cI cZ ad (kA K) (mS S 0 0) a1 q1 e2) wy_X6_walks ml_X6_205 (m_recv F) ⟨Nat.le_of_ble_eq_true rfl, Nat.le_of_ble_eq_true rfl⟩ rfl rfl (Nat.le_of_ble_eq_true rfl) ⟨Nat.zero_le _, Nat.zero_le _⟩ dX6_violation_17 rfl ?_
    refine g_iload_n 21 2 F dX6_violation_20 rfl rfl ?_
    refine g_iconst 22 (v := 0) F dX6_violation_21 (by decide) rfl ?_
    refine g_aload_n 23 0 F dX6_violation_22 rfl rfl ?_
    refine m_get_17 26 F fl_X6_194 dX6_violation_23 rfl ?_
    refine g_iconst 27 (v := 1) F dX6_violation_26 (by decide) rfl ?_
    refine g_isub 28 F dX6_violation_27 rfl ?_
    refine g_cSi 31 (st := []) F hok (c_X6_in (kl K) D cI cZ ad (kA K) q1 a2 0 ((q1.1 17) - 1) _ rfl) ws_X6_in ml_X6_42 ⟨Nat.le_of_ble_eq_true rfl, Nat.le_of_ble_eq_true rfl⟩ rfl rfl (Nat.le_of_ble_eq_true rfl) ⟨Nat.zero_le _, Nat.zero_le _⟩ dX6_violation_28 rfl ?_
    refine g_ifeq_b 43 34 F dX6_violation_31 rfl rfl hf (fun _ hf => ?_) (fun _ hf => ?_)
    · refine g_iconst 44 (v := (-1)) F dX6_violation_43 (by decide) rfl ?_
      obtain rfl := Option.some.inj hf
      exact hR _ _ dX6_violation_44
    · refine g_aload_n 35 0 F dX6_violation_34 rfl rfl ?_
      refine m_get_16 38 F fl_X6_35 dX6_violation_35 rfl ?_
      refine g_iload_n 39 2 F dX6_violation_38 rfl rfl ?_
      obtain ⟨h3, hf⟩ := op_ok hf
      refine m_ld_16 40 F h3 dX6_violation_39 rfl ?_
      refine g_goto 44 F dX6_violation_40 rfl ?_
      obtain rfl := Option.some.inj hf
      exact hR _ _ dX6_violation_44
  · refine g_iconst 14 (v := (-1)) F dX6_violation_13 (by decide) rfl ?_
    obtain rfl := Option.some.inj hf
    exact hR _ _ dX6_violation_14
theorem c_X6_violation (l : Launch) (D : va_G) (cI cZ : ClassId) (ad : Nat → Nat) (A : Nat → Prop) (S : MS) (a1 : Int32) (a2 : Int32) (q : Int32 × MS) (hf : f_X6_violation S a1 a2 = some q) : Ci l yX6_violation cX6_violation 3 (some .int) 6 139 (mX D cI cZ A ad) (mKf D cI cZ) A S [.ref (ad 0), .int a1, .int a2] q.1 q.2 := by
  refine met_i (by decide +kernel) (Nat.le_of_ble_eq_true rfl) (fun K hl hA hn F hR => ?_)
  subst hl; subst hA
  exact w_X6_violation D cI cZ ad K F hn S a1 a2 q hf hR
set_option maxHeartbeats 4000000 in
set_option maxRecDepth 100000 in
theorem w_X6_hole (D : va_G) (cI cZ : ClassId) (ad : Nat → Nat) (K : Ctx) (F : Fx K cX6_hole RX6 (mKf D cI cZ) 4 88) (hn : kn K = 3) (S : MS) (a1 : Int32) (a2 : Int32) (q : Int32 × MS) (hf : f_X6_hole S a1 a2 = some q) (hR : ∀ (pc : Nat) (lv : List (Nat × Value)), decode cX6_hole pc = .ok (.ireturn, 1) → G K (mX D cI cZ (kA K) ad) 0 0 pc q.2 lv [.int q.1]) : G K (mX D cI cZ (kA K) ad) 0 0 0 S [(0, .ref (ad 0)), (1, .int a1), (2, .int a2)] [] := by
  have hok := mKf_ok D cI cZ (kA K)
  unfold f_X6_hole at hf
  refine g_aload_n 1 0 F dX6_hole_0 rfl rfl ?_
  refine g_iconst 2 (v := 0) F dX6_hole_1 (by decide) rfl ?_
  refine m_put_0 5 F fl_X6_38 dX6_hole_2 rfl ?_
  refine g_aload_n 6 0 F dX6_hole_5 rfl rfl ?_
  refine g_iload_n 7 1 F dX6_hole_6 rfl rfl ?_
  refine g_cVi 10 (st := []) F hok (c_X6_isAthlete (kl K) D cI cZ ad (kA K) (mS S 0 0) a1 _ rfl) wy_X6_isAthlete ml_X6_73 (m_recv F) ⟨Nat.le_of_ble_eq_true rfl, Nat.le_of_ble_eq_true rfl⟩ rfl rfl (Nat.le_of_ble_eq_true rfl) ⟨Nat.zero_le _, Nat.zero_le _⟩ dX6_hole_7 rfl ?_
  refine g_ifeq_b 32 13 F dX6_hole_10 rfl rfl hf (fun _ hf => ?_) (fun _ hf => ?_)
  · refine g_iconst 33 (v := (-1)) F dX6_hole_32 (by decide) rfl ?_
    obtain rfl := Option.some.inj hf
    exact hR _ _ dX6_hole_33
  · refine g_iload_n 14 2 F dX6_hole_13 rfl rfl ?_
    refine g_iconst 15 (v := 0) F dX6_hole_14 (by decide) rfl ?_
    refine g_bipush 17 (v := 35) F dX6_hole_15 (by decide) rfl ?_
    refine g_cSi 20 (st := []) F hok (c_X6_in (kl K) D cI cZ ad (kA K) (mS S 0 0) a2 0 35 _ rfl) ws_X6_in ml_X6_42 ⟨Nat.le_of_ble_eq_true rfl, Nat.le_of_ble_eq_true rfl⟩ rfl rfl (Nat.le_of_ble_eq_true rfl) ⟨Nat.zero_le _, Nat.zero_le _⟩ dX6_hole_17 rfl ?_
    refine g_ifeq_b 32 23 F dX6_hole_20 rfl rfl hf (fun _ hf => ?_) (fun _ hf => ?_)
    · refine g_iconst 33 (v := (-1)) F dX6_hole_32 (by decide) rfl ?_
      obtain rfl := Option.some.inj hf
      exact hR _ _ dX6_hole_33
    · refine g_aload_n 24 0 F dX6_hole_23 rfl rfl ?_
      refine g_iload_n 25 1 F dX6_hole_24 rfl rfl ?_
      refine g_iload_n 26 2 F dX6_hole_25 rfl rfl ?_
      obtain ⟨q1, e2, hf⟩ := op_bd hf
      refine g_cVi 29 (st := []) F hok (c_X6_holeOf (kl K) D cI cZ ad (kA K) (mS S 0 0) a1 a2 q1 e2) wy_X6_holeOf ml_X6_57 (m_recv F) ⟨Nat.le_of_ble_eq_true rfl, Nat.le_of_ble_eq_true rfl⟩ rfl rfl (Nat.le_of_ble_eq_true rfl) ⟨Nat.zero_le _, Nat.zero_le _⟩ dX6_hole_26 rfl ?_
      refine g_goto 33 F dX6_hole_29 rfl ?_
      obtain rfl := Option.some.inj hf
      exact hR _ _ dX6_hole_33
theorem c_X6_hole (l : Launch) (D : va_G) (cI cZ : ClassId) (ad : Nat → Nat) (A : Nat → Prop) (S : MS) (a1 : Int32) (a2 : Int32) (q : Int32 × MS) (hf : f_X6_hole S a1 a2 = some q) : Ci l yX6_hole cX6_hole 3 (some .int) 4 88 (mX D cI cZ A ad) (mKf D cI cZ) A S [.ref (ad 0), .int a1, .int a2] q.1 q.2 := by
  refine met_i (by decide +kernel) (Nat.le_of_ble_eq_true rfl) (fun K hl hA hn F hR => ?_)
  subst hl; subst hA
  exact w_X6_hole D cI cZ ad K F hn S a1 a2 q hf hR
