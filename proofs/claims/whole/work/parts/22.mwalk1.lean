set_option maxHeartbeats 4000000 in
set_option maxRecDepth 100000 in
theorem w_X6_at (D : va_G) (cI cZ : ClassId) (ad : Nat → Nat) (K : Ctx) (F : Fx K cX6_at RX6 (mKf D cI cZ) 5 113) (hn : kn K = 3) (S : MS) (a1 : Int32) (a2 : Int32) (q : Int32 × MS) (hf : f_X6_at S a1 a2 = some q) (hR : ∀ (pc : Nat) (lv : List (Nat × Value)), decode cX6_at pc = .ok (.ireturn, 1) → G K (mX D cI cZ (kA K) ad) 0 0 pc q.2 lv [.int q.1]) : G K (mX D cI cZ (kA K) ad) 0 0 0 S [(0, .ref (ad 0)), (1, .int a1), (2, .int a2)] [] := by
  have hok := mKf_ok D cI cZ (kA K)
  unfold f_X6_at at hf
  refine g_aload_n 1 0 F dX6_at_0 rfl rfl ?_
  refine g_iconst 2 (v := 0) F dX6_at_1 (by decide) rfl ?_
  refine m_put_0 5 F fl_X6_38 dX6_at_2 rfl ?_
  refine g_iload_n 6 1 F dX6_at_5 rfl rfl ?_
  refine g_iconst 7 (v := 0) F dX6_at_6 (by decide) rfl ?_
  refine g_sipush 10 (v := 999) F dX6_at_7 (by decide) rfl ?_
  refine g_cSi 13 (st := []) F hok (c_X6_in (kl K) D cI cZ ad (kA K) (mS S 0 0) a1 0 999 _ rfl) ws_X6_in ml_X6_42 ⟨Nat.le_of_ble_eq_true rfl, Nat.le_of_ble_eq_true rfl⟩ rfl rfl (Nat.le_of_ble_eq_true rfl) ⟨Nat.zero_le _, Nat.zero_le _⟩ dX6_at_10 rfl ?_
  refine g_ifeq_b 44 16 F dX6_at_13 rfl rfl hf (fun _ hf => ?_) (fun _ hf => ?_)
  · refine g_iconst 45 (v := (-1)) F dX6_at_44 (by decide) rfl ?_
    obtain rfl := Option.some.inj hf
    exact hR _ _ dX6_at_45
  · refine g_iload_n 17 2 F dX6_at_16 rfl rfl ?_
    refine g_iconst 18 (v := 0) F dX6_at_17 (by decide) rfl ?_
    refine g_bipush 20 (v := 23) F dX6_at_18 (by decide) rfl ?_
    refine g_cSi 23 (st := []) F hok (c_X6_in (kl K) D cI cZ ad (kA K) (mS S 0 0) a2 0 23 _ rfl) ws_X6_in ml_X6_42 ⟨Nat.le_of_ble_eq_true rfl, Nat.le_of_ble_eq_true rfl⟩ rfl rfl (Nat.le_of_ble_eq_true rfl) ⟨Nat.zero_le _, Nat.zero_le _⟩ dX6_at_20 rfl ?_
    refine g_ifeq_b 44 26 F dX6_at_23 rfl rfl hf (fun _ hf => ?_) (fun _ hf => ?_)
    · refine g_iconst 45 (v := (-1)) F dX6_at_44 (by decide) rfl ?_
      obtain rfl := Option.some.inj hf
      exact hR _ _ dX6_at_45
    · refine g_aload_n 27 0 F dX6_at_26 rfl rfl ?_
      refine g_iload_n 28 1 F dX6_at_27 rfl rfl ?_
      refine g_iload_n 29 2 F dX6_at_28 rfl rfl ?_
      refine g_cVi 32 (st := []) F hok (c_X6_isBehind (kl K) D cI cZ ad (kA K) (mS S 0 0) a1 a2 _ rfl) wy_X6_isBehind ml_X6_81 (m_recv F) ⟨Nat.le_of_ble_eq_true rfl, Nat.le_of_ble_eq_true rfl⟩ rfl rfl (Nat.le_of_ble_eq_true rfl) ⟨Nat.zero_le _, Nat.zero_le _⟩ dX6_at_29 rfl ?_
      refine g_ifeq_b 44 35 F dX6_at_32 rfl rfl hf (fun _ hf => ?_) (fun _ hf => ?_)
      · refine g_iconst 45 (v := (-1)) F dX6_at_44 (by decide) rfl ?_
        obtain rfl := Option.some.inj hf
        exact hR _ _ dX6_at_45
      · refine g_aload_n 36 0 F dX6_at_35 rfl rfl ?_
        refine g_iload_n 37 1 F dX6_at_36 rfl rfl ?_
        refine g_iload_n 38 2 F dX6_at_37 rfl rfl ?_
        obtain ⟨q1, e2, hf⟩ := op_bd hf
        refine g_cVi 41 (st := []) F hok (c_X6_goesOn (kl K) D cI cZ ad (kA K) (mS S 0 0) a1 a2 q1 e2) wy_X6_goesOn ml_X6_84 (m_recv F) ⟨Nat.le_of_ble_eq_true rfl, Nat.le_of_ble_eq_true rfl⟩ rfl rfl (Nat.le_of_ble_eq_true rfl) ⟨Nat.zero_le _, Nat.zero_le _⟩ dX6_at_38 rfl ?_
        refine g_goto 45 F dX6_at_41 rfl ?_
        obtain rfl := Option.some.inj hf
        exact hR _ _ dX6_at_45
theorem c_X6_at (l : Launch) (D : va_G) (cI cZ : ClassId) (ad : Nat → Nat) (A : Nat → Prop) (S : MS) (a1 : Int32) (a2 : Int32) (q : Int32 × MS) (hf : f_X6_at S a1 a2 = some q) : Ci l yX6_at cX6_at 3 (some .int) 5 113 (mX D cI cZ A ad) (mKf D cI cZ) A S [.ref (ad 0), .int a1, .int a2] q.1 q.2 := by
  refine met_i (by decide +kernel) (Nat.le_of_ble_eq_true rfl) (fun K hl hA hn F hR => ?_)
  subst hl; subst hA
  exact w_X6_at D cI cZ ad K F hn S a1 a2 q hf hR
set_option maxHeartbeats 4000000 in
set_option maxRecDepth 100000 in
theorem w_X6_canFile (D : va_G) (cI cZ : ClassId) (ad : Nat → Nat) (K : Ctx) (F : Fx K cX6_canFile RX6 (mKf D cI cZ) 1 22) (hn : kn K = 4) (S : MS) (a1 : Int32) (a2 : Int32) (a3 : Int32) (a4 : Int32) (q : Bool) (hf : f_X6_canFile a1 a2 a3 a4 = q) (hR : ∀ (pc : Nat) (lv : List (Nat × Value)), decode cX6_canFile pc = .ok (.ireturn, 1) → G K (mX D cI cZ (kA K) ad) 0 0 pc S lv [.int (bI q)]) : G K (mX D cI cZ (kA K) ad) 0 0 0 S [(0, .int a1), (1, .int a2), (2, .int a3), (3, .int a4)] [] := by
  have hok := mKf_ok D cI cZ (kA K)
  unfold f_X6_canFile at hf
  refine g_iload_n 1 0 F dX6_canFile_0 rfl rfl ?_
  refine g_if_lt 48 4 F dX6_canFile_1 rfl rfl hf (fun _ hf => ?_) (fun _ hf => ?_)
  · refine g_iconst 49 (v := 0) F dX6_canFile_48 (by decide) rfl ?_
    subst hf
    exact hR _ _ dX6_canFile_49
  · refine g_iload_n 5 1 F dX6_canFile_4 rfl rfl ?_
    refine g_sipush 8 (v := 1100) F dX6_canFile_5 (by decide) rfl ?_
    refine g_icmp_ge 48 11 F dX6_canFile_8 rfl rfl hf (fun _ hf => ?_) (fun _ hf => ?_)
    · refine g_iconst 49 (v := 0) F dX6_canFile_48 (by decide) rfl ?_
      subst hf
      exact hR _ _ dX6_canFile_49
    · refine g_iload_n 12 1 F dX6_canFile_11 rfl rfl ?_
      refine g_iload_n 13 0 F dX6_canFile_12 rfl rfl ?_
      refine g_icmp_lt 48 16 F dX6_canFile_13 rfl rfl hf (fun _ hf => ?_) (fun _ hf => ?_)
      · refine g_iconst 49 (v := 0) F dX6_canFile_48 (by decide) rfl ?_
        subst hf
        exact hR _ _ dX6_canFile_49
      · refine g_iload_n 17 1 F dX6_canFile_16 rfl rfl ?_
        refine g_iload_n 18 0 F dX6_canFile_17 rfl rfl ?_
        refine g_isub 19 F dX6_canFile_18 rfl ?_
        refine g_bipush 21 (v := 60) F dX6_canFile_19 (by decide) rfl ?_
        refine g_icmp_ge 48 24 F dX6_canFile_21 rfl rfl hf (fun _ hf => ?_) (fun _ hf => ?_)
        · refine g_iconst 49 (v := 0) F dX6_canFile_48 (by decide) rfl ?_
          subst hf
          exact hR _ _ dX6_canFile_49
        · refine g_iload_n 25 2 F dX6_canFile_24 rfl rfl ?_
          refine g_iconst 26 (v := 5) F dX6_canFile_25 (by decide) rfl ?_
          refine g_bipush 28 (v := 22) F dX6_canFile_26 (by decide) rfl ?_
          refine g_cSi 31 (st := []) F hok (c_X6_in (kl K) D cI cZ ad (kA K) S a3 5 22 _ rfl) ws_X6_in ml_X6_42 ⟨Nat.le_of_ble_eq_true rfl, Nat.le_of_ble_eq_true rfl⟩ rfl rfl (Nat.le_of_ble_eq_true rfl) ⟨Nat.zero_le _, Nat.zero_le _⟩ dX6_canFile_28 rfl ?_
          refine g_ifeq_b 48 34 F dX6_canFile_31 rfl rfl hf (fun _ hf => ?_) (fun _ hf => ?_)
          · refine g_iconst 49 (v := 0) F dX6_canFile_48 (by decide) rfl ?_
            subst hf
            exact hR _ _ dX6_canFile_49
          · refine g_iload_n 35 3 F dX6_canFile_34 rfl rfl ?_
            refine g_iconst 36 (v := 0) F dX6_canFile_35 (by decide) rfl ?_
            refine g_bipush 38 (v := 9) F dX6_canFile_36 (by decide) rfl ?_
            refine g_cSi 41 (st := []) F hok (c_X6_in (kl K) D cI cZ ad (kA K) S a4 0 9 _ rfl) ws_X6_in ml_X6_42 ⟨Nat.le_of_ble_eq_true rfl, Nat.le_of_ble_eq_true rfl⟩ rfl rfl (Nat.le_of_ble_eq_true rfl) ⟨Nat.zero_le _, Nat.zero_le _⟩ dX6_canFile_38 rfl ?_
            refine g_ifeq_b 48 44 F dX6_canFile_41 rfl rfl hf (fun _ hf => ?_) (fun _ hf => ?_)
            · refine g_iconst 49 (v := 0) F dX6_canFile_48 (by decide) rfl ?_
              subst hf
              exact hR _ _ dX6_canFile_49
            · refine g_iconst 45 (v := 1) F dX6_canFile_44 (by decide) rfl ?_
              refine g_goto 49 F dX6_canFile_45 rfl ?_
              subst hf
              exact hR _ _ dX6_canFile_49
theorem c_X6_canFile (l : Launch) (D : va_G) (cI cZ : ClassId) (ad : Nat → Nat) (A : Nat → Prop) (S : MS) (a1 : Int32) (a2 : Int32) (a3 : Int32) (a4 : Int32) (q : Bool) (hf : f_X6_canFile a1 a2 a3 a4 = q) : Ci l yX6_canFile cX6_canFile 4 (some .boolean) 1 22 (mX D cI cZ A ad) (mKf D cI cZ) A S [.int a1, .int a2, .int a3, .int a4] (bI q) S := by
  refine met_z (by decide +kernel) (Nat.le_of_ble_eq_true rfl) (fun K hl hA hn F hR => ?_)
  subst hl; subst hA
  exact w_X6_canFile D cI cZ ad K F hn S a1 a2 a3 a4 q hf hR
set_option maxHeartbeats 4000000 in
set_option maxRecDepth 100000 in
theorem w_X6_file (D : va_G) (cI cZ : ClassId) (ad : Nat → Nat) (K : Ctx) (F : Fx K cX6_file RX6 (mKf D cI cZ) 5 119) (hn : kn K = 6) (S : MS) (a1 : Int32) (a2 : Int32) (a3 : Int32) (a4 : Int32) (a5 : Int32) (q : Int32 × MS) (hf : f_X6_file S a1 a2 a3 a4 a5 = some q) (hR : ∀ (pc : Nat) (lv : List (Nat × Value)), decode cX6_file pc = .ok (.ireturn, 1) → G K (mX D cI cZ (kA K) ad) 0 0 pc q.2 lv [.int q.1]) : G K (mX D cI cZ (kA K) ad) 0 0 0 S [(0, .ref (ad 0)), (1, .int a1), (2, .int a2), (3, .int a3), (4, .int a4), (5, .int a5)] [] := by
  have hok := mKf_ok D cI cZ (kA K)
  unfold f_X6_file at hf
  refine g_aload_n 1 0 F dX6_file_0 rfl rfl ?_
  refine g_iconst 2 (v := 0) F dX6_file_1 (by decide) rfl ?_
  refine m_put_0 5 F fl_X6_38 dX6_file_2 rfl ?_
  refine g_aload_n 6 0 F dX6_file_5 rfl rfl ?_
  refine g_iload_n 7 1 F dX6_file_6 rfl rfl ?_
  refine g_cVi 10 (st := []) F hok (c_X6_isAthlete (kl K) D cI cZ ad (kA K) (mS S 0 0) a1 _ rfl) wy_X6_isAthlete ml_X6_73 (m_recv F) ⟨Nat.le_of_ble_eq_true rfl, Nat.le_of_ble_eq_true rfl⟩ rfl rfl (Nat.le_of_ble_eq_true rfl) ⟨Nat.zero_le _, Nat.zero_le _⟩ dX6_file_7 rfl ?_
  refine g_ifeq_b 50 13 F dX6_file_10 rfl rfl hf (fun _ hf => ?_) (fun _ hf => ?_)
  · refine g_iconst 51 (v := (-1)) F dX6_file_50 (by decide) rfl ?_
    obtain rfl := Option.some.inj hf
    exact hR _ _ dX6_file_51
  · refine g_iload_n 14 2 F dX6_file_13 rfl rfl ?_
    refine g_iload_n 15 3 F dX6_file_14 rfl rfl ?_
    refine g_iload 17 4 F dX6_file_15 rfl rfl ?_
    refine g_iload 19 5 F dX6_file_17 rfl rfl ?_
    refine g_cSi 22 (st := []) F hok (c_X6_canFile (kl K) D cI cZ ad (kA K) (mS S 0 0) a2 a3 a4 a5 _ rfl) ws_X6_canFile ml_X6_87 ⟨Nat.le_of_ble_eq_true rfl, Nat.le_of_ble_eq_true rfl⟩ rfl rfl (Nat.le_of_ble_eq_true rfl) ⟨Nat.zero_le _, Nat.zero_le _⟩ dX6_file_19 rfl ?_
    refine g_ifeq_b 50 25 F dX6_file_22 rfl rfl hf (fun _ hf => ?_) (fun _ hf => ?_)
    · refine g_iconst 51 (v := (-1)) F dX6_file_50 (by decide) rfl ?_
      obtain rfl := Option.some.inj hf
      exact hR _ _ dX6_file_51
    · refine g_aload_n 26 0 F dX6_file_25 rfl rfl ?_
      refine g_iload_n 27 1 F dX6_file_26 rfl rfl ?_
      refine g_iload_n 28 2 F dX6_file_27 rfl rfl ?_
      refine g_iload 30 4 F dX6_file_28 rfl rfl ?_
      obtain ⟨q1, e2, hf⟩ := op_bd hf
      refine g_cVi 33 (st := []) F hok (c_X6_mayFile (kl K) D cI cZ ad (kA K) (mS S 0 0) a1 a2 a4 q1 e2) wy_X6_mayFile ml_X6_91 (m_recv F) ⟨Nat.le_of_ble_eq_true rfl, Nat.le_of_ble_eq_true rfl⟩ rfl rfl (Nat.le_of_ble_eq_true rfl) ⟨Nat.zero_le _, Nat.zero_le _⟩ dX6_file_30 rfl ?_
      refine g_ifeq_b 50 36 F dX6_file_33 rfl rfl hf (fun _ hf => ?_) (fun _ hf => ?_)
      · refine g_iconst 51 (v := (-1)) F dX6_file_50 (by decide) rfl ?_
        obtain rfl := Option.some.inj hf
        exact hR _ _ dX6_file_51
      · refine g_aload_n 37 0 F dX6_file_36 rfl rfl ?_
        refine g_iload_n 38 1 F dX6_file_37 rfl rfl ?_
        refine g_iload_n 39 2 F dX6_file_38 rfl rfl ?_
        refine g_iload_n 40 3 F dX6_file_39 rfl rfl ?_
        refine g_iload 42 4 F dX6_file_40 rfl rfl ?_
        refine g_iload 44 5 F dX6_file_42 rfl rfl ?_
        obtain ⟨q3, e4, hf⟩ := op_bd hf
        refine g_cVi 47 (st := []) F hok (c_X6_files (kl K) D cI cZ ad (kA K) (mS S 0 0) a1 a2 a3 a4 a5 q3 e4) wy_X6_files ml_X6_94 (m_recv F) ⟨Nat.le_of_ble_eq_true rfl, Nat.le_of_ble_eq_true rfl⟩ rfl rfl (Nat.le_of_ble_eq_true rfl) ⟨Nat.zero_le _, Nat.zero_le _⟩ dX6_file_44 rfl ?_
        refine g_goto 51 F dX6_file_47 rfl ?_
        obtain rfl := Option.some.inj hf
        exact hR _ _ dX6_file_51
theorem c_X6_file (l : Launch) (D : va_G) (cI cZ : ClassId) (ad : Nat → Nat) (A : Nat → Prop) (S : MS) (a1 : Int32) (a2 : Int32) (a3 : Int32) (a4 : Int32) (a5 : Int32) (q : Int32 × MS) (hf : f_X6_file S a1 a2 a3 a4 a5 = some q) : Ci l yX6_file cX6_file 6 (some .int) 5 119 (mX D cI cZ A ad) (mKf D cI cZ) A S [.ref (ad 0), .int a1, .int a2, .int a3, .int a4, .int a5] q.1 q.2 := by
  refine met_i (by decide +kernel) (Nat.le_of_ble_eq_true rfl) (fun K hl hA hn F hR => ?_)
  subst hl; subst hA
  exact w_X6_file D cI cZ ad K F hn S a1 a2 a3 a4 a5 q hf hR
set_option maxHeartbeats 4000000 in
set_option maxRecDepth 100000 in
theorem w_X6_test (D : va_G) (cI cZ : ClassId) (ad : Nat → Nat) (K : Ctx) (F : Fx K cX6_test RX6 (mKf D cI cZ) 4 91) (hn : kn K = 4) (S : MS) (a1 : Int32) (a2 : Int32) (a3 : Bool) (q : Int32 × MS) (hf : f_X6_test S a1 a2 a3 = some q) (hR : ∀ (pc : Nat) (lv : List (Nat × Value)), decode cX6_test pc = .ok (.ireturn, 1) → G K (mX D cI cZ (kA K) ad) 0 0 pc q.2 lv [.int q.1]) : G K (mX D cI cZ (kA K) ad) 0 0 0 S [(0, .ref (ad 0)), (1, .int a1), (2, .int a2), (3, .int (bI a3))] [] := by
  have hok := mKf_ok D cI cZ (kA K)
  unfold f_X6_test at hf
  refine g_aload_n 1 0 F dX6_test_0 rfl rfl ?_
  refine g_iconst 2 (v := 0) F dX6_test_1 (by decide) rfl ?_
  refine m_put_0 5 F fl_X6_38 dX6_test_2 rfl ?_
  refine g_aload_n 6 0 F dX6_test_5 rfl rfl ?_
  refine g_iload_n 7 1 F dX6_test_6 rfl rfl ?_
  refine g_cVi 10 (st := []) F hok (c_X6_isAthlete (kl K) D cI cZ ad (kA K) (mS S 0 0) a1 _ rfl) wy_X6_isAthlete ml_X6_73 (m_recv F) ⟨Nat.le_of_ble_eq_true rfl, Nat.le_of_ble_eq_true rfl⟩ rfl rfl (Nat.le_of_ble_eq_true rfl) ⟨Nat.zero_le _, Nat.zero_le _⟩ dX6_test_7 rfl ?_
  refine g_ifeq_b 33 13 F dX6_test_10 rfl rfl hf (fun _ hf => ?_) (fun _ hf => ?_)
  · refine g_iconst 34 (v := (-1)) F dX6_test_33 (by decide) rfl ?_
    obtain rfl := Option.some.inj hf
    exact hR _ _ dX6_test_34
  · refine g_iload_n 14 2 F dX6_test_13 rfl rfl ?_
    refine g_iconst 15 (v := 0) F dX6_test_14 (by decide) rfl ?_
    refine g_bipush 17 (v := 9) F dX6_test_15 (by decide) rfl ?_
    refine g_cSi 20 (st := []) F hok (c_X6_in (kl K) D cI cZ ad (kA K) (mS S 0 0) a2 0 9 _ rfl) ws_X6_in ml_X6_42 ⟨Nat.le_of_ble_eq_true rfl, Nat.le_of_ble_eq_true rfl⟩ rfl rfl (Nat.le_of_ble_eq_true rfl) ⟨Nat.zero_le _, Nat.zero_le _⟩ dX6_test_17 rfl ?_
    refine g_ifeq_b 33 23 F dX6_test_20 rfl rfl hf (fun _ hf => ?_) (fun _ hf => ?_)
    · refine g_iconst 34 (v := (-1)) F dX6_test_33 (by decide) rfl ?_
      obtain rfl := Option.some.inj hf
      exact hR _ _ dX6_test_34
    · refine g_aload_n 24 0 F dX6_test_23 rfl rfl ?_
      refine g_iload_n 25 1 F dX6_test_24 rfl rfl ?_
      refine g_iload_n 26 2 F dX6_test_25 rfl rfl ?_
      refine g_iload_n 27 3 F dX6_test_26 rfl rfl ?_
      obtain ⟨q1, e2, hf⟩ := op_bd hf
      refine g_cVi 30 (st := []) F hok (c_X6_tests (kl K) D cI cZ ad (kA K) (mS S 0 0) a1 a2 a3 q1 e2) wy_X6_tests ml_X6_98 (m_recv F) ⟨Nat.le_of_ble_eq_true rfl, Nat.le_of_ble_eq_true rfl⟩ rfl rfl (Nat.le_of_ble_eq_true rfl) ⟨Nat.zero_le _, Nat.zero_le _⟩ dX6_test_27 rfl ?_
      refine g_goto 34 F dX6_test_30 rfl ?_
      obtain rfl := Option.some.inj hf
      exact hR _ _ dX6_test_34
theorem c_X6_test (l : Launch) (D : va_G) (cI cZ : ClassId) (ad : Nat → Nat) (A : Nat → Prop) (S : MS) (a1 : Int32) (a2 : Int32) (a3 : Bool) (q : Int32 × MS) (hf : f_X6_test S a1 a2 a3 = some q) : Ci l yX6_test cX6_test 4 (some .int) 4 91 (mX D cI cZ A ad) (mKf D cI cZ) A S [.ref (ad 0), .int a1, .int a2, .int (bI a3)] q.1 q.2 := by
  refine met_i (by decide +kernel) (Nat.le_of_ble_eq_true rfl) (fun K hl hA hn F hR => ?_)
  subst hl; subst hA
  exact w_X6_test D cI cZ ad K F hn S a1 a2 a3 q hf hR
set_option maxHeartbeats 4000000 in
set_option maxRecDepth 100000 in
theorem w_X6_appeal (D : va_G) (cI cZ : ClassId) (ad : Nat → Nat) (K : Ctx) (F : Fx K cX6_appeal RX6 (mKf D cI cZ) 3 65) (hn : kn K = 3) (S : MS) (a1 : Int32) (a2 : Int32) (q : Bool × MS) (hf : f_X6_appeal S a1 a2 = some q) (hR : ∀ (pc : Nat) (lv : List (Nat × Value)), decode cX6_appeal pc = .ok (.ireturn, 1) → G K (mX D cI cZ (kA K) ad) 0 0 pc q.2 lv [.int (bI q.1)]) : G K (mX D cI cZ (kA K) ad) 0 0 0 S [(0, .ref (ad 0)), (1, .int a1), (2, .int a2)] [] := by
  have hok := mKf_ok D cI cZ (kA K)
  unfold f_X6_appeal at hf
  refine g_aload_n 1 0 F dX6_appeal_0 rfl rfl ?_
  refine g_iconst 2 (v := 0) F dX6_appeal_1 (by decide) rfl ?_
  refine m_put_0 5 F fl_X6_38 dX6_appeal_2 rfl ?_
  refine g_aload_n 6 0 F dX6_appeal_5 rfl rfl ?_
  refine g_iload_n 7 1 F dX6_appeal_6 rfl rfl ?_
  refine g_iload_n 8 2 F dX6_appeal_7 rfl rfl ?_
  obtain ⟨q1, e2, hf⟩ := op_bd hf
  refine g_cVi 11 (st := []) F hok (c_X6_isFailure (kl K) D cI cZ ad (kA K) (mS S 0 0) a1 a2 q1 e2) wy_X6_isFailure ml_X6_102 (m_recv F) ⟨Nat.le_of_ble_eq_true rfl, Nat.le_of_ble_eq_true rfl⟩ rfl rfl (Nat.le_of_ble_eq_true rfl) ⟨Nat.zero_le _, Nat.zero_le _⟩ dX6_appeal_8 rfl ?_
  refine g_ifeq_b 27 14 F dX6_appeal_11 rfl rfl hf (fun _ hf => ?_) (fun _ hf => ?_)
  · refine g_iconst 28 (v := 0) F dX6_appeal_27 (by decide) rfl ?_
    obtain rfl := Option.some.inj hf
    exact hR _ _ dX6_appeal_28
  · refine g_aload_n 15 0 F dX6_appeal_14 rfl rfl ?_
    refine g_iload_n 16 1 F dX6_appeal_15 rfl rfl ?_
    refine g_iload_n 17 2 F dX6_appeal_16 rfl rfl ?_
    obtain ⟨q3, e4, hf⟩ := op_bd hf
    refine g_cVi 20 (st := []) F hok (c_X6_strikes (kl K) D cI cZ ad (kA K) (mS S 0 0) a1 a2 q3 e4) wy_X6_strikes ml_X6_105 (m_recv F) ⟨Nat.le_of_ble_eq_true rfl, Nat.le_of_ble_eq_true rfl⟩ rfl rfl (Nat.le_of_ble_eq_true rfl) ⟨Nat.zero_le _, Nat.zero_le _⟩ dX6_appeal_17 rfl ?_
    refine g_ifeq_b 27 23 F dX6_appeal_20 rfl rfl hf (fun _ hf => ?_) (fun _ hf => ?_)
    · refine g_iconst 28 (v := 0) F dX6_appeal_27 (by decide) rfl ?_
      obtain rfl := Option.some.inj hf
      exact hR _ _ dX6_appeal_28
    · refine g_iconst 24 (v := 1) F dX6_appeal_23 (by decide) rfl ?_
      refine g_goto 28 F dX6_appeal_24 rfl ?_
      obtain rfl := Option.some.inj hf
      exact hR _ _ dX6_appeal_28
theorem c_X6_appeal (l : Launch) (D : va_G) (cI cZ : ClassId) (ad : Nat → Nat) (A : Nat → Prop) (S : MS) (a1 : Int32) (a2 : Int32) (q : Bool × MS) (hf : f_X6_appeal S a1 a2 = some q) : Ci l yX6_appeal cX6_appeal 3 (some .boolean) 3 65 (mX D cI cZ A ad) (mKf D cI cZ) A S [.ref (ad 0), .int a1, .int a2] (bI q.1) q.2 := by
  refine met_z (by decide +kernel) (Nat.le_of_ble_eq_true rfl) (fun K hl hA hn F hR => ?_)
  subst hl; subst hA
  exact w_X6_appeal D cI cZ ad K F hn S a1 a2 q hf hR
set_option maxHeartbeats 4000000 in
set_option maxRecDepth 100000 in
theorem w_X6_four (D : va_G) (cI cZ : ClassId) (ad : Nat → Nat) (K : Ctx) (F : Fx K cX6_four RX6 (mKf D cI cZ) 0 0) (hn : kn K = 3) (S : MS) (a1 : Int32) (q : MS) (hf : f_X6_four S a1 = some q) (hR : ∀ (pc : Nat) (lv : List (Nat × Value)), decode cX6_four pc = .ok (.return_, 1) → G K (mX D cI cZ (kA K) ad) 0 0 pc q lv []) : G K (mX D cI cZ (kA K) ad) 0 0 0 S [(0, .ref (ad 0)), (1, .int a1)] [] := by
  have hok := mKf_ok D cI cZ (kA K)
  have L_3 : ∀ (n : Nat) (S : MS) (x1 : Int32) (x2 : Int32), l_X6_four_3 n S x1 x2 = some q → G K (mX D cI cZ (kA K) ad) 0 0 3 S [(0, .ref (ad 0)), (1, .int x1), (2, .int x2)] [] := by
    intro n
    induction n with
    | zero =>
      intro S x1 x2 hf
      rw [l_X6_four_3] at hf
      cases hf
    | succ n ih =>
      intro S x1 x2 hf
      rw [l_X6_four_3] at hf
      refine g_iload_n 4 2 F dX6_four_3 rfl rfl ?_
      refine g_if_lt 39 7 F dX6_four_4 rfl rfl hf (fun _ hf => ?_) (fun _ hf => ?_)
      · obtain rfl := Option.some.inj hf
        exact hR _ _ dX6_four_39
      · refine g_aload_n 8 0 F dX6_four_7 rfl rfl ?_
        refine m_get_5 11 F fl_X6_22 dX6_four_8 rfl ?_
        refine g_aload_n 12 0 F dX6_four_11 rfl rfl ?_
        refine m_get_6 15 F fl_X6_108 dX6_four_12 rfl ?_
        refine g_iload_n 16 1 F dX6_four_15 rfl rfl ?_
        refine g_iload_n 17 2 F dX6_four_16 rfl rfl ?_
        refine g_ishr 18 F dX6_four_17 rfl ?_
        refine g_sipush 21 (v := 255) F dX6_four_18 (by decide) rfl ?_
        refine g_iand 22 F dX6_four_21 rfl ?_
        obtain ⟨h1, hf⟩ := op_ok hf
        refine m_st_5 23 F h1 dX6_four_22 rfl ?_
        refine g_aload_n 24 0 F dX6_four_23 rfl rfl ?_
        refine g_dup 25 F dX6_four_24 rfl rfl ?_
        refine m_get_6 28 F fl_X6_108 dX6_four_25 rfl ?_
        refine g_iconst 29 (v := 1) F dX6_four_28 (by decide) rfl ?_
        refine g_iadd 30 F dX6_four_29 rfl ?_
        refine m_put_6 33 F fl_X6_108 dX6_four_30 rfl ?_
        refine g_iinc 36 2 (x2 + (-8)) [(2, .int (x2 + (-8))), (0, .ref (ad 0)), (1, .int x1)] F dX6_four_33 rfl rfl (lt_kn hn (by decide)) rfl rfl ?_
        refine g_goto 3 F dX6_four_36 rfl ?_
        exact G.lvs [1, 2, 0] rfl (ih (mS (mA S 5 (S.1 6).toNatClampNeg ((x1 >>> (x2 &&& 31)) &&& 255)) 6 (((mA S 5 (S.1 6).toNatClampNeg ((x1 >>> (x2 &&& 31)) &&& 255)).1 6) + 1)) x1 (x2 + (-8)) hf)
  unfold f_X6_four at hf
  refine g_bipush 2 (v := 24) F dX6_four_0 (by decide) rfl ?_
  refine g_istore_n 3 [(2, .int 24), (0, .ref (ad 0)), (1, .int a1)] F dX6_four_2 (lt_kn hn (by decide)) rfl rfl ?_
  exact G.lvs [1, 2, 0] rfl (L_3 fu S a1 24 hf)
theorem c_X6_four (l : Launch) (D : va_G) (cI cZ : ClassId) (ad : Nat → Nat) (A : Nat → Prop) (S : MS) (a1 : Int32) (q : MS) (hf : f_X6_four S a1 = some q) : Cv l yX6_four cX6_four 3 none 0 0 (mX D cI cZ A ad) (mKf D cI cZ) A S [.ref (ad 0), .int a1] q := by
  refine met_v (by decide +kernel) (Nat.le_of_ble_eq_true rfl) (fun K hl hA hn F hR => ?_)
  subst hl; subst hA
  exact w_X6_four D cI cZ ad K F hn S a1 q hf hR
set_option maxHeartbeats 4000000 in
set_option maxRecDepth 100000 in
theorem w_X6_feed (D : va_G) (cI cZ : ClassId) (ad : Nat → Nat) (K : Ctx) (F : Fx K cX6_feed RX6 (mKf D cI cZ) 1 22) (hn : kn K = 6) (S : MS) (a1 : Int32) (a2 : Int32) (a3 : Int32) (a4 : Int32) (a5 : Int32) (q : Int32 × MS) (hf : f_X6_feed S a1 a2 a3 a4 a5 = some q) (hR : ∀ (pc : Nat) (lv : List (Nat × Value)), decode cX6_feed pc = .ok (.ireturn, 1) → G K (mX D cI cZ (kA K) ad) 0 0 pc q.2 lv [.int q.1]) : G K (mX D cI cZ (kA K) ad) 0 0 0 S [(0, .ref (ad 0)), (1, .int a1), (2, .int a2), (3, .int a3), (4, .int a4), (5, .int a5)] [] := by
  have hok := mKf_ok D cI cZ (kA K)
  unfold f_X6_feed at hf
  refine g_aload_n 1 0 F dX6_feed_0 rfl rfl ?_
  refine g_iconst 2 (v := 0) F dX6_feed_1 (by decide) rfl ?_
  refine m_put_0 5 F fl_X6_38 dX6_feed_2 rfl ?_
  refine g_aload_n 6 0 F dX6_feed_5 rfl rfl ?_
  refine m_get_6 9 F fl_X6_108 dX6_feed_6 rfl ?_
  refine g_bipush 11 (v := 20) F dX6_feed_9 (by decide) rfl ?_
  refine g_iadd 12 F dX6_feed_11 rfl ?_
  refine g_sipush 15 (v := 400) F dX6_feed_12 (by decide) rfl ?_
  refine g_icmp_le 20 18 F dX6_feed_15 rfl rfl hf (fun _ hf => ?_) (fun _ hf => ?_)
  · refine g_aload_n 21 0 F dX6_feed_20 rfl rfl ?_
    refine g_iload_n 22 1 F dX6_feed_21 rfl rfl ?_
    obtain ⟨q1, e2, hf⟩ := op_bd hf
    refine g_cVv 25 (st := []) F hok (c_X6_four (kl K) D cI cZ ad (kA K) (mS S 0 0) a1 q1 e2) wy_X6_four ml_X6_111 (m_recv F) ⟨Nat.le_of_ble_eq_true rfl, Nat.le_of_ble_eq_true rfl⟩ rfl rfl (Nat.le_of_ble_eq_true rfl) ⟨Nat.zero_le _, Nat.zero_le _⟩ dX6_feed_22 rfl ?_
    refine g_aload_n 26 0 F dX6_feed_25 rfl rfl ?_
    refine g_iload_n 27 2 F dX6_feed_26 rfl rfl ?_
    obtain ⟨q3, e4, hf⟩ := op_bd hf
    refine g_cVv 30 (st := []) F hok (c_X6_four (kl K) D cI cZ ad (kA K) q1 a2 q3 e4) wy_X6_four ml_X6_111 (m_recv F) ⟨Nat.le_of_ble_eq_true rfl, Nat.le_of_ble_eq_true rfl⟩ rfl rfl (Nat.le_of_ble_eq_true rfl) ⟨Nat.zero_le _, Nat.zero_le _⟩ dX6_feed_27 rfl ?_
    refine g_aload_n 31 0 F dX6_feed_30 rfl rfl ?_
    refine g_iload_n 32 3 F dX6_feed_31 rfl rfl ?_
    obtain ⟨q5, e6, hf⟩ := op_bd hf
    refine g_cVv 35 (st := []) F hok (c_X6_four (kl K) D cI cZ ad (kA K) q3 a3 q5 e6) wy_X6_four ml_X6_111 (m_recv F) ⟨Nat.le_of_ble_eq_true rfl, Nat.le_of_ble_eq_true rfl⟩ rfl rfl (Nat.le_of_ble_eq_true rfl) ⟨Nat.zero_le _, Nat.zero_le _⟩ dX6_feed_32 rfl ?_
    refine g_aload_n 36 0 F dX6_feed_35 rfl rfl ?_
    refine g_iload 38 4 F dX6_feed_36 rfl rfl ?_
    obtain ⟨q7, e8, hf⟩ := op_bd hf
    refine g_cVv 41 (st := []) F hok (c_X6_four (kl K) D cI cZ ad (kA K) q5 a4 q7 e8) wy_X6_four ml_X6_111 (m_recv F) ⟨Nat.le_of_ble_eq_true rfl, Nat.le_of_ble_eq_true rfl⟩ rfl rfl (Nat.le_of_ble_eq_true rfl) ⟨Nat.zero_le _, Nat.zero_le _⟩ dX6_feed_38 rfl ?_
    refine g_aload_n 42 0 F dX6_feed_41 rfl rfl ?_
    refine g_iload 44 5 F dX6_feed_42 rfl rfl ?_
    obtain ⟨q9, e10, hf⟩ := op_bd hf
    refine g_cVv 47 (st := []) F hok (c_X6_four (kl K) D cI cZ ad (kA K) q7 a5 q9 e10) wy_X6_four ml_X6_111 (m_recv F) ⟨Nat.le_of_ble_eq_true rfl, Nat.le_of_ble_eq_true rfl⟩ rfl rfl (Nat.le_of_ble_eq_true rfl) ⟨Nat.zero_le _, Nat.zero_le _⟩ dX6_feed_44 rfl ?_
    refine g_aload_n 48 0 F dX6_feed_47 rfl rfl ?_
    refine m_get_6 51 F fl_X6_108 dX6_feed_48 rfl ?_
    obtain rfl := Option.some.inj hf
    exact hR _ _ dX6_feed_51
  · refine g_iconst 19 (v := (-1)) F dX6_feed_18 (by decide) rfl ?_
    obtain rfl := Option.some.inj hf
    exact hR _ _ dX6_feed_19
theorem c_X6_feed (l : Launch) (D : va_G) (cI cZ : ClassId) (ad : Nat → Nat) (A : Nat → Prop) (S : MS) (a1 : Int32) (a2 : Int32) (a3 : Int32) (a4 : Int32) (a5 : Int32) (q : Int32 × MS) (hf : f_X6_feed S a1 a2 a3 a4 a5 = some q) : Ci l yX6_feed cX6_feed 6 (some .int) 1 22 (mX D cI cZ A ad) (mKf D cI cZ) A S [.ref (ad 0), .int a1, .int a2, .int a3, .int a4, .int a5] q.1 q.2 := by
  refine met_i (by decide +kernel) (Nat.le_of_ble_eq_true rfl) (fun K hl hA hn F hR => ?_)
  subst hl; subst hA
  exact w_X6_feed D cI cZ ad K F hn S a1 a2 a3 a4 a5 q hf hR
set_option maxHeartbeats 4000000 in
set_option maxRecDepth 100000 in
theorem w_X6_end (D : va_G) (cI cZ : ClassId) (ad : Nat → Nat) (K : Ctx) (F : Fx K cX6_end RX6 (mKf D cI cZ) 1 22) (hn : kn K = 2) (S : MS) (a1 : Int32) (q : Bool × MS) (hf : f_X6_end S a1 = q) (hR : ∀ (pc : Nat) (lv : List (Nat × Value)), decode cX6_end pc = .ok (.ireturn, 1) → G K (mX D cI cZ (kA K) ad) 0 0 pc q.2 lv [.int (bI q.1)]) : G K (mX D cI cZ (kA K) ad) 0 0 0 S [(0, .ref (ad 0)), (1, .int a1)] [] := by
  have hok := mKf_ok D cI cZ (kA K)
  unfold f_X6_end at hf
  refine g_aload_n 1 0 F dX6_end_0 rfl rfl ?_
  refine g_iconst 2 (v := 0) F dX6_end_1 (by decide) rfl ?_
  refine m_put_0 5 F fl_X6_38 dX6_end_2 rfl ?_
  refine g_iload_n 6 1 F dX6_end_5 rfl rfl ?_
  refine g_iconst 7 (v := 0) F dX6_end_6 (by decide) rfl ?_
  refine g_aload_n 8 0 F dX6_end_7 rfl rfl ?_
  refine m_get_6 11 F fl_X6_108 dX6_end_8 rfl ?_
  refine g_cSi 14 (st := []) F hok (c_X6_in (kl K) D cI cZ ad (kA K) (mS S 0 0) a1 0 ((mS S 0 0).1 6) _ rfl) ws_X6_in ml_X6_42 ⟨Nat.le_of_ble_eq_true rfl, Nat.le_of_ble_eq_true rfl⟩ rfl rfl (Nat.le_of_ble_eq_true rfl) ⟨Nat.zero_le _, Nat.zero_le _⟩ dX6_end_11 rfl ?_
  refine g_ifne_b 19 17 F dX6_end_14 rfl rfl hf (fun _ hf => ?_) (fun _ hf => ?_)
  · refine g_aload_n 20 0 F dX6_end_19 rfl rfl ?_
    refine g_iload_n 21 1 F dX6_end_20 rfl rfl ?_
    refine m_put_6 24 F fl_X6_108 dX6_end_21 rfl ?_
    refine g_iconst 25 (v := 1) F dX6_end_24 (by decide) rfl ?_
    subst hf
    exact hR _ _ dX6_end_25
  · refine g_iconst 18 (v := 0) F dX6_end_17 (by decide) rfl ?_
    subst hf
    exact hR _ _ dX6_end_18
theorem c_X6_end (l : Launch) (D : va_G) (cI cZ : ClassId) (ad : Nat → Nat) (A : Nat → Prop) (S : MS) (a1 : Int32) (q : Bool × MS) (hf : f_X6_end S a1 = q) : Ci l yX6_end cX6_end 2 (some .boolean) 1 22 (mX D cI cZ A ad) (mKf D cI cZ) A S [.ref (ad 0), .int a1] (bI q.1) q.2 := by
  refine met_z (by decide +kernel) (Nat.le_of_ble_eq_true rfl) (fun K hl hA hn F hR => ?_)
  subst hl; subst hA
  exact w_X6_end D cI cZ ad K F hn S a1 q hf hR
set_option maxHeartbeats 4000000 in
set_option maxRecDepth 100000 in
theorem w_X6_here (D : va_G) (cI cZ : ClassId) (ad : Nat → Nat) (K : Ctx) (F : Fx K cX6_here RX6 (mKf D cI cZ) 0 0) (hn : kn K = 1) (S : MS) (q : Int32 × MS) (hf : f_X6_here S = some q) (hR : ∀ (pc : Nat) (lv : List (Nat × Value)), decode cX6_here pc = .ok (.ireturn, 1) → G K (mX D cI cZ (kA K) ad) 0 0 pc q.2 lv [.int q.1]) : G K (mX D cI cZ (kA K) ad) 0 0 0 S [(0, .ref (ad 0))] [] := by
  have hok := mKf_ok D cI cZ (kA K)
  have L_0 : ∀ (n : Nat) (S : MS), l_X6_here_0 n S = some q → G K (mX D cI cZ (kA K) ad) 0 0 0 S [(0, .ref (ad 0))] [] := by
    intro n
    induction n with
    | zero =>
      intro S hf
      rw [l_X6_here_0] at hf
      cases hf
    | succ n ih =>
      intro S hf
      rw [l_X6_here_0] at hf
      refine g_aload_n 1 0 F dX6_here_0 rfl rfl ?_
      refine m_get_8 4 F fl_X6_114 dX6_here_1 rfl ?_
      refine g_aload_n 5 0 F dX6_here_4 rfl rfl ?_
      refine m_get_6 8 F fl_X6_108 dX6_here_5 rfl ?_
      refine g_icmp_ge 52 11 F dX6_here_8 rfl rfl hf (fun _ hf => ?_) (fun _ hf => ?_)
      · refine g_aload_n 53 0 F dX6_here_52 rfl rfl ?_
        refine m_get_8 56 F fl_X6_114 dX6_here_53 rfl ?_
        refine g_aload_n 57 0 F dX6_here_56 rfl rfl ?_
        refine m_get_6 60 F fl_X6_108 dX6_here_57 rfl ?_
        refine g_icmp_ge 75 63 F dX6_here_60 rfl rfl hf (fun _ hf => ?_) (fun _ hf => ?_)
        · refine g_iconst 76 (v := (-1)) F dX6_here_75 (by decide) rfl ?_
          obtain rfl := Option.some.inj hf
          exact hR _ _ dX6_here_76
        · refine g_aload_n 64 0 F dX6_here_63 rfl rfl ?_
          refine m_get_5 67 F fl_X6_22 dX6_here_64 rfl ?_
          refine g_aload_n 68 0 F dX6_here_67 rfl rfl ?_
          refine m_get_8 71 F fl_X6_114 dX6_here_68 rfl ?_
          obtain ⟨h1, hf⟩ := op_ok hf
          refine m_ld_5 72 F h1 dX6_here_71 rfl ?_
          refine g_goto 76 F dX6_here_72 rfl ?_
          obtain rfl := Option.some.inj hf
          exact hR _ _ dX6_here_76
      · refine g_aload_n 12 0 F dX6_here_11 rfl rfl ?_
        refine m_get_5 15 F fl_X6_22 dX6_here_12 rfl ?_
        refine g_aload_n 16 0 F dX6_here_15 rfl rfl ?_
        refine m_get_8 19 F fl_X6_114 dX6_here_16 rfl ?_
        obtain ⟨h2, hf⟩ := op_ok hf
        refine m_ld_5 20 F h2 dX6_here_19 rfl ?_
        refine g_bipush 22 (v := 32) F dX6_here_20 (by decide) rfl ?_
        refine g_icmp_eq 39 25 F dX6_here_22 rfl rfl hf (fun _ hf => ?_) (fun _ hf => ?_)
        · refine g_aload_n 40 0 F dX6_here_39 rfl rfl ?_
          refine g_dup 41 F dX6_here_40 rfl rfl ?_
          refine m_get_8 44 F fl_X6_114 dX6_here_41 rfl ?_
          refine g_iconst 45 (v := 1) F dX6_here_44 (by decide) rfl ?_
          refine g_iadd 46 F dX6_here_45 rfl ?_
          refine m_put_8 49 F fl_X6_114 dX6_here_46 rfl ?_
          refine g_goto 0 F dX6_here_49 rfl ?_
          exact G.lvs [0] rfl (ih (mS S 8 ((S.1 8) + 1)) hf)
        · refine g_aload_n 26 0 F dX6_here_25 rfl rfl ?_
          refine m_get_5 29 F fl_X6_22 dX6_here_26 rfl ?_
          refine g_aload_n 30 0 F dX6_here_29 rfl rfl ?_
          refine m_get_8 33 F fl_X6_114 dX6_here_30 rfl ?_
          obtain ⟨h3, hf⟩ := op_ok hf
          refine m_ld_5 34 F h3 dX6_here_33 rfl ?_
          refine g_bipush 36 (v := 10) F dX6_here_34 (by decide) rfl ?_
          refine g_icmp_ne 52 39 F dX6_here_36 rfl rfl hf (fun _ hf => ?_) (fun _ hf => ?_)
          · refine g_aload_n 53 0 F dX6_here_52 rfl rfl ?_
            refine m_get_8 56 F fl_X6_114 dX6_here_53 rfl ?_
            refine g_aload_n 57 0 F dX6_here_56 rfl rfl ?_
            refine m_get_6 60 F fl_X6_108 dX6_here_57 rfl ?_
            refine g_icmp_ge 75 63 F dX6_here_60 rfl rfl hf (fun _ hf => ?_) (fun _ hf => ?_)
            · refine g_iconst 76 (v := (-1)) F dX6_here_75 (by decide) rfl ?_
              obtain rfl := Option.some.inj hf
              exact hR _ _ dX6_here_76
            · refine g_aload_n 64 0 F dX6_here_63 rfl rfl ?_
              refine m_get_5 67 F fl_X6_22 dX6_here_64 rfl ?_
              refine g_aload_n 68 0 F dX6_here_67 rfl rfl ?_
              refine m_get_8 71 F fl_X6_114 dX6_here_68 rfl ?_
              obtain ⟨h4, hf⟩ := op_ok hf
              refine m_ld_5 72 F h4 dX6_here_71 rfl ?_
              refine g_goto 76 F dX6_here_72 rfl ?_
              obtain rfl := Option.some.inj hf
              exact hR _ _ dX6_here_76
          · refine g_aload_n 40 0 F dX6_here_39 rfl rfl ?_
            refine g_dup 41 F dX6_here_40 rfl rfl ?_
            refine m_get_8 44 F fl_X6_114 dX6_here_41 rfl ?_
            refine g_iconst 45 (v := 1) F dX6_here_44 (by decide) rfl ?_
            refine g_iadd 46 F dX6_here_45 rfl ?_
            refine m_put_8 49 F fl_X6_114 dX6_here_46 rfl ?_
            refine g_goto 0 F dX6_here_49 rfl ?_
            exact G.lvs [0] rfl (ih (mS S 8 ((S.1 8) + 1)) hf)
  unfold f_X6_here at hf
  exact G.lvs [0] rfl (L_0 fu S hf)
theorem c_X6_here (l : Launch) (D : va_G) (cI cZ : ClassId) (ad : Nat → Nat) (A : Nat → Prop) (S : MS) (q : Int32 × MS) (hf : f_X6_here S = some q) : Ci l yX6_here cX6_here 1 (some .int) 0 0 (mX D cI cZ A ad) (mKf D cI cZ) A S [.ref (ad 0)] q.1 q.2 := by
  refine met_i (by decide +kernel) (Nat.le_of_ble_eq_true rfl) (fun K hl hA hn F hR => ?_)
  subst hl; subst hA
  exact w_X6_here D cI cZ ad K F hn S q hf hR
set_option maxHeartbeats 4000000 in
set_option maxRecDepth 100000 in
theorem w_X6_wrong (D : va_G) (cI cZ : ClassId) (ad : Nat → Nat) (K : Ctx) (F : Fx K cX6_wrong RX6 (mKf D cI cZ) 0 0) (hn : kn K = 3) (S : MS) (a1 : Int32) (a2 : Int32) (q : Bool × MS) (hf : f_X6_wrong S a1 a2 = q) (hR : ∀ (pc : Nat) (lv : List (Nat × Value)), decode cX6_wrong pc = .ok (.ireturn, 1) → G K (mX D cI cZ (kA K) ad) 0 0 pc q.2 lv [.int (bI q.1)]) : G K (mX D cI cZ (kA K) ad) 0 0 0 S [(0, .ref (ad 0)), (1, .int a1), (2, .int a2)] [] := by
  have hok := mKf_ok D cI cZ (kA K)
  unfold f_X6_wrong at hf
  refine g_aload_n 1 0 F dX6_wrong_0 rfl rfl ?_
  refine g_iload_n 2 1 F dX6_wrong_1 rfl rfl ?_
  refine g_bipush 4 (v := 8) F dX6_wrong_2 (by decide) rfl ?_
  refine g_iload_n 5 2 F dX6_wrong_4 rfl rfl ?_
  refine g_imul 6 F dX6_wrong_5 rfl ?_
  refine g_iadd 7 F dX6_wrong_6 rfl ?_
  refine m_put_9 10 F fl_X6_117 dX6_wrong_7 rfl ?_
  refine g_iconst 11 (v := 0) F dX6_wrong_10 (by decide) rfl ?_
  subst hf
  exact hR _ _ dX6_wrong_11
theorem c_X6_wrong (l : Launch) (D : va_G) (cI cZ : ClassId) (ad : Nat → Nat) (A : Nat → Prop) (S : MS) (a1 : Int32) (a2 : Int32) (q : Bool × MS) (hf : f_X6_wrong S a1 a2 = q) : Ci l yX6_wrong cX6_wrong 3 (some .boolean) 0 0 (mX D cI cZ A ad) (mKf D cI cZ) A S [.ref (ad 0), .int a1, .int a2] (bI q.1) q.2 := by
  refine met_z (by decide +kernel) (Nat.le_of_ble_eq_true rfl) (fun K hl hA hn F hR => ?_)
  subst hl; subst hA
  exact w_X6_wrong D cI cZ ad K F hn S a1 a2 q hf hR
set_option maxHeartbeats 4000000 in
set_option maxRecDepth 100000 in
theorem w_X6_readWord (D : va_G) (cI cZ : ClassId) (ad : Nat → Nat) (K : Ctx) (F : Fx K cX6_readWord RX6 (mKf D cI cZ) 1 22) (hn : kn K = 4) (S : MS) (q : Int64 × MS) (hf : f_X6_readWord S = some q) (hR : ∀ (pc : Nat) (lv : List (Nat × Value)), decode cX6_readWord pc = .ok (.lreturn, 1) → G K (mX D cI cZ (kA K) ad) 0 0 pc q.2 lv [.long q.1]) : G K (mX D cI cZ (kA K) ad) 0 0 0 S [(0, .ref (ad 0))] [] := by
  have hok := mKf_ok D cI cZ (kA K)
  have L_12 : ∀ (n : Nat) (S : MS) (x1 : Int64) (x3 : Int32), l_X6_readWord_12 n S x1 x3 = some q → G K (mX D cI cZ (kA K) ad) 0 0 12 S [(0, .ref (ad 0)), (1, .long x1), (3, .int x3)] [] := by
    intro n
    induction n with
    | zero =>
      intro S x1 x3 hf
      rw [l_X6_readWord_12] at hf
      cases hf
    | succ n ih =>
      intro S x1 x3 hf
      rw [l_X6_readWord_12] at hf
      refine g_aload_n 13 0 F dX6_readWord_12 rfl rfl ?_
      refine m_get_8 16 F fl_X6_114 dX6_readWord_13 rfl ?_
      refine g_aload_n 17 0 F dX6_readWord_16 rfl rfl ?_
      refine m_get_6 20 F fl_X6_108 dX6_readWord_17 rfl ?_
      refine g_icmp_ge 91 23 F dX6_readWord_20 rfl rfl hf (fun _ hf => ?_) (fun _ hf => ?_)
      · refine g_lload_n 92 1 F dX6_readWord_91 rfl rfl ?_
        obtain rfl := Option.some.inj hf
        exact hR _ _ dX6_readWord_92
      · refine g_aload_n 24 0 F dX6_readWord_23 rfl rfl ?_
        refine m_get_5 27 F fl_X6_22 dX6_readWord_24 rfl ?_
        refine g_aload_n 28 0 F dX6_readWord_27 rfl rfl ?_
        refine m_get_8 31 F fl_X6_114 dX6_readWord_28 rfl ?_
        obtain ⟨h1, hf⟩ := op_ok hf
        refine m_ld_5 32 F h1 dX6_readWord_31 rfl ?_
        refine g_bipush 34 (v := 97) F dX6_readWord_32 (by decide) rfl ?_
        refine g_bipush 36 (v := 122) F dX6_readWord_34 (by decide) rfl ?_
        refine g_cSi 39 (st := []) F hok (c_X6_in (kl K) D cI cZ ad (kA K) S (S.2 5 (S.1 8).toNatClampNeg) 97 122 _ rfl) ws_X6_in ml_X6_42 ⟨Nat.le_of_ble_eq_true rfl, Nat.le_of_ble_eq_true rfl⟩ rfl rfl (Nat.le_of_ble_eq_true rfl) ⟨Nat.zero_le _, Nat.zero_le _⟩ dX6_readWord_36 rfl ?_
        refine g_ifeq_b 91 42 F dX6_readWord_39 rfl rfl hf (fun _ hf => ?_) (fun _ hf => ?_)
        · refine g_lload_n 92 1 F dX6_readWord_91 rfl rfl ?_
          obtain rfl := Option.some.inj hf
          exact hR _ _ dX6_readWord_92
        · refine g_iload_n 43 2 F dX6_readWord_42 rfl rfl ?_
          refine g_bipush 45 (v := 7) F dX6_readWord_43 (by decide) rfl ?_
          refine g_icmp_ge 71 48 F dX6_readWord_45 rfl rfl hf (fun _ hf => ?_) (fun _ hf => ?_)
          · refine g_ldc2 74 F cn_X6_127 dX6_readWord_71 rfl ?_
            refine g_lstore_n 75 [(1, .long (-1)), (0, .ref (ad 0)), (3, .int x3)] F dX6_readWord_74 (lt_kn hn (by decide)) rfl rfl ?_
            refine g_iinc 78 2 (x3 + 1) [(3, .int (x3 + 1)), (1, .long (-1)), (0, .ref (ad 0))] F dX6_readWord_75 rfl rfl (lt_kn hn (by decide)) rfl rfl ?_
            refine g_aload_n 79 2 F dX6_readWord_78 rfl rfl ?_
            refine g_dup 80 F dX6_readWord_79 rfl rfl ?_
            refine m_get_8 83 F fl_X6_114 dX6_readWord_80 rfl ?_
            refine g_iconst 84 (v := 1) F dX6_readWord_83 (by decide) rfl ?_
            refine g_iadd 85 F dX6_readWord_84 rfl ?_
            refine m_put_8 88 F fl_X6_114 dX6_readWord_85 rfl ?_
            refine g_goto 12 F dX6_readWord_88 rfl ?_
            exact G.lvs [2, 1, 0] rfl (ih (mS S 8 ((S.1 8) + 1)) (-1) (x3 + 1) hf)
          · refine g_lload_n 49 1 F dX6_readWord_48 rfl rfl ?_
            refine g_ldc2 52 F cn_X6_123 dX6_readWord_49 rfl ?_
            refine g_lmul 53 F dX6_readWord_52 rfl ?_
            refine g_aload_n 54 0 F dX6_readWord_53 rfl rfl ?_
            refine m_get_5 57 F fl_X6_22 dX6_readWord_54 rfl ?_
            refine g_aload_n 58 0 F dX6_readWord_57 rfl rfl ?_
            refine m_get_8 61 F fl_X6_114 dX6_readWord_58 rfl ?_
            obtain ⟨h2, hf⟩ := op_ok hf
            refine m_ld_5 62 F h2 dX6_readWord_61 rfl ?_
            refine g_i2l 63 F dX6_readWord_62 rfl ?_
            refine g_ladd 64 F dX6_readWord_63 rfl ?_
            refine g_ldc2 67 F cn_X6_125 dX6_readWord_64 rfl ?_
            refine g_lsub 68 F dX6_readWord_67 rfl ?_
            refine g_goto 74 F dX6_readWord_68 rfl ?_
            refine g_lstore_n 75 [(1, .long (((x1 * 27) + (S.2 5 (S.1 8).toNatClampNeg).toInt64) - 96)), (0, .ref (ad 0)), (3, .int x3)] F dX6_readWord_74 (lt_kn hn (by decide)) rfl rfl ?_
            refine g_iinc 78 2 (x3 + 1) [(3, .int (x3 + 1)), (1, .long (((x1 * 27) + (S.2 5 (S.1 8).toNatClampNeg).toInt64) - 96)), (0, .ref (ad 0))] F dX6_readWord_75 rfl rfl (lt_kn hn (by decide)) rfl rfl ?_
            refine g_aload_n 79 2 F dX6_readWord_78 rfl rfl ?_
            refine g_dup 80 F dX6_readWord_79 rfl rfl ?_
            refine m_get_8 83 F fl_X6_114 dX6_readWord_80 rfl ?_
            refine g_iconst 84 (v := 1) F dX6_readWord_83 (by decide) rfl ?_
            refine g_iadd 85 F dX6_readWord_84 rfl ?_
            refine m_put_8 88 F fl_X6_114 dX6_readWord_85 rfl ?_
            refine g_goto 12 F dX6_readWord_88 rfl ?_
            exact G.lvs [2, 1, 0] rfl (ih (mS S 8 ((S.1 8) + 1)) (((x1 * 27) + (S.2 5 (S.1 8).toNatClampNeg).toInt64) - 96) (x3 + 1) hf)
  unfold f_X6_readWord at hf
  refine g_lconst 1 (v := 0) F dX6_readWord_0 (by decide) rfl ?_
  refine g_lstore_n 2 [(1, .long 0), (0, .ref (ad 0))] F dX6_readWord_1 (lt_kn hn (by decide)) rfl rfl ?_
  refine g_iconst 3 (v := 0) F dX6_readWord_2 (by decide) rfl ?_
  refine g_istore_n 4 [(3, .int 0), (1, .long 0), (0, .ref (ad 0))] F dX6_readWord_3 (lt_kn hn (by decide)) rfl rfl ?_
  refine g_aload_n 5 2 F dX6_readWord_4 rfl rfl ?_
  refine g_aload_n 6 2 F dX6_readWord_5 rfl rfl ?_
  refine m_get_8 9 F fl_X6_114 dX6_readWord_6 rfl ?_
  refine m_put_11 12 F fl_X6_120 dX6_readWord_9 rfl ?_
  exact G.lvs [2, 1, 0] rfl (L_12 fu (mS S 11 (S.1 8)) 0 0 hf)
theorem c_X6_readWord (l : Launch) (D : va_G) (cI cZ : ClassId) (ad : Nat → Nat) (A : Nat → Prop) (S : MS) (q : Int64 × MS) (hf : f_X6_readWord S = some q) : Cl l yX6_readWord cX6_readWord 4 (some .long) 1 22 (mX D cI cZ A ad) (mKf D cI cZ) A S [.ref (ad 0)] q.1 q.2 := by
  refine met_l (by decide +kernel) (Nat.le_of_ble_eq_true rfl) (fun K hl hA hn F hR => ?_)
  subst hl; subst hA
  exact w_X6_readWord D cI cZ ad K F hn S q hf hR
set_option maxHeartbeats 4000000 in
set_option maxRecDepth 100000 in
theorem w_X6_number (D : va_G) (cI cZ : ClassId) (ad : Nat → Nat) (K : Ctx) (F : Fx K cX6_number RX6 (mKf D cI cZ) 1 22) (hn : kn K = 5) (S : MS) (a1 : Int32) (a2 : Int32) (a3 : Int32) (q : Bool × MS) (hf : f_X6_number S a1 a2 a3 = some q) (hR : ∀ (pc : Nat) (lv : List (Nat × Value)), decode cX6_number pc = .ok (.ireturn, 1) → G K (mX D cI cZ (kA K) ad) 0 0 pc q.2 lv [.int (bI q.1)]) : G K (mX D cI cZ (kA K) ad) 0 0 0 S [(0, .ref (ad 0)), (1, .int a1), (2, .int a2), (3, .int a3)] [] := by
  have hok := mKf_ok D cI cZ (kA K)
  have J_120 : ∀ (S : MS) (x1 : Int32) (x2 : Int32) (x3 : Int32) (x4 : Int32), j_X6_number_120 S x1 x2 x3 x4 = some q → G K (mX D cI cZ (kA K) ad) 0 0 120 S [(0, .ref (ad 0)), (1, .int x1), (2, .int x2), (3, .int x3), (4, .int x4)] [] := by
    intro S x1 x2 x3 x4 hf
    unfold j_X6_number_120 at hf
    refine g_aload_n 121 0 F dX6_number_120 rfl rfl ?_
    refine m_get_8 124 F fl_X6_114 dX6_number_121 rfl ?_
    refine g_iload 126 4 F dX6_number_124 rfl rfl ?_
    refine g_isub 127 F dX6_number_126 rfl ?_
    refine g_iconst 128 (v := 4) F dX6_number_127 (by decide) rfl ?_
    refine g_icmp_le 139 131 F dX6_number_128 rfl rfl hf (fun _ hf => ?_) (fun _ hf => ?_)
    · refine g_aload_n 140 0 F dX6_number_139 rfl rfl ?_
      refine m_get_13 143 F fl_X6_25 dX6_number_140 rfl ?_
      refine g_iload_n 144 1 F dX6_number_143 rfl rfl ?_
      refine g_aload_n 145 0 F dX6_number_144 rfl rfl ?_
      refine m_get_10 148 F fl_X6_135 dX6_number_145 rfl ?_
      obtain ⟨h3, hf⟩ := op_ok hf
      refine m_st_13 149 F h3 dX6_number_148 rfl ?_
      refine g_aload_n 150 0 F dX6_number_149 rfl rfl ?_
      refine m_get_10 153 F fl_X6_135 dX6_number_150 rfl ?_
      refine g_iload_n 154 2 F dX6_number_153 rfl rfl ?_
      refine g_iload_n 155 3 F dX6_number_154 rfl rfl ?_
      refine g_cSi 158 (st := []) F hok (c_X6_in (kl K) D cI cZ ad (kA K) (mA S 13 x1.toNatClampNeg (S.1 10)) ((mA S 13 x1.toNatClampNeg (S.1 10)).1 10) x2 x3 _ rfl) ws_X6_in ml_X6_42 ⟨Nat.le_of_ble_eq_true rfl, Nat.le_of_ble_eq_true rfl⟩ rfl rfl (Nat.le_of_ble_eq_true rfl) ⟨Nat.zero_le _, Nat.zero_le _⟩ dX6_number_155 rfl ?_
      refine g_ifne_b 171 161 F dX6_number_158 rfl rfl hf (fun _ hf => ?_) (fun _ hf => ?_)
      · refine g_iconst 172 (v := 1) F dX6_number_171 (by decide) rfl ?_
        refine g_goto 176 F dX6_number_172 rfl ?_
        obtain rfl := Option.some.inj hf
        exact hR _ _ dX6_number_176
      · refine g_aload_n 162 0 F dX6_number_161 rfl rfl ?_
        refine g_iconst 163 (v := 2) F dX6_number_162 (by decide) rfl ?_
        refine g_iload 165 4 F dX6_number_163 rfl rfl ?_
        refine g_cVi 168 (st := []) F hok (c_X6_wrong (kl K) D cI cZ ad (kA K) (mA S 13 x1.toNatClampNeg (S.1 10)) 2 x4 _ rfl) wy_X6_wrong ml_X6_133 (m_recv F) ⟨Nat.le_of_ble_eq_true rfl, Nat.le_of_ble_eq_true rfl⟩ rfl rfl (Nat.le_of_ble_eq_true rfl) ⟨Nat.zero_le _, Nat.zero_le _⟩ dX6_number_165 rfl ?_
        refine g_ifeq_b 175 171 F dX6_number_168 rfl rfl hf (fun _ hf => ?_) (fun _ hf => ?_)
        · refine g_iconst 176 (v := 0) F dX6_number_175 (by decide) rfl ?_
          obtain rfl := Option.some.inj hf
          exact hR _ _ dX6_number_176
        · refine g_iconst 172 (v := 1) F dX6_number_171 (by decide) rfl ?_
          refine g_goto 176 F dX6_number_172 rfl ?_
          obtain rfl := Option.some.inj hf
          exact hR _ _ dX6_number_176
    · refine g_aload_n 132 0 F dX6_number_131 rfl rfl ?_
      refine g_iconst 133 (v := 1) F dX6_number_132 (by decide) rfl ?_
      refine g_iload 135 4 F dX6_number_133 rfl rfl ?_
      refine g_cVi 138 (st := []) F hok (c_X6_wrong (kl K) D cI cZ ad (kA K) S 1 x4 _ rfl) wy_X6_wrong ml_X6_133 (m_recv F) ⟨Nat.le_of_ble_eq_true rfl, Nat.le_of_ble_eq_true rfl⟩ rfl rfl (Nat.le_of_ble_eq_true rfl) ⟨Nat.zero_le _, Nat.zero_le _⟩ dX6_number_135 rfl ?_
      obtain rfl := Option.some.inj hf
      exact hR _ _ dX6_number_138
  have L_35 : ∀ (n : Nat) (S : MS) (x1 : Int32) (x2 : Int32) (x3 : Int32) (x4 : Int32), l_X6_number_35 n S x1 x2 x3 x4 = some q → G K (mX D cI cZ (kA K) ad) 0 0 35 S [(0, .ref (ad 0)), (1, .int x1), (2, .int x2), (3, .int x3), (4, .int x4)] [] := by
    intro n
    induction n with
    | zero =>
      intro S x1 x2 x3 x4 hf
      rw [l_X6_number_35] at hf
      cases hf
    | succ n ih =>
      intro S x1 x2 x3 x4 hf
      rw [l_X6_number_35] at hf
      refine g_aload_n 36 0 F dX6_number_35 rfl rfl ?_
      refine m_get_8 39 F fl_X6_114 dX6_number_36 rfl ?_
      refine g_aload_n 40 0 F dX6_number_39 rfl rfl ?_
      refine m_get_6 43 F fl_X6_108 dX6_number_40 rfl ?_
      refine g_icmp_ge 120 46 F dX6_number_43 rfl rfl hf (fun _ hf => ?_) (fun _ hf => ?_)
      · exact G.lvs [0, 1, 2, 3, 4] rfl (J_120 S x1 x2 x3 x4 hf)
      · refine g_aload_n 47 0 F dX6_number_46 rfl rfl ?_
        refine m_get_5 50 F fl_X6_22 dX6_number_47 rfl ?_
        refine g_aload_n 51 0 F dX6_number_50 rfl rfl ?_
        refine m_get_8 54 F fl_X6_114 dX6_number_51 rfl ?_
        obtain ⟨h4, hf⟩ := op_ok hf
        refine m_ld_5 55 F h4 dX6_number_54 rfl ?_
        refine g_bipush 57 (v := 48) F dX6_number_55 (by decide) rfl ?_
        refine g_bipush 59 (v := 57) F dX6_number_57 (by decide) rfl ?_
        refine g_cSi 62 (st := []) F hok (c_X6_in (kl K) D cI cZ ad (kA K) S (S.2 5 (S.1 8).toNatClampNeg) 48 57 _ rfl) ws_X6_in ml_X6_42 ⟨Nat.le_of_ble_eq_true rfl, Nat.le_of_ble_eq_true rfl⟩ rfl rfl (Nat.le_of_ble_eq_true rfl) ⟨Nat.zero_le _, Nat.zero_le _⟩ dX6_number_59 rfl ?_
        refine g_ifeq_b 120 65 F dX6_number_62 rfl rfl hf (fun _ hf => ?_) (fun _ hf => ?_)
        · exact G.lvs [0, 1, 2, 3, 4] rfl (J_120 S x1 x2 x3 x4 hf)
        · refine g_aload_n 66 0 F dX6_number_65 rfl rfl ?_
          refine g_aload_n 67 0 F dX6_number_66 rfl rfl ?_
          refine m_get_8 70 F fl_X6_114 dX6_number_67 rfl ?_
          refine g_iload 72 4 F dX6_number_70 rfl rfl ?_
          refine g_isub 73 F dX6_number_72 rfl ?_
          refine g_iconst 74 (v := 4) F dX6_number_73 (by decide) rfl ?_
          refine g_icmp_ge 100 77 F dX6_number_74 rfl rfl hf (fun _ hf => ?_) (fun _ hf => ?_)
          · refine g_aload_n 101 0 F dX6_number_100 rfl rfl ?_
            refine m_get_10 104 F fl_X6_135 dX6_number_101 rfl ?_
            refine m_put_10 107 F fl_X6_135 dX6_number_104 rfl ?_
            refine g_aload_n 108 0 F dX6_number_107 rfl rfl ?_
            refine g_dup 109 F dX6_number_108 rfl rfl ?_
            refine m_get_8 112 F fl_X6_114 dX6_number_109 rfl ?_
            refine g_iconst 113 (v := 1) F dX6_number_112 (by decide) rfl ?_
            refine g_iadd 114 F dX6_number_113 rfl ?_
            refine m_put_8 117 F fl_X6_114 dX6_number_114 rfl ?_
            refine g_goto 35 F dX6_number_117 rfl ?_
            exact G.lvs [0, 1, 2, 3, 4] rfl (ih (mS (mS S 10 (S.1 10)) 8 (((mS S 10 (S.1 10)).1 8) + 1)) x1 x2 x3 x4 hf)
          · refine g_bipush 79 (v := 10) F dX6_number_77 (by decide) rfl ?_
            refine g_aload_n 80 0 F dX6_number_79 rfl rfl ?_
            refine m_get_10 83 F fl_X6_135 dX6_number_80 rfl ?_
            refine g_imul 84 F dX6_number_83 rfl ?_
            refine g_aload_n 85 0 F dX6_number_84 rfl rfl ?_
            refine m_get_5 88 F fl_X6_22 dX6_number_85 rfl ?_
            refine g_aload_n 89 0 F dX6_number_88 rfl rfl ?_
            refine m_get_8 92 F fl_X6_114 dX6_number_89 rfl ?_
            obtain ⟨h5, hf⟩ := op_ok hf
            refine m_ld_5 93 F h5 dX6_number_92 rfl ?_
            refine g_iadd 94 F dX6_number_93 rfl ?_
            refine g_bipush 96 (v := 48) F dX6_number_94 (by decide) rfl ?_
            refine g_isub 97 F dX6_number_96 rfl ?_
            refine g_goto 104 F dX6_number_97 rfl ?_
            refine m_put_10 107 F fl_X6_135 dX6_number_104 rfl ?_
            refine g_aload_n 108 0 F dX6_number_107 rfl rfl ?_
            refine g_dup 109 F dX6_number_108 rfl rfl ?_
            refine m_get_8 112 F fl_X6_114 dX6_number_109 rfl ?_
            refine g_iconst 113 (v := 1) F dX6_number_112 (by decide) rfl ?_
            refine g_iadd 114 F dX6_number_113 rfl ?_
            refine m_put_8 117 F fl_X6_114 dX6_number_114 rfl ?_
            refine g_goto 35 F dX6_number_117 rfl ?_
            exact G.lvs [0, 1, 2, 3, 4] rfl (ih (mS (mS S 10 (((10 * (S.1 10)) + (S.2 5 (S.1 8).toNatClampNeg)) - 48)) 8 (((mS S 10 (((10 * (S.1 10)) + (S.2 5 (S.1 8).toNatClampNeg)) - 48)).1 8) + 1)) x1 x2 x3 x4 hf)
  unfold f_X6_number at hf
  refine g_aload_n 1 0 F dX6_number_0 rfl rfl ?_
  obtain ⟨q1, e2, hf⟩ := op_bd hf
  refine g_cVi 4 (st := []) F hok (c_X6_here (kl K) D cI cZ ad (kA K) S q1 e2) wy_X6_here ml_X6_129 (m_recv F) ⟨Nat.le_of_ble_eq_true rfl, Nat.le_of_ble_eq_true rfl⟩ rfl rfl (Nat.le_of_ble_eq_true rfl) ⟨Nat.zero_le _, Nat.zero_le _⟩ dX6_number_1 rfl ?_
  refine g_bipush 6 (v := 48) F dX6_number_4 (by decide) rfl ?_
  refine g_bipush 8 (v := 57) F dX6_number_6 (by decide) rfl ?_
  refine g_cSi 11 (st := []) F hok (c_X6_in (kl K) D cI cZ ad (kA K) q1.2 q1.1 48 57 _ rfl) ws_X6_in ml_X6_42 ⟨Nat.le_of_ble_eq_true rfl, Nat.le_of_ble_eq_true rfl⟩ rfl rfl (Nat.le_of_ble_eq_true rfl) ⟨Nat.zero_le _, Nat.zero_le _⟩ dX6_number_8 rfl ?_
  refine g_ifne_b 24 14 F dX6_number_11 rfl rfl hf (fun _ hf => ?_) (fun _ hf => ?_)
  · refine g_aload_n 25 0 F dX6_number_24 rfl rfl ?_
    refine m_get_8 28 F fl_X6_114 dX6_number_25 rfl ?_
    refine g_istore 30 [(4, .int (q1.2.1 8)), (0, .ref (ad 0)), (1, .int a1), (2, .int a2), (3, .int a3)] F dX6_number_28 (lt_kn hn (by decide)) rfl rfl ?_
    refine g_aload_n 31 1 F dX6_number_30 rfl rfl ?_
    refine g_iconst 32 (v := 0) F dX6_number_31 (by decide) rfl ?_
    refine m_put_10 35 F fl_X6_135 dX6_number_32 rfl ?_
    exact G.lvs [1, 2, 3, 4, 0] rfl (L_35 fu (mS q1.2 10 0) a1 a2 a3 (q1.2.1 8) hf)
  · refine g_aload_n 15 0 F dX6_number_14 rfl rfl ?_
    refine g_iconst 16 (v := 1) F dX6_number_15 (by decide) rfl ?_
    refine g_aload_n 17 0 F dX6_number_16 rfl rfl ?_
    refine m_get_8 20 F fl_X6_114 dX6_number_17 rfl ?_
    refine g_cVi 23 (st := []) F hok (c_X6_wrong (kl K) D cI cZ ad (kA K) q1.2 1 (q1.2.1 8) _ rfl) wy_X6_wrong ml_X6_133 (m_recv F) ⟨Nat.le_of_ble_eq_true rfl, Nat.le_of_ble_eq_true rfl⟩ rfl rfl (Nat.le_of_ble_eq_true rfl) ⟨Nat.zero_le _, Nat.zero_le _⟩ dX6_number_20 rfl ?_
    obtain rfl := Option.some.inj hf
    exact hR _ _ dX6_number_23
theorem c_X6_number (l : Launch) (D : va_G) (cI cZ : ClassId) (ad : Nat → Nat) (A : Nat → Prop) (S : MS) (a1 : Int32) (a2 : Int32) (a3 : Int32) (q : Bool × MS) (hf : f_X6_number S a1 a2 a3 = some q) : Ci l yX6_number cX6_number 5 (some .boolean) 1 22 (mX D cI cZ A ad) (mKf D cI cZ) A S [.ref (ad 0), .int a1, .int a2, .int a3] (bI q.1) q.2 := by
  refine met_z (by decide +kernel) (Nat.le_of_ble_eq_true rfl) (fun K hl hA hn F hR => ?_)
  subst hl; subst hA
  exact w_X6_number D cI cZ ad K F hn S a1 a2 a3 q hf hR
set_option maxHeartbeats 4000000 in
set_option maxRecDepth 100000 in
theorem w_X6_who (D : va_G) (cI cZ : ClassId) (ad : Nat → Nat) (K : Ctx) (F : Fx K cX6_who RX6 (mKf D cI cZ) 2 46) (hn : kn K = 1) (S : MS) (q : Bool × MS) (hf : f_X6_who S = some q) (hR : ∀ (pc : Nat) (lv : List (Nat × Value)), decode cX6_who pc = .ok (.ireturn, 1) → G K (mX D cI cZ (kA K) ad) 0 0 pc q.2 lv [.int (bI q.1)]) : G K (mX D cI cZ (kA K) ad) 0 0 0 S [(0, .ref (ad 0))] [] := by
  have hok := mKf_ok D cI cZ (kA K)
  unfold f_X6_who at hf
  refine g_aload_n 1 0 F dX6_who_0 rfl rfl ?_
  refine g_iconst 2 (v := 0) F dX6_who_1 (by decide) rfl ?_
  refine g_iconst 3 (v := 0) F dX6_who_2 (by decide) rfl ?_
  refine g_aload_n 4 0 F dX6_who_3 rfl rfl ?_
  refine m_get_1 7 F fl_X6_7 dX6_who_4 rfl ?_
  refine g_iconst 8 (v := 2) F dX6_who_7 (by decide) rfl ?_
  refine m_ldK_1 9 2 F (by decide) (by decide) dX6_who_8 rfl ?_
  refine g_iconst 10 (v := 1) F dX6_who_9 (by decide) rfl ?_
  refine g_isub 11 F dX6_who_10 rfl ?_
  obtain ⟨q1, e2, hf⟩ := op_bd hf
  refine g_cVi 14 (st := []) F hok (c_X6_number (kl K) D cI cZ ad (kA K) S 0 0 ((S.2 1 2) - 1) q1 e2) wy_X6_number ml_X6_138 (m_recv F) ⟨Nat.le_of_ble_eq_true rfl, Nat.le_of_ble_eq_true rfl⟩ rfl rfl (Nat.le_of_ble_eq_true rfl) ⟨Nat.zero_le _, Nat.zero_le _⟩ dX6_who_11 rfl ?_
  obtain rfl := Option.some.inj hf
  exact hR _ _ dX6_who_14
theorem c_X6_who (l : Launch) (D : va_G) (cI cZ : ClassId) (ad : Nat → Nat) (A : Nat → Prop) (S : MS) (q : Bool × MS) (hf : f_X6_who S = some q) : Ci l yX6_who cX6_who 1 (some .boolean) 2 46 (mX D cI cZ A ad) (mKf D cI cZ) A S [.ref (ad 0)] (bI q.1) q.2 := by
  refine met_z (by decide +kernel) (Nat.le_of_ble_eq_true rfl) (fun K hl hA hn F hR => ?_)
  subst hl; subst hA
  exact w_X6_who D cI cZ ad K F hn S q hf hR
set_option maxHeartbeats 4000000 in
set_option maxRecDepth 100000 in
theorem w_X6_readFile (D : va_G) (cI cZ : ClassId) (ad : Nat → Nat) (K : Ctx) (F : Fx K cX6_readFile RX6 (mKf D cI cZ) 3 66) (hn : kn K = 1) (S : MS) (q : Bool × MS) (hf : f_X6_readFile S = some q) (hR : ∀ (pc : Nat) (lv : List (Nat × Value)), decode cX6_readFile pc = .ok (.ireturn, 1) → G K (mX D cI cZ (kA K) ad) 0 0 pc q.2 lv [.int (bI q.1)]) : G K (mX D cI cZ (kA K) ad) 0 0 0 S [(0, .ref (ad 0))] [] := by
  have hok := mKf_ok D cI cZ (kA K)
  unfold f_X6_readFile at hf
  refine g_aload_n 1 0 F dX6_readFile_0 rfl rfl ?_
  obtain ⟨q1, e2, hf⟩ := op_bd hf
  refine g_cVi 4 (st := []) F hok (c_X6_who (kl K) D cI cZ ad (kA K) S q1 e2) wy_X6_who ml_X6_141 (m_recv F) ⟨Nat.le_of_ble_eq_true rfl, Nat.le_of_ble_eq_true rfl⟩ rfl rfl (Nat.le_of_ble_eq_true rfl) ⟨Nat.zero_le _, Nat.zero_le _⟩ dX6_readFile_1 rfl ?_
  refine g_ifeq_b 93 7 F dX6_readFile_4 rfl rfl hf (fun _ hf => ?_) (fun _ hf => ?_)
  · refine g_iconst 94 (v := 0) F dX6_readFile_93 (by decide) rfl ?_
    obtain rfl := Option.some.inj hf
    exact hR _ _ dX6_readFile_94
  · refine g_aload_n 8 0 F dX6_readFile_7 rfl rfl ?_
    refine g_iconst 9 (v := 1) F dX6_readFile_8 (by decide) rfl ?_
    refine g_iconst 10 (v := 0) F dX6_readFile_9 (by decide) rfl ?_
    refine g_sipush 13 (v := 1099) F dX6_readFile_10 (by decide) rfl ?_
    obtain ⟨q3, e4, hf⟩ := op_bd hf
    refine g_cVi 16 (st := []) F hok (c_X6_number (kl K) D cI cZ ad (kA K) q1.2 1 0 1099 q3 e4) wy_X6_number ml_X6_138 (m_recv F) ⟨Nat.le_of_ble_eq_true rfl, Nat.le_of_ble_eq_true rfl⟩ rfl rfl (Nat.le_of_ble_eq_true rfl) ⟨Nat.zero_le _, Nat.zero_le _⟩ dX6_readFile_13 rfl ?_
    refine g_ifeq_b 93 19 F dX6_readFile_16 rfl rfl hf (fun _ hf => ?_) (fun _ hf => ?_)
    · refine g_iconst 94 (v := 0) F dX6_readFile_93 (by decide) rfl ?_
      obtain rfl := Option.some.inj hf
      exact hR _ _ dX6_readFile_94
    · refine g_aload_n 20 0 F dX6_readFile_19 rfl rfl ?_
      refine g_iconst 21 (v := 2) F dX6_readFile_20 (by decide) rfl ?_
      refine g_aload_n 22 0 F dX6_readFile_21 rfl rfl ?_
      refine m_get_13 25 F fl_X6_25 dX6_readFile_22 rfl ?_
      refine g_iconst 26 (v := 1) F dX6_readFile_25 (by decide) rfl ?_
      refine m_ldK_13 27 1 F (by decide) (by decide) dX6_readFile_26 rfl ?_
      refine g_aload_n 28 0 F dX6_readFile_27 rfl rfl ?_
      refine m_get_13 31 F fl_X6_25 dX6_readFile_28 rfl ?_
      refine g_iconst 32 (v := 1) F dX6_readFile_31 (by decide) rfl ?_
      refine m_ldK_13 33 1 F (by decide) (by decide) dX6_readFile_32 rfl ?_
      refine g_bipush 35 (v := 60) F dX6_readFile_33 (by decide) rfl ?_
      refine g_iadd 36 F dX6_readFile_35 rfl ?_
      refine g_iconst 37 (v := 1) F dX6_readFile_36 (by decide) rfl ?_
      refine g_isub 38 F dX6_readFile_37 rfl ?_
      refine g_sipush 41 (v := 1099) F dX6_readFile_38 (by decide) rfl ?_
      refine g_icmp_ge 58 44 F dX6_readFile_41 rfl rfl hf (fun _ hf => ?_) (fun _ hf => ?_)
      · refine g_sipush 61 (v := 1099) F dX6_readFile_58 (by decide) rfl ?_
        obtain ⟨q5, e6, hf⟩ := op_bd hf
        refine g_cVi 64 (st := []) F hok (c_X6_number (kl K) D cI cZ ad (kA K) q3.2 2 (q3.2.2 13 1) 1099 q5 e6) wy_X6_number ml_X6_138 (m_recv F) ⟨Nat.le_of_ble_eq_true rfl, Nat.le_of_ble_eq_true rfl⟩ rfl rfl (Nat.le_of_ble_eq_true rfl) ⟨Nat.zero_le _, Nat.zero_le _⟩ dX6_readFile_61 rfl ?_
        refine g_ifeq_b 93 67 F dX6_readFile_64 rfl rfl hf (fun _ hf => ?_) (fun _ hf => ?_)
        · refine g_iconst 94 (v := 0) F dX6_readFile_93 (by decide) rfl ?_
          obtain rfl := Option.some.inj hf
          exact hR _ _ dX6_readFile_94
        · refine g_aload_n 68 0 F dX6_readFile_67 rfl rfl ?_
          refine g_iconst 69 (v := 3) F dX6_readFile_68 (by decide) rfl ?_
          refine g_iconst 70 (v := 5) F dX6_readFile_69 (by decide) rfl ?_
          refine g_bipush 72 (v := 22) F dX6_readFile_70 (by decide) rfl ?_
          obtain ⟨q7, e8, hf⟩ := op_bd hf
          refine g_cVi 75 (st := []) F hok (c_X6_number (kl K) D cI cZ ad (kA K) q5.2 3 5 22 q7 e8) wy_X6_number ml_X6_138 (m_recv F) ⟨Nat.le_of_ble_eq_true rfl, Nat.le_of_ble_eq_true rfl⟩ rfl rfl (Nat.le_of_ble_eq_true rfl) ⟨Nat.zero_le _, Nat.zero_le _⟩ dX6_readFile_72 rfl ?_
          refine g_ifeq_b 93 78 F dX6_readFile_75 rfl rfl hf (fun _ hf => ?_) (fun _ hf => ?_)
          · refine g_iconst 94 (v := 0) F dX6_readFile_93 (by decide) rfl ?_
            obtain rfl := Option.some.inj hf
            exact hR _ _ dX6_readFile_94
          · refine g_aload_n 79 0 F dX6_readFile_78 rfl rfl ?_
            refine g_iconst 80 (v := 4) F dX6_readFile_79 (by decide) rfl ?_
            refine g_iconst 81 (v := 0) F dX6_readFile_80 (by decide) rfl ?_
            refine g_bipush 83 (v := 9) F dX6_readFile_81 (by decide) rfl ?_
            obtain ⟨q9, e10, hf⟩ := op_bd hf
            refine g_cVi 86 (st := []) F hok (c_X6_number (kl K) D cI cZ ad (kA K) q7.2 4 0 9 q9 e10) wy_X6_number ml_X6_138 (m_recv F) ⟨Nat.le_of_ble_eq_true rfl, Nat.le_of_ble_eq_true rfl⟩ rfl rfl (Nat.le_of_ble_eq_true rfl) ⟨Nat.zero_le _, Nat.zero_le _⟩ dX6_readFile_83 rfl ?_
            refine g_ifeq_b 93 89 F dX6_readFile_86 rfl rfl hf (fun _ hf => ?_) (fun _ hf => ?_)
            · refine g_iconst 94 (v := 0) F dX6_readFile_93 (by decide) rfl ?_
              obtain rfl := Option.some.inj hf
              exact hR _ _ dX6_readFile_94
            · refine g_iconst 90 (v := 1) F dX6_readFile_89 (by decide) rfl ?_
              refine g_goto 94 F dX6_readFile_90 rfl ?_
              obtain rfl := Option.some.inj hf
              exact hR _ _ dX6_readFile_94
      · refine g_aload_n 45 0 F dX6_readFile_44 rfl rfl ?_
        refine m_get_13 48 F fl_X6_25 dX6_readFile_45 rfl ?_
        refine g_iconst 49 (v := 1) F dX6_readFile_48 (by decide) rfl ?_
        refine m_ldK_13 50 1 F (by decide) (by decide) dX6_readFile_49 rfl ?_
        refine g_bipush 52 (v := 60) F dX6_readFile_50 (by decide) rfl ?_
        refine g_iadd 53 F dX6_readFile_52 rfl ?_
        refine g_iconst 54 (v := 1) F dX6_readFile_53 (by decide) rfl ?_
        refine g_isub 55 F dX6_readFile_54 rfl ?_
        refine g_goto 61 F dX6_readFile_55 rfl ?_
        obtain ⟨q11, e12, hf⟩ := op_bd hf
        refine g_cVi 64 (st := []) F hok (c_X6_number (kl K) D cI cZ ad (kA K) q3.2 2 (q3.2.2 13 1) (((q3.2.2 13 1) + 60) - 1) q11 e12) wy_X6_number ml_X6_138 (m_recv F) ⟨Nat.le_of_ble_eq_true rfl, Nat.le_of_ble_eq_true rfl⟩ rfl rfl (Nat.le_of_ble_eq_true rfl) ⟨Nat.zero_le _, Nat.zero_le _⟩ dX6_readFile_61 rfl ?_
        refine g_ifeq_b 93 67 F dX6_readFile_64 rfl rfl hf (fun _ hf => ?_) (fun _ hf => ?_)
        · refine g_iconst 94 (v := 0) F dX6_readFile_93 (by decide) rfl ?_
          obtain rfl := Option.some.inj hf
          exact hR _ _ dX6_readFile_94
        · refine g_aload_n 68 0 F dX6_readFile_67 rfl rfl ?_
          refine g_iconst 69 (v := 3) F dX6_readFile_68 (by decide) rfl ?_
          refine g_iconst 70 (v := 5) F dX6_readFile_69 (by decide) rfl ?_
          refine g_bipush 72 (v := 22) F dX6_readFile_70 (by decide) rfl ?_
          obtain ⟨q13, e14, hf⟩ := op_bd hf
          refine g_cVi 75 (st := []) F hok (c_X6_number (kl K) D cI cZ ad (kA K) q11.2 3 5 22 q13 e14) wy_X6_number ml_X6_138 (m_recv F) ⟨Nat.le_of_ble_eq_true rfl, Nat.le_of_ble_eq_true rfl⟩ rfl rfl (Nat.le_of_ble_eq_true rfl) ⟨Nat.zero_le _, Nat.zero_le _⟩ dX6_readFile_72 rfl ?_
          refine g_ifeq_b 93 78 F dX6_readFile_75 rfl rfl hf (fun _ hf => ?_) (fun _ hf => ?_)
          · refine g_iconst 94 (v := 0) F dX6_readFile_93 (by decide) rfl ?_
            obtain rfl := Option.some.inj hf
            exact hR _ _ dX6_readFile_94
          · refine g_aload_n 79 0 F dX6_readFile_78 rfl rfl ?_
            refine g_iconst 80 (v := 4) F dX6_readFile_79 (by decide) rfl ?_
            refine g_iconst 81 (v := 0) F dX6_readFile_80 (by decide) rfl ?_
            refine g_bipush 83 (v := 9) F dX6_readFile_81 (by decide) rfl ?_
            obtain ⟨q15, e16, hf⟩ := op_bd hf
            refine g_cVi 86 (st := []) F hok (c_X6_number (kl K) D cI cZ ad (kA K) q13.2 4 0 9 q15 e16) wy_X6_number ml_X6_138 (m_recv F) ⟨Nat.le_of_ble_eq_true rfl, Nat.le_of_ble_eq_true rfl⟩ rfl rfl (Nat.le_of_ble_eq_true rfl) ⟨Nat.zero_le _, Nat.zero_le _⟩ dX6_readFile_83 rfl ?_
            refine g_ifeq_b 93 89 F dX6_readFile_86 rfl rfl hf (fun _ hf => ?_) (fun _ hf => ?_)
            · refine g_iconst 94 (v := 0) F dX6_readFile_93 (by decide) rfl ?_
              obtain rfl := Option.some.inj hf
              exact hR _ _ dX6_readFile_94
            · refine g_iconst 90 (v := 1) F dX6_readFile_89 (by decide) rfl ?_
              refine g_goto 94 F dX6_readFile_90 rfl ?_
              obtain rfl := Option.some.inj hf
              exact hR _ _ dX6_readFile_94
theorem c_X6_readFile (l : Launch) (D : va_G) (cI cZ : ClassId) (ad : Nat → Nat) (A : Nat → Prop) (S : MS) (q : Bool × MS) (hf : f_X6_readFile S = some q) : Ci l yX6_readFile cX6_readFile 1 (some .boolean) 3 66 (mX D cI cZ A ad) (mKf D cI cZ) A S [.ref (ad 0)] (bI q.1) q.2 := by
  refine met_z (by decide +kernel) (Nat.le_of_ble_eq_true rfl) (fun K hl hA hn F hR => ?_)
  subst hl; subst hA
  exact w_X6_readFile D cI cZ ad K F hn S q hf hR
set_option maxHeartbeats 4000000 in
set_option maxRecDepth 100000 in
theorem w_X6_readTest (D : va_G) (cI cZ : ClassId) (ad : Nat → Nat) (K : Ctx) (F : Fx K cX6_readTest RX6 (mKf D cI cZ) 3 66) (hn : kn K = 3) (S : MS) (q : Bool × MS) (hf : f_X6_readTest S = some q) (hR : ∀ (pc : Nat) (lv : List (Nat × Value)), decode cX6_readTest pc = .ok (.ireturn, 1) → G K (mX D cI cZ (kA K) ad) 0 0 pc q.2 lv [.int (bI q.1)]) : G K (mX D cI cZ (kA K) ad) 0 0 0 S [(0, .ref (ad 0))] [] := by
  have hok := mKf_ok D cI cZ (kA K)
  unfold f_X6_readTest at hf
  refine g_aload_n 1 0 F dX6_readTest_0 rfl rfl ?_
  obtain ⟨q1, e2, hf⟩ := op_bd hf
  refine g_cVi 4 (st := []) F hok (c_X6_who (kl K) D cI cZ ad (kA K) S q1 e2) wy_X6_who ml_X6_141 (m_recv F) ⟨Nat.le_of_ble_eq_true rfl, Nat.le_of_ble_eq_true rfl⟩ rfl rfl (Nat.le_of_ble_eq_true rfl) ⟨Nat.zero_le _, Nat.zero_le _⟩ dX6_readTest_1 rfl ?_
  refine g_ifeq_b 18 7 F dX6_readTest_4 rfl rfl hf (fun _ hf => ?_) (fun _ hf => ?_)
  · refine g_iconst 19 (v := 0) F dX6_readTest_18 (by decide) rfl ?_
    obtain rfl := Option.some.inj hf
    exact hR _ _ dX6_readTest_19
  · refine g_aload_n 8 0 F dX6_readTest_7 rfl rfl ?_
    refine g_iconst 9 (v := 1) F dX6_readTest_8 (by decide) rfl ?_
    refine g_iconst 10 (v := 0) F dX6_readTest_9 (by decide) rfl ?_
    refine g_bipush 12 (v := 9) F dX6_readTest_10 (by decide) rfl ?_
    obtain ⟨q3, e4, hf⟩ := op_bd hf
    refine g_cVi 15 (st := []) F hok (c_X6_number (kl K) D cI cZ ad (kA K) q1.2 1 0 9 q3 e4) wy_X6_number ml_X6_138 (m_recv F) ⟨Nat.le_of_ble_eq_true rfl, Nat.le_of_ble_eq_true rfl⟩ rfl rfl (Nat.le_of_ble_eq_true rfl) ⟨Nat.zero_le _, Nat.zero_le _⟩ dX6_readTest_12 rfl ?_
    refine g_ifne_b 20 18 F dX6_readTest_15 rfl rfl hf (fun _ hf => ?_) (fun _ hf => ?_)
    · refine g_aload_n 21 0 F dX6_readTest_20 rfl rfl ?_
      obtain ⟨q5, e6, hf⟩ := op_bd hf
      refine g_cVi 24 (st := []) F hok (c_X6_here (kl K) D cI cZ ad (kA K) q3.2 q5 e6) wy_X6_here ml_X6_129 (m_recv F) ⟨Nat.le_of_ble_eq_true rfl, Nat.le_of_ble_eq_true rfl⟩ rfl rfl (Nat.le_of_ble_eq_true rfl) ⟨Nat.zero_le _, Nat.zero_le _⟩ dX6_readTest_21 rfl ?_
      refine g_bipush 26 (v := 97) F dX6_readTest_24 (by decide) rfl ?_
      refine g_bipush 28 (v := 122) F dX6_readTest_26 (by decide) rfl ?_
      refine g_cSi 31 (st := []) F hok (c_X6_in (kl K) D cI cZ ad (kA K) q5.2 q5.1 97 122 _ rfl) ws_X6_in ml_X6_42 ⟨Nat.le_of_ble_eq_true rfl, Nat.le_of_ble_eq_true rfl⟩ rfl rfl (Nat.le_of_ble_eq_true rfl) ⟨Nat.zero_le _, Nat.zero_le _⟩ dX6_readTest_28 rfl ?_
      refine g_ifne_b 44 34 F dX6_readTest_31 rfl rfl hf (fun _ hf => ?_) (fun _ hf => ?_)
      · refine g_aload_n 45 0 F dX6_readTest_44 rfl rfl ?_
        obtain ⟨q7, e8, hf⟩ := op_bd hf
        refine g_cVl 48 (st := []) F hok (c_X6_readWord (kl K) D cI cZ ad (kA K) q5.2 q7 e8) wy_X6_readWord ml_X6_145 (m_recv F) ⟨Nat.le_of_ble_eq_true rfl, Nat.le_of_ble_eq_true rfl⟩ rfl rfl (Nat.le_of_ble_eq_true rfl) ⟨Nat.zero_le _, Nat.zero_le _⟩ dX6_readTest_45 rfl ?_
        refine g_lstore_n 49 [(1, .long q7.1), (0, .ref (ad 0))] F dX6_readTest_48 (lt_kn hn (by decide)) rfl rfl ?_
        refine g_aload_n 50 1 F dX6_readTest_49 rfl rfl ?_
        refine m_get_13 53 F fl_X6_25 dX6_readTest_50 rfl ?_
        refine g_iconst 54 (v := 2) F dX6_readTest_53 (by decide) rfl ?_
        refine g_lload_n 55 0 F dX6_readTest_54 rfl rfl ?_
        refine g_ldc2 58 F cn_X6_149 dX6_readTest_55 rfl ?_
        refine g_lcmp 59 F dX6_readTest_58 rfl ?_
        refine g_if_ne 66 62 F dX6_readTest_59 rfl rfl hf (fun _ hf => ?_) (fun _ hf => ?_)
        · refine g_iconst 67 (v := 0) F dX6_readTest_66 (by decide) rfl ?_
          refine m_stK_13 68 2 F (by decide) (by decide) dX6_readTest_67 rfl ?_
          refine g_lload_n 69 0 F dX6_readTest_68 rfl rfl ?_
          refine g_ldc2 72 F cn_X6_149 dX6_readTest_69 rfl ?_
          refine g_lcmp 73 F dX6_readTest_72 rfl ?_
          refine g_if_eq 96 76 F dX6_readTest_73 rfl rfl hf (fun _ hf => ?_) (fun _ hf => ?_)
          · refine g_iconst 97 (v := 1) F dX6_readTest_96 (by decide) rfl ?_
            refine g_goto 101 F dX6_readTest_97 rfl ?_
            obtain rfl := Option.some.inj hf
            exact hR _ _ dX6_readTest_101
          · refine g_lload_n 77 0 F dX6_readTest_76 rfl rfl ?_
            refine g_ldc2 80 F cn_X6_151 dX6_readTest_77 rfl ?_
            refine g_lcmp 81 F dX6_readTest_80 rfl ?_
            refine g_if_eq 96 84 F dX6_readTest_81 rfl rfl hf (fun _ hf => ?_) (fun _ hf => ?_)
            · refine g_iconst 97 (v := 1) F dX6_readTest_96 (by decide) rfl ?_
              refine g_goto 101 F dX6_readTest_97 rfl ?_
              obtain rfl := Option.some.inj hf
              exact hR _ _ dX6_readTest_101
            · refine g_aload_n 85 1 F dX6_readTest_84 rfl rfl ?_
              refine g_iconst 86 (v := 1) F dX6_readTest_85 (by decide) rfl ?_
              refine g_aload_n 87 1 F dX6_readTest_86 rfl rfl ?_
              refine m_get_11 90 F fl_X6_120 dX6_readTest_87 rfl ?_
              refine g_cVi 93 (st := []) F hok (c_X6_wrong (kl K) D cI cZ ad (kA K) (mA q7.2 13 2 0) 1 ((mA q7.2 13 2 0).1 11) _ rfl) wy_X6_wrong ml_X6_133 (m_recv F) ⟨Nat.le_of_ble_eq_true rfl, Nat.le_of_ble_eq_true rfl⟩ rfl rfl (Nat.le_of_ble_eq_true rfl) ⟨Nat.zero_le _, Nat.zero_le _⟩ dX6_readTest_90 rfl ?_
              refine g_ifeq_b 100 96 F dX6_readTest_93 rfl rfl hf (fun _ hf => ?_) (fun _ hf => ?_)
              · refine g_iconst 101 (v := 0) F dX6_readTest_100 (by decide) rfl ?_
                obtain rfl := Option.some.inj hf
                exact hR _ _ dX6_readTest_101
              · refine g_iconst 97 (v := 1) F dX6_readTest_96 (by decide) rfl ?_
                refine g_goto 101 F dX6_readTest_97 rfl ?_
                obtain rfl := Option.some.inj hf
                exact hR _ _ dX6_readTest_101
        · refine g_iconst 63 (v := 1) F dX6_readTest_62 (by decide) rfl ?_
          refine g_goto 67 F dX6_readTest_63 rfl ?_
          refine m_stK_13 68 2 F (by decide) (by decide) dX6_readTest_67 rfl ?_
          refine g_lload_n 69 0 F dX6_readTest_68 rfl rfl ?_
          refine g_ldc2 72 F cn_X6_149 dX6_readTest_69 rfl ?_
          refine g_lcmp 73 F dX6_readTest_72 rfl ?_
          refine g_if_eq 96 76 F dX6_readTest_73 rfl rfl hf (fun _ hf => ?_) (fun _ hf => ?_)
          · refine g_iconst 97 (v := 1) F dX6_readTest_96 (by decide) rfl ?_
            refine g_goto 101 F dX6_readTest_97 rfl ?_
            obtain rfl := Option.some.inj hf
            exact hR _ _ dX6_readTest_101
          · refine g_lload_n 77 0 F dX6_readTest_76 rfl rfl ?_
            refine g_ldc2 80 F cn_X6_151 dX6_readTest_77 rfl ?_
            refine g_lcmp 81 F dX6_readTest_80 rfl ?_
            refine g_if_eq 96 84 F dX6_readTest_81 rfl rfl hf (fun _ hf => ?_) (fun _ hf => ?_)
            · refine g_iconst 97 (v := 1) F dX6_readTest_96 (by decide) rfl ?_
              refine g_goto 101 F dX6_readTest_97 rfl ?_
              obtain rfl := Option.some.inj hf
              exact hR _ _ dX6_readTest_101
            · refine g_aload_n 85 1 F dX6_readTest_84 rfl rfl ?_
              refine g_iconst 86 (v := 1) F dX6_readTest_85 (by decide) rfl ?_
              refine g_aload_n 87 1 F dX6_readTest_86 rfl rfl ?_
              refine m_get_11 90 F fl_X6_120 dX6_readTest_87 rfl ?_
              refine g_cVi 93 (st := []) F hok (c_X6_wrong (kl K) D cI cZ ad (kA K) (mA q7.2 13 2 1) 1 ((mA q7.2 13 2 1).1 11) _ rfl) wy_X6_wrong ml_X6_133 (m_recv F) ⟨Nat.le_of_ble_eq_true rfl, Nat.le_of_ble_eq_true rfl⟩ rfl rfl (Nat.le_of_ble_eq_true rfl) ⟨Nat.zero_le _, Nat.zero_le _⟩ dX6_readTest_90 rfl ?_
              refine g_ifeq_b 100 96 F dX6_readTest_93 rfl rfl hf (fun _ hf => ?_) (fun _ hf => ?_)
              · refine g_iconst 101 (v := 0) F dX6_readTest_100 (by decide) rfl ?_
                obtain rfl := Option.some.inj hf
                exact hR _ _ dX6_readTest_101
              · refine g_iconst 97 (v := 1) F dX6_readTest_96 (by decide) rfl ?_
                refine g_goto 101 F dX6_readTest_97 rfl ?_
                obtain rfl := Option.some.inj hf
                exact hR _ _ dX6_readTest_101
      · refine g_aload_n 35 0 F dX6_readTest_34 rfl rfl ?_
        refine g_iconst 36 (v := 1) F dX6_readTest_35 (by decide) rfl ?_
        refine g_aload_n 37 0 F dX6_readTest_36 rfl rfl ?_
        refine m_get_8 40 F fl_X6_114 dX6_readTest_37 rfl ?_
        refine g_cVi 43 (st := []) F hok (c_X6_wrong (kl K) D cI cZ ad (kA K) q5.2 1 (q5.2.1 8) _ rfl) wy_X6_wrong ml_X6_133 (m_recv F) ⟨Nat.le_of_ble_eq_true rfl, Nat.le_of_ble_eq_true rfl⟩ rfl rfl (Nat.le_of_ble_eq_true rfl) ⟨Nat.zero_le _, Nat.zero_le _⟩ dX6_readTest_40 rfl ?_
        obtain rfl := Option.some.inj hf
        exact hR _ _ dX6_readTest_43
    · refine g_iconst 19 (v := 0) F dX6_readTest_18 (by decide) rfl ?_
      obtain rfl := Option.some.inj hf
      exact hR _ _ dX6_readTest_19
theorem c_X6_readTest (l : Launch) (D : va_G) (cI cZ : ClassId) (ad : Nat → Nat) (A : Nat → Prop) (S : MS) (q : Bool × MS) (hf : f_X6_readTest S = some q) : Ci l yX6_readTest cX6_readTest 3 (some .boolean) 3 66 (mX D cI cZ A ad) (mKf D cI cZ) A S [.ref (ad 0)] (bI q.1) q.2 := by
  refine met_z (by decide +kernel) (Nat.le_of_ble_eq_true rfl) (fun K hl hA hn F hR => ?_)
  subst hl; subst hA
  exact w_X6_readTest D cI cZ ad K F hn S q hf hR
set_option maxHeartbeats 4000000 in
set_option maxRecDepth 100000 in
theorem w_X6_readRest (D : va_G) (cI cZ : ClassId) (ad : Nat → Nat) (K : Ctx) (F : Fx K cX6_readRest RX6 (mKf D cI cZ) 4 88) (hn : kn K = 4) (S : MS) (a1 : Int64) (a2 : Int32) (q : Bool × MS) (hf : f_X6_readRest S a1 a2 = some q) (hR : ∀ (pc : Nat) (lv : List (Nat × Value)), decode cX6_readRest pc = .ok (.ireturn, 1) → G K (mX D cI cZ (kA K) ad) 0 0 pc q.2 lv [.int (bI q.1)]) : G K (mX D cI cZ (kA K) ad) 0 0 0 S [(0, .ref (ad 0)), (1, .long a1), (3, .int a2)] [] := by
  have hok := mKf_ok D cI cZ (kA K)
  unfold f_X6_readRest at hf
  refine g_lload_n 1 1 F dX6_readRest_0 rfl rfl ?_
  refine g_ldc2 4 F cn_X6_153 dX6_readRest_1 rfl ?_
  refine g_lcmp 5 F dX6_readRest_4 rfl ?_
  refine g_if_ne 17 8 F dX6_readRest_5 rfl rfl hf (fun _ hf => ?_) (fun _ hf => ?_)
  · refine g_lload_n 18 1 F dX6_readRest_17 rfl rfl ?_
    refine g_ldc2 21 F cn_X6_155 dX6_readRest_18 rfl ?_
    refine g_lcmp 22 F dX6_readRest_21 rfl ?_
    refine g_if_ne 71 25 F dX6_readRest_22 rfl rfl hf (fun _ hf => ?_) (fun _ hf => ?_)
    · refine g_lload_n 72 1 F dX6_readRest_71 rfl rfl ?_
      refine g_ldc2 75 F cn_X6_157 dX6_readRest_72 rfl ?_
      refine g_lcmp 76 F dX6_readRest_75 rfl ?_
      refine g_if_ne 108 79 F dX6_readRest_76 rfl rfl hf (fun _ hf => ?_) (fun _ hf => ?_)
      · refine g_lload_n 109 1 F dX6_readRest_108 rfl rfl ?_
        refine g_ldc2 112 F cn_X6_159 dX6_readRest_109 rfl ?_
        refine g_lcmp 113 F dX6_readRest_112 rfl ?_
        refine g_if_ne 121 116 F dX6_readRest_113 rfl rfl hf (fun _ hf => ?_) (fun _ hf => ?_)
        · refine g_lload_n 122 1 F dX6_readRest_121 rfl rfl ?_
          refine g_ldc2 125 F cn_X6_164 dX6_readRest_122 rfl ?_
          refine g_lcmp 126 F dX6_readRest_125 rfl ?_
          refine g_if_ne 134 129 F dX6_readRest_126 rfl rfl hf (fun _ hf => ?_) (fun _ hf => ?_)
          · refine g_lload_n 135 1 F dX6_readRest_134 rfl rfl ?_
            refine g_ldc2 138 F cn_X6_169 dX6_readRest_135 rfl ?_
            refine g_lcmp 139 F dX6_readRest_138 rfl ?_
            refine g_if_ne 180 142 F dX6_readRest_139 rfl rfl hf (fun _ hf => ?_) (fun _ hf => ?_)
            · refine g_aload_n 181 0 F dX6_readRest_180 rfl rfl ?_
              refine g_iconst 182 (v := 1) F dX6_readRest_181 (by decide) rfl ?_
              refine g_iload_n 183 2 F dX6_readRest_182 rfl rfl ?_
              refine g_cVi 186 (st := []) F hok (c_X6_wrong (kl K) D cI cZ ad (kA K) S 1 a2 _ rfl) wy_X6_wrong ml_X6_133 (m_recv F) ⟨Nat.le_of_ble_eq_true rfl, Nat.le_of_ble_eq_true rfl⟩ rfl rfl (Nat.le_of_ble_eq_true rfl) ⟨Nat.zero_le _, Nat.zero_le _⟩ dX6_readRest_183 rfl ?_
              obtain rfl := Option.some.inj hf
              exact hR _ _ dX6_readRest_186
            · refine g_aload_n 143 0 F dX6_readRest_142 rfl rfl ?_
              obtain ⟨q1, e2, hf⟩ := op_bd hf
              refine g_cVi 146 (st := []) F hok (c_X6_who (kl K) D cI cZ ad (kA K) S q1 e2) wy_X6_who ml_X6_141 (m_recv F) ⟨Nat.le_of_ble_eq_true rfl, Nat.le_of_ble_eq_true rfl⟩ rfl rfl (Nat.le_of_ble_eq_true rfl) ⟨Nat.zero_le _, Nat.zero_le _⟩ dX6_readRest_143 rfl ?_
              refine g_ifeq_b 176 149 F dX6_readRest_146 rfl rfl hf (fun _ hf => ?_) (fun _ hf => ?_)
              · refine g_iconst 177 (v := 0) F dX6_readRest_176 (by decide) rfl ?_
                refine g_goto 186 F dX6_readRest_177 rfl ?_
                obtain rfl := Option.some.inj hf
                exact hR _ _ dX6_readRest_186
              · refine g_aload_n 150 0 F dX6_readRest_149 rfl rfl ?_
                refine g_iconst 151 (v := 1) F dX6_readRest_150 (by decide) rfl ?_
                refine g_iconst 152 (v := 0) F dX6_readRest_151 (by decide) rfl ?_
                refine g_aload_n 153 0 F dX6_readRest_152 rfl rfl ?_
                refine g_aload_n 154 0 F dX6_readRest_153 rfl rfl ?_
                refine m_get_13 157 F fl_X6_25 dX6_readRest_154 rfl ?_
                refine g_iconst 158 (v := 0) F dX6_readRest_157 (by decide) rfl ?_
                refine m_ldK_13 159 0 F (by decide) (by decide) dX6_readRest_158 rfl ?_
                refine g_bipush 161 (v := 7) F dX6_readRest_159 (by decide) rfl ?_
                obtain ⟨q3, e4, hf⟩ := op_bd hf
                refine g_cVi 164 (st := [.int 0, .int 1, .ref (ad 0)]) F hok (c_X6_its (kl K) D cI cZ ad (kA K) q1.2 (q1.2.2 13 0) 7 q3 e4) wy_X6_its ml_X6_50 (m_recv F) ⟨Nat.le_of_ble_eq_true rfl, Nat.le_of_ble_eq_true rfl⟩ rfl rfl (Nat.le_of_ble_eq_true rfl) ⟨Nat.zero_le _, Nat.zero_le _⟩ dX6_readRest_161 rfl ?_
                refine g_iconst 165 (v := 1) F dX6_readRest_164 (by decide) rfl ?_
                refine g_isub 166 F dX6_readRest_165 rfl ?_
                obtain ⟨q5, e6, hf⟩ := op_bd hf
                refine g_cVi 169 (st := []) F hok (c_X6_number (kl K) D cI cZ ad (kA K) q1.2 1 0 (q3 - 1) q5 e6) wy_X6_number ml_X6_138 (m_recv F) ⟨Nat.le_of_ble_eq_true rfl, Nat.le_of_ble_eq_true rfl⟩ rfl rfl (Nat.le_of_ble_eq_true rfl) ⟨Nat.zero_le _, Nat.zero_le _⟩ dX6_readRest_166 rfl ?_
                refine g_ifeq_b 176 172 F dX6_readRest_169 rfl rfl hf (fun _ hf => ?_) (fun _ hf => ?_)
                · refine g_iconst 177 (v := 0) F dX6_readRest_176 (by decide) rfl ?_
                  refine g_goto 186 F dX6_readRest_177 rfl ?_
                  obtain rfl := Option.some.inj hf
                  exact hR _ _ dX6_readRest_186
                · refine g_iconst 173 (v := 1) F dX6_readRest_172 (by decide) rfl ?_
                  refine g_goto 186 F dX6_readRest_173 rfl ?_
                  obtain rfl := Option.some.inj hf
                  exact hR _ _ dX6_readRest_186
          · refine g_aload_n 130 0 F dX6_readRest_129 rfl rfl ?_
            obtain ⟨q7, e8, hf⟩ := op_bd hf
            refine g_cVi 133 (st := []) F hok (c_X6_readTest (kl K) D cI cZ ad (kA K) S q7 e8) wy_X6_readTest ml_X6_166 (m_recv F) ⟨Nat.le_of_ble_eq_true rfl, Nat.le_of_ble_eq_true rfl⟩ rfl rfl (Nat.le_of_ble_eq_true rfl) ⟨Nat.zero_le _, Nat.zero_le _⟩ dX6_readRest_130 rfl ?_
            obtain rfl := Option.some.inj hf
            exact hR _ _ dX6_readRest_133
        · refine g_aload_n 117 0 F dX6_readRest_116 rfl rfl ?_
          obtain ⟨q9, e10, hf⟩ := op_bd hf
          refine g_cVi 120 (st := []) F hok (c_X6_readFile (kl K) D cI cZ ad (kA K) S q9 e10) wy_X6_readFile ml_X6_161 (m_recv F) ⟨Nat.le_of_ble_eq_true rfl, Nat.le_of_ble_eq_true rfl⟩ rfl rfl (Nat.le_of_ble_eq_true rfl) ⟨Nat.zero_le _, Nat.zero_le _⟩ dX6_readRest_117 rfl ?_
          obtain rfl := Option.some.inj hf
          exact hR _ _ dX6_readRest_120
      · refine g_aload_n 80 0 F dX6_readRest_79 rfl rfl ?_
        refine g_iconst 81 (v := 0) F dX6_readRest_80 (by decide) rfl ?_
        refine g_iconst 82 (v := 0) F dX6_readRest_81 (by decide) rfl ?_
        refine g_sipush 85 (v := 999) F dX6_readRest_82 (by decide) rfl ?_
        obtain ⟨q11, e12, hf⟩ := op_bd hf
        refine g_cVi 88 (st := []) F hok (c_X6_number (kl K) D cI cZ ad (kA K) S 0 0 999 q11 e12) wy_X6_number ml_X6_138 (m_recv F) ⟨Nat.le_of_ble_eq_true rfl, Nat.le_of_ble_eq_true rfl⟩ rfl rfl (Nat.le_of_ble_eq_true rfl) ⟨Nat.zero_le _, Nat.zero_le _⟩ dX6_readRest_85 rfl ?_
        refine g_ifeq_b 106 91 F dX6_readRest_88 rfl rfl hf (fun _ hf => ?_) (fun _ hf => ?_)
        · refine g_iconst 107 (v := 0) F dX6_readRest_106 (by decide) rfl ?_
          obtain rfl := Option.some.inj hf
          exact hR _ _ dX6_readRest_107
        · refine g_aload_n 92 0 F dX6_readRest_91 rfl rfl ?_
          refine g_iconst 93 (v := 1) F dX6_readRest_92 (by decide) rfl ?_
          refine g_iconst 94 (v := 0) F dX6_readRest_93 (by decide) rfl ?_
          refine g_bipush 96 (v := 23) F dX6_readRest_94 (by decide) rfl ?_
          obtain ⟨q13, e14, hf⟩ := op_bd hf
          refine g_cVi 99 (st := []) F hok (c_X6_number (kl K) D cI cZ ad (kA K) q11.2 1 0 23 q13 e14) wy_X6_number ml_X6_138 (m_recv F) ⟨Nat.le_of_ble_eq_true rfl, Nat.le_of_ble_eq_true rfl⟩ rfl rfl (Nat.le_of_ble_eq_true rfl) ⟨Nat.zero_le _, Nat.zero_le _⟩ dX6_readRest_96 rfl ?_
          refine g_ifeq_b 106 102 F dX6_readRest_99 rfl rfl hf (fun _ hf => ?_) (fun _ hf => ?_)
          · refine g_iconst 107 (v := 0) F dX6_readRest_106 (by decide) rfl ?_
            obtain rfl := Option.some.inj hf
            exact hR _ _ dX6_readRest_107
          · refine g_iconst 103 (v := 1) F dX6_readRest_102 (by decide) rfl ?_
            refine g_goto 107 F dX6_readRest_103 rfl ?_
            obtain rfl := Option.some.inj hf
            exact hR _ _ dX6_readRest_107
    · refine g_aload_n 26 0 F dX6_readRest_25 rfl rfl ?_
      refine g_iconst 27 (v := 0) F dX6_readRest_26 (by decide) rfl ?_
      refine g_iconst 28 (v := 0) F dX6_readRest_27 (by decide) rfl ?_
      refine g_iconst 29 (v := 5) F dX6_readRest_28 (by decide) rfl ?_
      obtain ⟨q15, e16, hf⟩ := op_bd hf
      refine g_cVi 32 (st := []) F hok (c_X6_number (kl K) D cI cZ ad (kA K) S 0 0 5 q15 e16) wy_X6_number ml_X6_138 (m_recv F) ⟨Nat.le_of_ble_eq_true rfl, Nat.le_of_ble_eq_true rfl⟩ rfl rfl (Nat.le_of_ble_eq_true rfl) ⟨Nat.zero_le _, Nat.zero_le _⟩ dX6_readRest_29 rfl ?_
      refine g_ifeq_b 69 35 F dX6_readRest_32 rfl rfl hf (fun _ hf => ?_) (fun _ hf => ?_)
      · refine g_iconst 70 (v := 0) F dX6_readRest_69 (by decide) rfl ?_
        obtain rfl := Option.some.inj hf
        exact hR _ _ dX6_readRest_70
      · refine g_aload_n 36 0 F dX6_readRest_35 rfl rfl ?_
        refine g_iconst 37 (v := 1) F dX6_readRest_36 (by decide) rfl ?_
        refine g_aload_n 38 0 F dX6_readRest_37 rfl rfl ?_
        refine m_get_3 41 F fl_X6_16 dX6_readRest_38 rfl ?_
        refine g_aload_n 42 0 F dX6_readRest_41 rfl rfl ?_
        refine m_get_13 45 F fl_X6_25 dX6_readRest_42 rfl ?_
        refine g_iconst 46 (v := 0) F dX6_readRest_45 (by decide) rfl ?_
        refine m_ldK_13 47 0 F (by decide) (by decide) dX6_readRest_46 rfl ?_
        obtain ⟨h17, hf⟩ := op_ok hf
        refine m_ld_3 48 F h17 dX6_readRest_47 rfl ?_
        refine g_aload_n 49 0 F dX6_readRest_48 rfl rfl ?_
        refine m_get_4 52 F fl_X6_19 dX6_readRest_49 rfl ?_
        refine g_aload_n 53 0 F dX6_readRest_52 rfl rfl ?_
        refine m_get_13 56 F fl_X6_25 dX6_readRest_53 rfl ?_
        refine g_iconst 57 (v := 0) F dX6_readRest_56 (by decide) rfl ?_
        refine m_ldK_13 58 0 F (by decide) (by decide) dX6_readRest_57 rfl ?_
        obtain ⟨h18, hf⟩ := op_ok hf
        refine m_ld_4 59 F h18 dX6_readRest_58 rfl ?_
        obtain ⟨q19, e20, hf⟩ := op_bd hf
        refine g_cVi 62 (st := []) F hok (c_X6_number (kl K) D cI cZ ad (kA K) q15.2 1 (q15.2.2 3 (q15.2.2 13 0).toNatClampNeg) (q15.2.2 4 (q15.2.2 13 0).toNatClampNeg) q19 e20) wy_X6_number ml_X6_138 (m_recv F) ⟨Nat.le_of_ble_eq_true rfl, Nat.le_of_ble_eq_true rfl⟩ rfl rfl (Nat.le_of_ble_eq_true rfl) ⟨Nat.zero_le _, Nat.zero_le _⟩ dX6_readRest_59 rfl ?_
        refine g_ifeq_b 69 65 F dX6_readRest_62 rfl rfl hf (fun _ hf => ?_) (fun _ hf => ?_)
        · refine g_iconst 70 (v := 0) F dX6_readRest_69 (by decide) rfl ?_
          obtain rfl := Option.some.inj hf
          exact hR _ _ dX6_readRest_70
        · refine g_iconst 66 (v := 1) F dX6_readRest_65 (by decide) rfl ?_
          refine g_goto 70 F dX6_readRest_66 rfl ?_
          obtain rfl := Option.some.inj hf
          exact hR _ _ dX6_readRest_70
  · refine g_aload_n 9 0 F dX6_readRest_8 rfl rfl ?_
    refine g_iconst 10 (v := 0) F dX6_readRest_9 (by decide) rfl ?_
    refine g_iconst 11 (v := 1) F dX6_readRest_10 (by decide) rfl ?_
    refine g_bipush 13 (v := 9) F dX6_readRest_11 (by decide) rfl ?_
    obtain ⟨q21, e22, hf⟩ := op_bd hf
    refine g_cVi 16 (st := []) F hok (c_X6_number (kl K) D cI cZ ad (kA K) S 0 1 9 q21 e22) wy_X6_number ml_X6_138 (m_recv F) ⟨Nat.le_of_ble_eq_true rfl, Nat.le_of_ble_eq_true rfl⟩ rfl rfl (Nat.le_of_ble_eq_true rfl) ⟨Nat.zero_le _, Nat.zero_le _⟩ dX6_readRest_13 rfl ?_
    obtain rfl := Option.some.inj hf
    exact hR _ _ dX6_readRest_16
theorem c_X6_readRest (l : Launch) (D : va_G) (cI cZ : ClassId) (ad : Nat → Nat) (A : Nat → Prop) (S : MS) (a1 : Int64) (a2 : Int32) (q : Bool × MS) (hf : f_X6_readRest S a1 a2 = some q) : Ci l yX6_readRest cX6_readRest 4 (some .boolean) 4 88 (mX D cI cZ A ad) (mKf D cI cZ) A S [.ref (ad 0), .long a1, .int a2] (bI q.1) q.2 := by
  refine met_z (by decide +kernel) (Nat.le_of_ble_eq_true rfl) (fun K hl hA hn F hR => ?_)
  subst hl; subst hA
  exact w_X6_readRest D cI cZ ad K F hn S a1 a2 q hf hR
set_option maxHeartbeats 4000000 in
set_option maxRecDepth 100000 in
theorem w_X6_does (D : va_G) (cI cZ : ClassId) (ad : Nat → Nat) (K : Ctx) (F : Fx K cX6_does RX6 (mKf D cI cZ) 5 119) (hn : kn K = 3) (S : MS) (a1 : Int64) (q : Bool × MS) (hf : f_X6_does S a1 = some q) (hR : ∀ (pc : Nat) (lv : List (Nat × Value)), decode cX6_does pc = .ok (.ireturn, 1) → G K (mX D cI cZ (kA K) ad) 0 0 pc q.2 lv [.int (bI q.1)]) : G K (mX D cI cZ (kA K) ad) 0 0 0 S [(0, .ref (ad 0)), (1, .long a1)] [] := by
  have hok := mKf_ok D cI cZ (kA K)
  unfold f_X6_does at hf
  refine g_lload_n 1 1 F dX6_does_0 rfl rfl ?_
  refine g_ldc2 4 F cn_X6_153 dX6_does_1 rfl ?_
  refine g_lcmp 5 F dX6_does_4 rfl ?_
  refine g_if_ne 38 8 F dX6_does_5 rfl rfl hf (fun _ hf => ?_) (fun _ hf => ?_)
  · refine g_lload_n 39 1 F dX6_does_38 rfl rfl ?_
    refine g_ldc2 42 F cn_X6_155 dX6_does_39 rfl ?_
    refine g_lcmp 43 F dX6_does_42 rfl ?_
    refine g_if_ne 67 46 F dX6_does_43 rfl rfl hf (fun _ hf => ?_) (fun _ hf => ?_)
    · refine g_lload_n 68 1 F dX6_does_67 rfl rfl ?_
      refine g_ldc2 71 F cn_X6_157 dX6_does_68 rfl ?_
      refine g_lcmp 72 F dX6_does_71 rfl ?_
      refine g_if_ne 119 75 F dX6_does_72 rfl rfl hf (fun _ hf => ?_) (fun _ hf => ?_)
      · refine g_lload_n 120 1 F dX6_does_119 rfl rfl ?_
        refine g_ldc2 123 F cn_X6_159 dX6_does_120 rfl ?_
        refine g_lcmp 124 F dX6_does_123 rfl ?_
        refine g_if_ne 195 127 F dX6_does_124 rfl rfl hf (fun _ hf => ?_) (fun _ hf => ?_)
        · refine g_lload_n 196 1 F dX6_does_195 rfl rfl ?_
          refine g_ldc2 199 F cn_X6_164 dX6_does_196 rfl ?_
          refine g_lcmp 200 F dX6_does_199 rfl ?_
          refine g_if_ne 243 203 F dX6_does_200 rfl rfl hf (fun _ hf => ?_) (fun _ hf => ?_)
          · refine g_aload_n 244 0 F dX6_does_243 rfl rfl ?_
            refine g_aload_n 245 0 F dX6_does_244 rfl rfl ?_
            refine m_get_13 248 F fl_X6_25 dX6_does_245 rfl ?_
            refine g_iconst 249 (v := 0) F dX6_does_248 (by decide) rfl ?_
            refine m_ldK_13 250 0 F (by decide) (by decide) dX6_does_249 rfl ?_
            refine g_aload_n 251 0 F dX6_does_250 rfl rfl ?_
            refine m_get_13 254 F fl_X6_25 dX6_does_251 rfl ?_
            refine g_iconst 255 (v := 1) F dX6_does_254 (by decide) rfl ?_
            refine m_ldK_13 256 1 F (by decide) (by decide) dX6_does_255 rfl ?_
            obtain ⟨q1, e2, hf⟩ := op_bd hf
            refine g_cVi 259 (st := []) F hok (c_X6_strikes (kl K) D cI cZ ad (kA K) S (S.2 13 0) (S.2 13 1) q1 e2) wy_X6_strikes ml_X6_105 (m_recv F) ⟨Nat.le_of_ble_eq_true rfl, Nat.le_of_ble_eq_true rfl⟩ rfl rfl (Nat.le_of_ble_eq_true rfl) ⟨Nat.zero_le _, Nat.zero_le _⟩ dX6_does_256 rfl ?_
            obtain rfl := Option.some.inj hf
            exact hR _ _ dX6_does_259
          · refine g_aload_n 204 0 F dX6_does_203 rfl rfl ?_
            refine g_aload_n 205 0 F dX6_does_204 rfl rfl ?_
            refine m_get_13 208 F fl_X6_25 dX6_does_205 rfl ?_
            refine g_iconst 209 (v := 0) F dX6_does_208 (by decide) rfl ?_
            refine m_ldK_13 210 0 F (by decide) (by decide) dX6_does_209 rfl ?_
            refine g_aload_n 211 0 F dX6_does_210 rfl rfl ?_
            refine m_get_13 214 F fl_X6_25 dX6_does_211 rfl ?_
            refine g_iconst 215 (v := 1) F dX6_does_214 (by decide) rfl ?_
            refine m_ldK_13 216 1 F (by decide) (by decide) dX6_does_215 rfl ?_
            refine g_aload_n 217 0 F dX6_does_216 rfl rfl ?_
            refine m_get_13 220 F fl_X6_25 dX6_does_217 rfl ?_
            refine g_iconst 221 (v := 2) F dX6_does_220 (by decide) rfl ?_
            refine m_ldK_13 222 2 F (by decide) (by decide) dX6_does_221 rfl ?_
            refine g_iconst 223 (v := 1) F dX6_does_222 (by decide) rfl ?_
            refine g_icmp_ne 230 226 F dX6_does_223 rfl rfl hf (fun _ hf => ?_) (fun _ hf => ?_)
            · refine g_iconst 231 (v := 0) F dX6_does_230 (by decide) rfl ?_
              obtain ⟨q3, e4, hf⟩ := op_bd hf
              refine g_cVi 234 (st := []) F hok (c_X6_tests (kl K) D cI cZ ad (kA K) S (S.2 13 0) (S.2 13 1) false q3 e4) wy_X6_tests ml_X6_98 (m_recv F) ⟨Nat.le_of_ble_eq_true rfl, Nat.le_of_ble_eq_true rfl⟩ rfl rfl (Nat.le_of_ble_eq_true rfl) ⟨Nat.zero_le _, Nat.zero_le _⟩ dX6_does_231 rfl ?_
              refine g_if_lt 241 237 F dX6_does_234 rfl rfl hf (fun _ hf => ?_) (fun _ hf => ?_)
              · refine g_iconst 242 (v := 0) F dX6_does_241 (by decide) rfl ?_
                obtain rfl := Option.some.inj hf
                exact hR _ _ dX6_does_242
              · refine g_iconst 238 (v := 1) F dX6_does_237 (by decide) rfl ?_
                refine g_goto 242 F dX6_does_238 rfl ?_
                obtain rfl := Option.some.inj hf
                exact hR _ _ dX6_does_242
            · refine g_iconst 227 (v := 1) F dX6_does_226 (by decide) rfl ?_
              refine g_goto 231 F dX6_does_227 rfl ?_
              obtain ⟨q5, e6, hf⟩ := op_bd hf
              refine g_cVi 234 (st := []) F hok (c_X6_tests (kl K) D cI cZ ad (kA K) S (S.2 13 0) (S.2 13 1) true q5 e6) wy_X6_tests ml_X6_98 (m_recv F) ⟨Nat.le_of_ble_eq_true rfl, Nat.le_of_ble_eq_true rfl⟩ rfl rfl (Nat.le_of_ble_eq_true rfl) ⟨Nat.zero_le _, Nat.zero_le _⟩ dX6_does_231 rfl ?_
              refine g_if_lt 241 237 F dX6_does_234 rfl rfl hf (fun _ hf => ?_) (fun _ hf => ?_)
              · refine g_iconst 242 (v := 0) F dX6_does_241 (by decide) rfl ?_
                obtain rfl := Option.some.inj hf
                exact hR _ _ dX6_does_242
              · refine g_iconst 238 (v := 1) F dX6_does_237 (by decide) rfl ?_
                refine g_goto 242 F dX6_does_238 rfl ?_
                obtain rfl := Option.some.inj hf
                exact hR _ _ dX6_does_242
        · refine g_aload_n 128 0 F dX6_does_127 rfl rfl ?_
          refine g_aload_n 129 0 F dX6_does_128 rfl rfl ?_
          refine m_get_13 132 F fl_X6_25 dX6_does_129 rfl ?_
          refine g_iconst 133 (v := 0) F dX6_does_132 (by decide) rfl ?_
          refine m_ldK_13 134 0 F (by decide) (by decide) dX6_does_133 rfl ?_
          refine g_aload_n 135 0 F dX6_does_134 rfl rfl ?_
          refine m_get_13 138 F fl_X6_25 dX6_does_135 rfl ?_
          refine g_iconst 139 (v := 1) F dX6_does_138 (by decide) rfl ?_
          refine m_ldK_13 140 1 F (by decide) (by decide) dX6_does_139 rfl ?_
          refine g_aload_n 141 0 F dX6_does_140 rfl rfl ?_
          refine m_get_13 144 F fl_X6_25 dX6_does_141 rfl ?_
          refine g_iconst 145 (v := 3) F dX6_does_144 (by decide) rfl ?_
          refine m_ldK_13 146 3 F (by decide) (by decide) dX6_does_145 rfl ?_
          obtain ⟨q7, e8, hf⟩ := op_bd hf
          refine g_cVi 149 (st := []) F hok (c_X6_mayFile (kl K) D cI cZ ad (kA K) S (S.2 13 0) (S.2 13 1) (S.2 13 3) q7 e8) wy_X6_mayFile ml_X6_91 (m_recv F) ⟨Nat.le_of_ble_eq_true rfl, Nat.le_of_ble_eq_true rfl⟩ rfl rfl (Nat.le_of_ble_eq_true rfl) ⟨Nat.zero_le _, Nat.zero_le _⟩ dX6_does_146 rfl ?_
          refine g_ifeq_b 193 152 F dX6_does_149 rfl rfl hf (fun _ hf => ?_) (fun _ hf => ?_)
          · refine g_iconst 194 (v := 0) F dX6_does_193 (by decide) rfl ?_
            obtain rfl := Option.some.inj hf
            exact hR _ _ dX6_does_194
          · refine g_aload_n 153 0 F dX6_does_152 rfl rfl ?_
            refine g_aload_n 154 0 F dX6_does_153 rfl rfl ?_
            refine m_get_13 157 F fl_X6_25 dX6_does_154 rfl ?_
            refine g_iconst 158 (v := 0) F dX6_does_157 (by decide) rfl ?_
            refine m_ldK_13 159 0 F (by decide) (by decide) dX6_does_158 rfl ?_
            refine g_aload_n 160 0 F dX6_does_159 rfl rfl ?_
            refine m_get_13 163 F fl_X6_25 dX6_does_160 rfl ?_
            refine g_iconst 164 (v := 1) F dX6_does_163 (by decide) rfl ?_
            refine m_ldK_13 165 1 F (by decide) (by decide) dX6_does_164 rfl ?_
            refine g_aload_n 166 0 F dX6_does_165 rfl rfl ?_
            refine m_get_13 169 F fl_X6_25 dX6_does_166 rfl ?_
            refine g_iconst 170 (v := 2) F dX6_does_169 (by decide) rfl ?_
            refine m_ldK_13 171 2 F (by decide) (by decide) dX6_does_170 rfl ?_
            refine g_aload_n 172 0 F dX6_does_171 rfl rfl ?_
            refine m_get_13 175 F fl_X6_25 dX6_does_172 rfl ?_
            refine g_iconst 176 (v := 3) F dX6_does_175 (by decide) rfl ?_
            refine m_ldK_13 177 3 F (by decide) (by decide) dX6_does_176 rfl ?_
            refine g_aload_n 178 0 F dX6_does_177 rfl rfl ?_
            refine m_get_13 181 F fl_X6_25 dX6_does_178 rfl ?_
            refine g_iconst 182 (v := 4) F dX6_does_181 (by decide) rfl ?_
            refine m_ldK_13 183 4 F (by decide) (by decide) dX6_does_182 rfl ?_
            obtain ⟨q9, e10, hf⟩ := op_bd hf
            refine g_cVi 186 (st := []) F hok (c_X6_files (kl K) D cI cZ ad (kA K) S (S.2 13 0) (S.2 13 1) (S.2 13 2) (S.2 13 3) (S.2 13 4) q9 e10) wy_X6_files ml_X6_94 (m_recv F) ⟨Nat.le_of_ble_eq_true rfl, Nat.le_of_ble_eq_true rfl⟩ rfl rfl (Nat.le_of_ble_eq_true rfl) ⟨Nat.zero_le _, Nat.zero_le _⟩ dX6_does_183 rfl ?_
            refine g_if_lt 193 189 F dX6_does_186 rfl rfl hf (fun _ hf => ?_) (fun _ hf => ?_)
            · refine g_iconst 194 (v := 0) F dX6_does_193 (by decide) rfl ?_
              obtain rfl := Option.some.inj hf
              exact hR _ _ dX6_does_194
            · refine g_iconst 190 (v := 1) F dX6_does_189 (by decide) rfl ?_
              refine g_goto 194 F dX6_does_190 rfl ?_
              obtain rfl := Option.some.inj hf
              exact hR _ _ dX6_does_194
      · refine g_aload_n 76 0 F dX6_does_75 rfl rfl ?_
        refine g_aload_n 77 0 F dX6_does_76 rfl rfl ?_
        refine m_get_13 80 F fl_X6_25 dX6_does_77 rfl ?_
        refine g_iconst 81 (v := 0) F dX6_does_80 (by decide) rfl ?_
        refine m_ldK_13 82 0 F (by decide) (by decide) dX6_does_81 rfl ?_
        refine g_aload_n 83 0 F dX6_does_82 rfl rfl ?_
        refine m_get_13 86 F fl_X6_25 dX6_does_83 rfl ?_
        refine g_iconst 87 (v := 1) F dX6_does_86 (by decide) rfl ?_
        refine m_ldK_13 88 1 F (by decide) (by decide) dX6_does_87 rfl ?_
        refine g_cVi 91 (st := []) F hok (c_X6_isBehind (kl K) D cI cZ ad (kA K) S (S.2 13 0) (S.2 13 1) _ rfl) wy_X6_isBehind ml_X6_81 (m_recv F) ⟨Nat.le_of_ble_eq_true rfl, Nat.le_of_ble_eq_true rfl⟩ rfl rfl (Nat.le_of_ble_eq_true rfl) ⟨Nat.zero_le _, Nat.zero_le _⟩ dX6_does_88 rfl ?_
        refine g_ifeq_b 117 94 F dX6_does_91 rfl rfl hf (fun _ hf => ?_) (fun _ hf => ?_)
        · refine g_iconst 118 (v := 0) F dX6_does_117 (by decide) rfl ?_
          obtain rfl := Option.some.inj hf
          exact hR _ _ dX6_does_118
        · refine g_aload_n 95 0 F dX6_does_94 rfl rfl ?_
          refine g_aload_n 96 0 F dX6_does_95 rfl rfl ?_
          refine m_get_13 99 F fl_X6_25 dX6_does_96 rfl ?_
          refine g_iconst 100 (v := 0) F dX6_does_99 (by decide) rfl ?_
          refine m_ldK_13 101 0 F (by decide) (by decide) dX6_does_100 rfl ?_
          refine g_aload_n 102 0 F dX6_does_101 rfl rfl ?_
          refine m_get_13 105 F fl_X6_25 dX6_does_102 rfl ?_
          refine g_iconst 106 (v := 1) F dX6_does_105 (by decide) rfl ?_
          refine m_ldK_13 107 1 F (by decide) (by decide) dX6_does_106 rfl ?_
          obtain ⟨q11, e12, hf⟩ := op_bd hf
          refine g_cVi 110 (st := []) F hok (c_X6_goesOn (kl K) D cI cZ ad (kA K) S (S.2 13 0) (S.2 13 1) q11 e12) wy_X6_goesOn ml_X6_84 (m_recv F) ⟨Nat.le_of_ble_eq_true rfl, Nat.le_of_ble_eq_true rfl⟩ rfl rfl (Nat.le_of_ble_eq_true rfl) ⟨Nat.zero_le _, Nat.zero_le _⟩ dX6_does_107 rfl ?_
          refine g_if_lt 117 113 F dX6_does_110 rfl rfl hf (fun _ hf => ?_) (fun _ hf => ?_)
          · refine g_iconst 118 (v := 0) F dX6_does_117 (by decide) rfl ?_
            obtain rfl := Option.some.inj hf
            exact hR _ _ dX6_does_118
          · refine g_iconst 114 (v := 1) F dX6_does_113 (by decide) rfl ?_
            refine g_goto 118 F dX6_does_114 rfl ?_
            obtain rfl := Option.some.inj hf
            exact hR _ _ dX6_does_118
    · refine g_aload_n 47 0 F dX6_does_46 rfl rfl ?_
      refine m_get_1 50 F fl_X6_7 dX6_does_47 rfl ?_
      refine g_iconst 51 (v := 3) F dX6_does_50 (by decide) rfl ?_
      refine g_aload_n 52 0 F dX6_does_51 rfl rfl ?_
      refine m_get_13 55 F fl_X6_25 dX6_does_52 rfl ?_
      refine g_iconst 56 (v := 0) F dX6_does_55 (by decide) rfl ?_
      refine m_ldK_13 57 0 F (by decide) (by decide) dX6_does_56 rfl ?_
      refine g_iadd 58 F dX6_does_57 rfl ?_
      refine g_aload_n 59 0 F dX6_does_58 rfl rfl ?_
      refine m_get_13 62 F fl_X6_25 dX6_does_59 rfl ?_
      refine g_iconst 63 (v := 1) F dX6_does_62 (by decide) rfl ?_
      refine m_ldK_13 64 1 F (by decide) (by decide) dX6_does_63 rfl ?_
      obtain ⟨h13, hf⟩ := op_ok hf
      refine m_st_1 65 F h13 dX6_does_64 rfl ?_
      refine g_iconst 66 (v := 1) F dX6_does_65 (by decide) rfl ?_
      obtain rfl := Option.some.inj hf
      exact hR _ _ dX6_does_66
  · refine g_aload_n 9 0 F dX6_does_8 rfl rfl ?_
    refine m_get_1 12 F fl_X6_7 dX6_does_9 rfl ?_
    refine g_iconst 13 (v := 2) F dX6_does_12 (by decide) rfl ?_
    refine m_ldK_1 14 2 F (by decide) (by decide) dX6_does_13 rfl ?_
    refine g_bipush 16 (v := 6) F dX6_does_14 (by decide) rfl ?_
    refine g_icmp_ge 36 19 F dX6_does_16 rfl rfl hf (fun _ hf => ?_) (fun _ hf => ?_)
    · refine g_iconst 37 (v := 0) F dX6_does_36 (by decide) rfl ?_
      obtain rfl := Option.some.inj hf
      exact hR _ _ dX6_does_37
    · refine g_aload_n 20 0 F dX6_does_19 rfl rfl ?_
      refine g_aload_n 21 0 F dX6_does_20 rfl rfl ?_
      refine m_get_13 24 F fl_X6_25 dX6_does_21 rfl ?_
      refine g_iconst 25 (v := 0) F dX6_does_24 (by decide) rfl ?_
      refine m_ldK_13 26 0 F (by decide) (by decide) dX6_does_25 rfl ?_
      obtain ⟨q14, e15, hf⟩ := op_bd hf
      refine g_cVi 29 (st := []) F hok (c_X6_comes (kl K) D cI cZ ad (kA K) S (S.2 13 0) q14 e15) wy_X6_comes ml_X6_77 (m_recv F) ⟨Nat.le_of_ble_eq_true rfl, Nat.le_of_ble_eq_true rfl⟩ rfl rfl (Nat.le_of_ble_eq_true rfl) ⟨Nat.zero_le _, Nat.zero_le _⟩ dX6_does_26 rfl ?_
      refine g_if_lt 36 32 F dX6_does_29 rfl rfl hf (fun _ hf => ?_) (fun _ hf => ?_)
      · refine g_iconst 37 (v := 0) F dX6_does_36 (by decide) rfl ?_
        obtain rfl := Option.some.inj hf
        exact hR _ _ dX6_does_37
      · refine g_iconst 33 (v := 1) F dX6_does_32 (by decide) rfl ?_
        refine g_goto 37 F dX6_does_33 rfl ?_
        obtain rfl := Option.some.inj hf
        exact hR _ _ dX6_does_37
theorem c_X6_does (l : Launch) (D : va_G) (cI cZ : ClassId) (ad : Nat → Nat) (A : Nat → Prop) (S : MS) (a1 : Int64) (q : Bool × MS) (hf : f_X6_does S a1 = some q) : Ci l yX6_does cX6_does 3 (some .boolean) 5 119 (mX D cI cZ A ad) (mKf D cI cZ) A S [.ref (ad 0), .long a1] (bI q.1) q.2 := by
  refine met_z (by decide +kernel) (Nat.le_of_ble_eq_true rfl) (fun K hl hA hn F hR => ?_)
  subst hl; subst hA
  exact w_X6_does D cI cZ ad K F hn S a1 q hf hR
