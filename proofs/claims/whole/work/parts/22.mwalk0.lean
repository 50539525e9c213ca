set_option maxHeartbeats 4000000 in
set_option maxRecDepth 100000 in
theorem w_X6_thrown (D : va_G) (cI cZ : ClassId) (ad : Nat → Nat) (K : Ctx) (F : Fx K cX6_thrown RX6 (mKf D cI cZ) 0 0) (hn : kn K = 1) (S : MS) (q : Int32) (hf : f_X6_thrown S = q) (hR : ∀ (pc : Nat) (lv : List (Nat × Value)), decode cX6_thrown pc = .ok (.ireturn, 1) → G K (mX D cI cZ (kA K) ad) 0 0 pc S lv [.int q]) : G K (mX D cI cZ (kA K) ad) 0 0 0 S [(0, .ref (ad 0))] [] := by
  have hok := mKf_ok D cI cZ (kA K)
  unfold f_X6_thrown at hf
  refine g_aload_n 1 0 F dX6_thrown_0 rfl rfl ?_
  refine m_get_0 4 F fl_X6_38 dX6_thrown_1 rfl ?_
  subst hf
  exact hR _ _ dX6_thrown_4
theorem c_X6_thrown (l : Launch) (D : va_G) (cI cZ : ClassId) (ad : Nat → Nat) (A : Nat → Prop) (S : MS) (q : Int32) (hf : f_X6_thrown S = q) : Ci l yX6_thrown cX6_thrown 1 (some .int) 0 0 (mX D cI cZ A ad) (mKf D cI cZ) A S [.ref (ad 0)] q S := by
  refine met_i (by decide +kernel) (Nat.le_of_ble_eq_true rfl) (fun K hl hA hn F hR => ?_)
  subst hl; subst hA
  exact w_X6_thrown D cI cZ ad K F hn S q hf hR
set_option maxHeartbeats 4000000 in
set_option maxRecDepth 100000 in
theorem w_X6_in (D : va_G) (cI cZ : ClassId) (ad : Nat → Nat) (K : Ctx) (F : Fx K cX6_in RX6 (mKf D cI cZ) 0 0) (hn : kn K = 3) (S : MS) (a1 : Int32) (a2 : Int32) (a3 : Int32) (q : Bool) (hf : f_X6_in a1 a2 a3 = q) (hR : ∀ (pc : Nat) (lv : List (Nat × Value)), decode cX6_in pc = .ok (.ireturn, 1) → G K (mX D cI cZ (kA K) ad) 0 0 pc S lv [.int (bI q)]) : G K (mX D cI cZ (kA K) ad) 0 0 0 S [(0, .int a1), (1, .int a2), (2, .int a3)] [] := by
  have hok := mKf_ok D cI cZ (kA K)
  unfold f_X6_in at hf
  refine g_iload_n 1 0 F dX6_in_0 rfl rfl ?_
  refine g_iload_n 2 1 F dX6_in_1 rfl rfl ?_
  refine g_icmp_lt 14 5 F dX6_in_2 rfl rfl hf (fun _ hf => ?_) (fun _ hf => ?_)
  · refine g_iconst 15 (v := 0) F dX6_in_14 (by decide) rfl ?_
    subst hf
    exact hR _ _ dX6_in_15
  · refine g_iload_n 6 0 F dX6_in_5 rfl rfl ?_
    refine g_iload_n 7 2 F dX6_in_6 rfl rfl ?_
    refine g_icmp_gt 14 10 F dX6_in_7 rfl rfl hf (fun _ hf => ?_) (fun _ hf => ?_)
    · refine g_iconst 15 (v := 0) F dX6_in_14 (by decide) rfl ?_
      subst hf
      exact hR _ _ dX6_in_15
    · refine g_iconst 11 (v := 1) F dX6_in_10 (by decide) rfl ?_
      refine g_goto 15 F dX6_in_11 rfl ?_
      subst hf
      exact hR _ _ dX6_in_15
theorem c_X6_in (l : Launch) (D : va_G) (cI cZ : ClassId) (ad : Nat → Nat) (A : Nat → Prop) (S : MS) (a1 : Int32) (a2 : Int32) (a3 : Int32) (q : Bool) (hf : f_X6_in a1 a2 a3 = q) : Ci l yX6_in cX6_in 3 (some .boolean) 0 0 (mX D cI cZ A ad) (mKf D cI cZ) A S [.int a1, .int a2, .int a3] (bI q) S := by
  refine met_z (by decide +kernel) (Nat.le_of_ble_eq_true rfl) (fun K hl hA hn F hR => ?_)
  subst hl; subst hA
  exact w_X6_in D cI cZ ad K F hn S a1 a2 a3 q hf hR
set_option maxHeartbeats 4000000 in
set_option maxRecDepth 100000 in
theorem w_X6_isAthlete (D : va_G) (cI cZ : ClassId) (ad : Nat → Nat) (K : Ctx) (F : Fx K cX6_isAthlete RX6 (mKf D cI cZ) 1 22) (hn : kn K = 2) (S : MS) (a1 : Int32) (q : Bool) (hf : f_X6_isAthlete S a1 = q) (hR : ∀ (pc : Nat) (lv : List (Nat × Value)), decode cX6_isAthlete pc = .ok (.ireturn, 1) → G K (mX D cI cZ (kA K) ad) 0 0 pc S lv [.int (bI q)]) : G K (mX D cI cZ (kA K) ad) 0 0 0 S [(0, .ref (ad 0)), (1, .int a1)] [] := by
  have hok := mKf_ok D cI cZ (kA K)
  unfold f_X6_isAthlete at hf
  refine g_iload_n 1 1 F dX6_isAthlete_0 rfl rfl ?_
  refine g_iconst 2 (v := 0) F dX6_isAthlete_1 (by decide) rfl ?_
  refine g_aload_n 3 0 F dX6_isAthlete_2 rfl rfl ?_
  refine m_get_1 6 F fl_X6_7 dX6_isAthlete_3 rfl ?_
  refine g_iconst 7 (v := 2) F dX6_isAthlete_6 (by decide) rfl ?_
  refine m_ldK_1 8 2 F (by decide) (by decide) dX6_isAthlete_7 rfl ?_
  refine g_iconst 9 (v := 1) F dX6_isAthlete_8 (by decide) rfl ?_
  refine g_isub 10 F dX6_isAthlete_9 rfl ?_
  refine g_cSi 13 (st := []) F hok (c_X6_in (kl K) D cI cZ ad (kA K) S a1 0 ((S.2 1 2) - 1) _ rfl) ws_X6_in ml_X6_42 ⟨Nat.le_of_ble_eq_true rfl, Nat.le_of_ble_eq_true rfl⟩ rfl rfl (Nat.le_of_ble_eq_true rfl) ⟨Nat.zero_le _, Nat.zero_le _⟩ dX6_isAthlete_10 rfl ?_
  subst hf
  exact hR _ _ dX6_isAthlete_13
theorem c_X6_isAthlete (l : Launch) (D : va_G) (cI cZ : ClassId) (ad : Nat → Nat) (A : Nat → Prop) (S : MS) (a1 : Int32) (q : Bool) (hf : f_X6_isAthlete S a1 = q) : Ci l yX6_isAthlete cX6_isAthlete 2 (some .boolean) 1 22 (mX D cI cZ A ad) (mKf D cI cZ) A S [.ref (ad 0), .int a1] (bI q) S := by
  refine met_z (by decide +kernel) (Nat.le_of_ble_eq_true rfl) (fun K hl hA hn F hR => ?_)
  subst hl; subst hA
  exact w_X6_isAthlete D cI cZ ad K F hn S a1 q hf hR
set_option maxHeartbeats 4000000 in
set_option maxRecDepth 100000 in
theorem w_X6_cell (D : va_G) (cI cZ : ClassId) (ad : Nat → Nat) (K : Ctx) (F : Fx K cX6_cell RX6 (mKf D cI cZ) 0 0) (hn : kn K = 2) (S : MS) (a1 : Int32) (a2 : Int32) (q : Int32) (hf : f_X6_cell a1 a2 = q) (hR : ∀ (pc : Nat) (lv : List (Nat × Value)), decode cX6_cell pc = .ok (.ireturn, 1) → G K (mX D cI cZ (kA K) ad) 0 0 pc S lv [.int q]) : G K (mX D cI cZ (kA K) ad) 0 0 0 S [(0, .int a1), (1, .int a2)] [] := by
  have hok := mKf_ok D cI cZ (kA K)
  unfold f_X6_cell at hf
  refine g_bipush 2 (v := 9) F dX6_cell_0 (by decide) rfl ?_
  refine g_sipush 5 (v := 1288) F dX6_cell_2 (by decide) rfl ?_
  refine g_iload_n 6 0 F dX6_cell_5 rfl rfl ?_
  refine g_imul 7 F dX6_cell_6 rfl ?_
  refine g_iadd 8 F dX6_cell_7 rfl ?_
  refine g_iload_n 9 1 F dX6_cell_8 rfl rfl ?_
  refine g_iadd 10 F dX6_cell_9 rfl ?_
  subst hf
  exact hR _ _ dX6_cell_10
theorem c_X6_cell (l : Launch) (D : va_G) (cI cZ : ClassId) (ad : Nat → Nat) (A : Nat → Prop) (S : MS) (a1 : Int32) (a2 : Int32) (q : Int32) (hf : f_X6_cell a1 a2 = q) : Ci l yX6_cell cX6_cell 2 (some .int) 0 0 (mX D cI cZ A ad) (mKf D cI cZ) A S [.int a1, .int a2] q S := by
  refine met_i (by decide +kernel) (Nat.le_of_ble_eq_true rfl) (fun K hl hA hn F hR => ?_)
  subst hl; subst hA
  exact w_X6_cell D cI cZ ad K F hn S a1 a2 q hf hR
set_option maxHeartbeats 4000000 in
set_option maxRecDepth 100000 in
theorem w_X6_its (D : va_G) (cI cZ : ClassId) (ad : Nat → Nat) (K : Ctx) (F : Fx K cX6_its RX6 (mKf D cI cZ) 1 21) (hn : kn K = 3) (S : MS) (a1 : Int32) (a2 : Int32) (q : Int32) (hf : f_X6_its S a1 a2 = some q) (hR : ∀ (pc : Nat) (lv : List (Nat × Value)), decode cX6_its pc = .ok (.ireturn, 1) → G K (mX D cI cZ (kA K) ad) 0 0 pc S lv [.int q]) : G K (mX D cI cZ (kA K) ad) 0 0 0 S [(0, .ref (ad 0)), (1, .int a1), (2, .int a2)] [] := by
  have hok := mKf_ok D cI cZ (kA K)
  unfold f_X6_its at hf
  refine g_aload_n 1 0 F dX6_its_0 rfl rfl ?_
  refine m_get_1 4 F fl_X6_7 dX6_its_1 rfl ?_
  refine g_iload_n 5 1 F dX6_its_4 rfl rfl ?_
  refine g_iload_n 6 2 F dX6_its_5 rfl rfl ?_
  refine g_cSi 9 (st := [.ref (ad 1)]) F hok (c_X6_cell (kl K) D cI cZ ad (kA K) S a1 a2 _ rfl) ws_X6_cell ml_X6_46 ⟨Nat.le_of_ble_eq_true rfl, Nat.le_of_ble_eq_true rfl⟩ rfl rfl (Nat.le_of_ble_eq_true rfl) ⟨Nat.zero_le _, Nat.zero_le _⟩ dX6_its_6 rfl ?_
  obtain ⟨h1, hf⟩ := op_ok hf
  refine m_ld_1 10 F h1 dX6_its_9 rfl ?_
  obtain rfl := Option.some.inj hf
  exact hR _ _ dX6_its_10
theorem c_X6_its (l : Launch) (D : va_G) (cI cZ : ClassId) (ad : Nat → Nat) (A : Nat → Prop) (S : MS) (a1 : Int32) (a2 : Int32) (q : Int32) (hf : f_X6_its S a1 a2 = some q) : Ci l yX6_its cX6_its 3 (some .int) 1 21 (mX D cI cZ A ad) (mKf D cI cZ) A S [.ref (ad 0), .int a1, .int a2] q S := by
  refine met_i (by decide +kernel) (Nat.le_of_ble_eq_true rfl) (fun K hl hA hn F hR => ?_)
  subst hl; subst hA
  exact w_X6_its D cI cZ ad K F hn S a1 a2 q hf hR
set_option maxHeartbeats 4000000 in
set_option maxRecDepth 100000 in
theorem w_X6_fails (D : va_G) (cI cZ : ClassId) (ad : Nat → Nat) (K : Ctx) (F : Fx K cX6_fails RX6 (mKf D cI cZ) 2 43) (hn : kn K = 5) (S : MS) (a1 : Int32) (a2 : Int32) (a3 : Int32) (q : Bool × MS) (hf : f_X6_fails S a1 a2 a3 = some q) (hR : ∀ (pc : Nat) (lv : List (Nat × Value)), decode cX6_fails pc = .ok (.ireturn, 1) → G K (mX D cI cZ (kA K) ad) 0 0 pc q.2 lv [.int (bI q.1)]) : G K (mX D cI cZ (kA K) ad) 0 0 0 S [(0, .ref (ad 0)), (1, .int a1), (2, .int a2), (3, .int a3)] [] := by
  have hok := mKf_ok D cI cZ (kA K)
  unfold f_X6_fails at hf
  refine g_aload_n 1 0 F dX6_fails_0 rfl rfl ?_
  refine g_iload_n 2 1 F dX6_fails_1 rfl rfl ?_
  refine g_bipush 4 (v := 7) F dX6_fails_2 (by decide) rfl ?_
  obtain ⟨q1, e2, hf⟩ := op_bd hf
  refine g_cVi 7 (st := []) F hok (c_X6_its (kl K) D cI cZ ad (kA K) S a1 7 q1 e2) wy_X6_its ml_X6_50 (m_recv F) ⟨Nat.le_of_ble_eq_true rfl, Nat.le_of_ble_eq_true rfl⟩ rfl rfl (Nat.le_of_ble_eq_true rfl) ⟨Nat.zero_le _, Nat.zero_le _⟩ dX6_fails_4 rfl ?_
  refine g_istore 9 [(4, .int q1), (0, .ref (ad 0)), (1, .int a1), (2, .int a2), (3, .int a3)] F dX6_fails_7 (lt_kn hn (by decide)) rfl rfl ?_
  refine g_iload 11 0 F dX6_fails_9 rfl rfl ?_
  refine g_bipush 13 (v := 60) F dX6_fails_11 (by decide) rfl ?_
  refine g_icmp_ne 18 16 F dX6_fails_13 rfl rfl hf (fun _ hf => ?_) (fun _ hf => ?_)
  · refine g_aload_n 19 1 F dX6_fails_18 rfl rfl ?_
    refine m_get_1 22 F fl_X6_7 dX6_fails_19 rfl ?_
    refine g_iload_n 23 2 F dX6_fails_22 rfl rfl ?_
    refine g_bipush 25 (v := 8) F dX6_fails_23 (by decide) rfl ?_
    refine g_iconst 26 (v := 3) F dX6_fails_25 (by decide) rfl ?_
    refine g_iload 28 0 F dX6_fails_26 rfl rfl ?_
    refine g_imul 29 F dX6_fails_28 rfl ?_
    refine g_iadd 30 F dX6_fails_29 rfl ?_
    refine g_cSi 33 (st := [.ref (ad 1)]) F hok (c_X6_cell (kl K) D cI cZ ad (kA K) S a1 (8 + (3 * q1)) _ rfl) ws_X6_cell ml_X6_46 ⟨Nat.le_of_ble_eq_true rfl, Nat.le_of_ble_eq_true rfl⟩ rfl rfl (Nat.le_of_ble_eq_true rfl) ⟨Nat.zero_le _, Nat.zero_le _⟩ dX6_fails_30 rfl ?_
    refine g_iload_n 34 3 F dX6_fails_33 rfl rfl ?_
    obtain ⟨h3, hf⟩ := op_ok hf
    refine m_st_1 35 F h3 dX6_fails_34 rfl ?_
    refine g_aload_n 36 1 F dX6_fails_35 rfl rfl ?_
    refine m_get_1 39 F fl_X6_7 dX6_fails_36 rfl ?_
    refine g_iload_n 40 2 F dX6_fails_39 rfl rfl ?_
    refine g_bipush 42 (v := 8) F dX6_fails_40 (by decide) rfl ?_
    refine g_iconst 43 (v := 3) F dX6_fails_42 (by decide) rfl ?_
    refine g_iload 45 0 F dX6_fails_43 rfl rfl ?_
    refine g_imul 46 F dX6_fails_45 rfl ?_
    refine g_iadd 47 F dX6_fails_46 rfl ?_
    refine g_iconst 48 (v := 1) F dX6_fails_47 (by decide) rfl ?_
    refine g_iadd 49 F dX6_fails_48 rfl ?_
    refine g_cSi 52 (st := [.ref (ad 1)]) F hok (c_X6_cell (kl K) D cI cZ ad (kA K) (mA S 1 (f_X6_cell a1 (8 + (3 * q1))).toNatClampNeg a2) a1 ((8 + (3 * q1)) + 1) _ rfl) ws_X6_cell ml_X6_46 ⟨Nat.le_of_ble_eq_true rfl, Nat.le_of_ble_eq_true rfl⟩ rfl rfl (Nat.le_of_ble_eq_true rfl) ⟨Nat.zero_le _, Nat.zero_le _⟩ dX6_fails_49 rfl ?_
    refine g_iload_n 53 4 F dX6_fails_52 rfl rfl ?_
    obtain ⟨h4, hf⟩ := op_ok hf
    refine m_st_1 54 F h4 dX6_fails_53 rfl ?_
    refine g_aload_n 55 1 F dX6_fails_54 rfl rfl ?_
    refine m_get_1 58 F fl_X6_7 dX6_fails_55 rfl ?_
    refine g_iload_n 59 2 F dX6_fails_58 rfl rfl ?_
    refine g_bipush 61 (v := 8) F dX6_fails_59 (by decide) rfl ?_
    refine g_iconst 62 (v := 3) F dX6_fails_61 (by decide) rfl ?_
    refine g_iload 64 0 F dX6_fails_62 rfl rfl ?_
    refine g_imul 65 F dX6_fails_64 rfl ?_
    refine g_iadd 66 F dX6_fails_65 rfl ?_
    refine g_iconst 67 (v := 2) F dX6_fails_66 (by decide) rfl ?_
    refine g_iadd 68 F dX6_fails_67 rfl ?_
    refine g_cSi 71 (st := [.ref (ad 1)]) F hok (c_X6_cell (kl K) D cI cZ ad (kA K) (mA (mA S 1 (f_X6_cell a1 (8 + (3 * q1))).toNatClampNeg a2) 1 (f_X6_cell a1 ((8 + (3 * q1)) + 1)).toNatClampNeg a3) a1 ((8 + (3 * q1)) + 2) _ rfl) ws_X6_cell ml_X6_46 ⟨Nat.le_of_ble_eq_true rfl, Nat.le_of_ble_eq_true rfl⟩ rfl rfl (Nat.le_of_ble_eq_true rfl) ⟨Nat.zero_le _, Nat.zero_le _⟩ dX6_fails_68 rfl ?_
    refine g_iconst 72 (v := 0) F dX6_fails_71 (by decide) rfl ?_
    obtain ⟨h5, hf⟩ := op_ok hf
    refine m_st_1 73 F h5 dX6_fails_72 rfl ?_
    refine g_aload_n 74 1 F dX6_fails_73 rfl rfl ?_
    refine m_get_1 77 F fl_X6_7 dX6_fails_74 rfl ?_
    refine g_iload_n 78 2 F dX6_fails_77 rfl rfl ?_
    refine g_bipush 80 (v := 7) F dX6_fails_78 (by decide) rfl ?_
    refine g_cSi 83 (st := [.ref (ad 1)]) F hok (c_X6_cell (kl K) D cI cZ ad (kA K) (mA (mA (mA S 1 (f_X6_cell a1 (8 + (3 * q1))).toNatClampNeg a2) 1 (f_X6_cell a1 ((8 + (3 * q1)) + 1)).toNatClampNeg a3) 1 (f_X6_cell a1 ((8 + (3 * q1)) + 2)).toNatClampNeg 0) a1 7 _ rfl) ws_X6_cell ml_X6_46 ⟨Nat.le_of_ble_eq_true rfl, Nat.le_of_ble_eq_true rfl⟩ rfl rfl (Nat.le_of_ble_eq_true rfl) ⟨Nat.zero_le _, Nat.zero_le _⟩ dX6_fails_80 rfl ?_
    refine g_dup2 84 F dX6_fails_83 rfl rfl rfl ?_
    obtain ⟨h6, hf⟩ := op_ok hf
    refine m_ld_1 85 F h6 dX6_fails_84 rfl ?_
    refine g_iconst 86 (v := 1) F dX6_fails_85 (by decide) rfl ?_
    refine g_iadd 87 F dX6_fails_86 rfl ?_
    obtain ⟨h7, hf⟩ := op_ok hf
    refine m_st_1 88 F h7 dX6_fails_87 rfl ?_
    refine g_iconst 89 (v := 1) F dX6_fails_88 (by decide) rfl ?_
    obtain rfl := Option.some.inj hf
    exact hR _ _ dX6_fails_89
  · refine g_iconst 17 (v := 0) F dX6_fails_16 (by decide) rfl ?_
    obtain rfl := Option.some.inj hf
    exact hR _ _ dX6_fails_17
theorem c_X6_fails (l : Launch) (D : va_G) (cI cZ : ClassId) (ad : Nat → Nat) (A : Nat → Prop) (S : MS) (a1 : Int32) (a2 : Int32) (a3 : Int32) (q : Bool × MS) (hf : f_X6_fails S a1 a2 a3 = some q) : Ci l yX6_fails cX6_fails 5 (some .boolean) 2 43 (mX D cI cZ A ad) (mKf D cI cZ) A S [.ref (ad 0), .int a1, .int a2, .int a3] (bI q.1) q.2 := by
  refine met_z (by decide +kernel) (Nat.le_of_ble_eq_true rfl) (fun K hl hA hn F hR => ?_)
  subst hl; subst hA
  exact w_X6_fails D cI cZ ad K F hn S a1 a2 a3 q hf hR
set_option maxHeartbeats 4000000 in
set_option maxRecDepth 100000 in
theorem w_X6_comes (D : va_G) (cI cZ : ClassId) (ad : Nat → Nat) (K : Ctx) (F : Fx K cX6_comes RX6 (mKf D cI cZ) 1 21) (hn : kn K = 4) (S : MS) (a1 : Int32) (q : Int32 × MS) (hf : f_X6_comes S a1 = some q) (hR : ∀ (pc : Nat) (lv : List (Nat × Value)), decode cX6_comes pc = .ok (.ireturn, 1) → G K (mX D cI cZ (kA K) ad) 0 0 pc q.2 lv [.int q.1]) : G K (mX D cI cZ (kA K) ad) 0 0 0 S [(0, .ref (ad 0)), (1, .int a1)] [] := by
  have hok := mKf_ok D cI cZ (kA K)
  have L_9 : ∀ (n : Nat) (S : MS) (x1 : Int32) (x2 : Int32) (x3 : Int32), l_X6_comes_9 n S x1 x2 x3 = some q → G K (mX D cI cZ (kA K) ad) 0 0 9 S [(0, .ref (ad 0)), (1, .int x1), (2, .int x2), (3, .int x3)] [] := by
    intro n
    induction n with
    | zero =>
      intro S x1 x2 x3 hf
      rw [l_X6_comes_9] at hf
      cases hf
    | succ n ih =>
      intro S x1 x2 x3 hf
      rw [l_X6_comes_9] at hf
      refine g_iload_n 10 3 F dX6_comes_9 rfl rfl ?_
      refine g_sipush 13 (v := 1288) F dX6_comes_10 (by decide) rfl ?_
      refine g_icmp_ge 33 16 F dX6_comes_13 rfl rfl hf (fun _ hf => ?_) (fun _ hf => ?_)
      · refine g_aload_n 34 0 F dX6_comes_33 rfl rfl ?_
        refine m_get_1 37 F fl_X6_7 dX6_comes_34 rfl ?_
        refine g_iload_n 38 2 F dX6_comes_37 rfl rfl ?_
        refine g_iconst 39 (v := 0) F dX6_comes_38 (by decide) rfl ?_
        refine g_cSi 42 (st := [.ref (ad 1)]) F hok (c_X6_cell (kl K) D cI cZ ad (kA K) S x2 0 _ rfl) ws_X6_cell ml_X6_46 ⟨Nat.le_of_ble_eq_true rfl, Nat.le_of_ble_eq_true rfl⟩ rfl rfl (Nat.le_of_ble_eq_true rfl) ⟨Nat.zero_le _, Nat.zero_le _⟩ dX6_comes_39 rfl ?_
        refine g_iload_n 43 1 F dX6_comes_42 rfl rfl ?_
        obtain ⟨h1, hf⟩ := op_ok hf
        refine m_st_1 44 F h1 dX6_comes_43 rfl ?_
        refine g_aload_n 45 0 F dX6_comes_44 rfl rfl ?_
        refine m_get_1 48 F fl_X6_7 dX6_comes_45 rfl ?_
        refine g_iload_n 49 2 F dX6_comes_48 rfl rfl ?_
        refine g_iconst 50 (v := 1) F dX6_comes_49 (by decide) rfl ?_
        refine g_cSi 53 (st := [.ref (ad 1)]) F hok (c_X6_cell (kl K) D cI cZ ad (kA K) (mA S 1 (f_X6_cell x2 0).toNatClampNeg x1) x2 1 _ rfl) ws_X6_cell ml_X6_46 ⟨Nat.le_of_ble_eq_true rfl, Nat.le_of_ble_eq_true rfl⟩ rfl rfl (Nat.le_of_ble_eq_true rfl) ⟨Nat.zero_le _, Nat.zero_le _⟩ dX6_comes_50 rfl ?_
        refine g_aload_n 54 0 F dX6_comes_53 rfl rfl ?_
        refine m_get_1 57 F fl_X6_7 dX6_comes_54 rfl ?_
        refine g_iconst 58 (v := 0) F dX6_comes_57 (by decide) rfl ?_
        refine m_ldK_1 59 0 F (by decide) (by decide) dX6_comes_58 rfl ?_
        obtain ⟨h2, hf⟩ := op_ok hf
        refine m_st_1 60 F h2 dX6_comes_59 rfl ?_
        refine g_aload_n 61 0 F dX6_comes_60 rfl rfl ?_
        refine m_get_1 64 F fl_X6_7 dX6_comes_61 rfl ?_
        refine g_iload_n 65 2 F dX6_comes_64 rfl rfl ?_
        refine g_iconst 66 (v := 4) F dX6_comes_65 (by decide) rfl ?_
        refine g_cSi 69 (st := [.ref (ad 1)]) F hok (c_X6_cell (kl K) D cI cZ ad (kA K) (mA (mA S 1 (f_X6_cell x2 0).toNatClampNeg x1) 1 (f_X6_cell x2 1).toNatClampNeg ((mA S 1 (f_X6_cell x2 0).toNatClampNeg x1).2 1 0)) x2 4 _ rfl) ws_X6_cell ml_X6_46 ⟨Nat.le_of_ble_eq_true rfl, Nat.le_of_ble_eq_true rfl⟩ rfl rfl (Nat.le_of_ble_eq_true rfl) ⟨Nat.zero_le _, Nat.zero_le _⟩ dX6_comes_66 rfl ?_
        refine g_iconst 70 (v := (-1)) F dX6_comes_69 (by decide) rfl ?_
        obtain ⟨h3, hf⟩ := op_ok hf
        refine m_st_1 71 F h3 dX6_comes_70 rfl ?_
        refine g_aload_n 72 0 F dX6_comes_71 rfl rfl ?_
        refine m_get_1 75 F fl_X6_7 dX6_comes_72 rfl ?_
        refine g_iload_n 76 2 F dX6_comes_75 rfl rfl ?_
        refine g_bipush 78 (v := 6) F dX6_comes_76 (by decide) rfl ?_
        refine g_cSi 81 (st := [.ref (ad 1)]) F hok (c_X6_cell (kl K) D cI cZ ad (kA K) (mA (mA (mA S 1 (f_X6_cell x2 0).toNatClampNeg x1) 1 (f_X6_cell x2 1).toNatClampNeg ((mA S 1 (f_X6_cell x2 0).toNatClampNeg x1).2 1 0)) 1 (f_X6_cell x2 4).toNatClampNeg (-1)) x2 6 _ rfl) ws_X6_cell ml_X6_46 ⟨Nat.le_of_ble_eq_true rfl, Nat.le_of_ble_eq_true rfl⟩ rfl rfl (Nat.le_of_ble_eq_true rfl) ⟨Nat.zero_le _, Nat.zero_le _⟩ dX6_comes_78 rfl ?_
        refine g_iconst 82 (v := (-1)) F dX6_comes_81 (by decide) rfl ?_
        obtain ⟨h4, hf⟩ := op_ok hf
        refine m_st_1 83 F h4 dX6_comes_82 rfl ?_
        refine g_aload_n 84 0 F dX6_comes_83 rfl rfl ?_
        refine m_get_1 87 F fl_X6_7 dX6_comes_84 rfl ?_
        refine g_iconst 88 (v := 2) F dX6_comes_87 (by decide) rfl ?_
        refine g_dup2 89 F dX6_comes_88 rfl rfl rfl ?_
        refine m_ldK_1 90 2 F (by decide) (by decide) dX6_comes_89 rfl ?_
        refine g_iconst 91 (v := 1) F dX6_comes_90 (by decide) rfl ?_
        refine g_iadd 92 F dX6_comes_91 rfl ?_
        refine m_stK_1 93 2 F (by decide) (by decide) dX6_comes_92 rfl ?_
        refine g_iload_n 94 2 F dX6_comes_93 rfl rfl ?_
        obtain rfl := Option.some.inj hf
        exact hR _ _ dX6_comes_94
      · refine g_aload_n 17 0 F dX6_comes_16 rfl rfl ?_
        refine m_get_1 20 F fl_X6_7 dX6_comes_17 rfl ?_
        refine g_iload_n 21 2 F dX6_comes_20 rfl rfl ?_
        refine g_iload_n 22 3 F dX6_comes_21 rfl rfl ?_
        refine g_cSi 25 (st := [.ref (ad 1)]) F hok (c_X6_cell (kl K) D cI cZ ad (kA K) S x2 x3 _ rfl) ws_X6_cell ml_X6_46 ⟨Nat.le_of_ble_eq_true rfl, Nat.le_of_ble_eq_true rfl⟩ rfl rfl (Nat.le_of_ble_eq_true rfl) ⟨Nat.zero_le _, Nat.zero_le _⟩ dX6_comes_22 rfl ?_
        refine g_iconst 26 (v := 0) F dX6_comes_25 (by decide) rfl ?_
        obtain ⟨h5, hf⟩ := op_ok hf
        refine m_st_1 27 F h5 dX6_comes_26 rfl ?_
        refine g_iinc 30 3 (x3 + 1) [(3, .int (x3 + 1)), (0, .ref (ad 0)), (1, .int x1), (2, .int x2)] F dX6_comes_27 rfl rfl (lt_kn hn (by decide)) rfl rfl ?_
        refine g_goto 9 F dX6_comes_30 rfl ?_
        exact G.lvs [1, 2, 3, 0] rfl (ih (mA S 1 (f_X6_cell x2 x3).toNatClampNeg 0) x1 x2 (x3 + 1) hf)
  unfold f_X6_comes at hf
  refine g_aload_n 1 0 F dX6_comes_0 rfl rfl ?_
  refine m_get_1 4 F fl_X6_7 dX6_comes_1 rfl ?_
  refine g_iconst 5 (v := 2) F dX6_comes_4 (by decide) rfl ?_
  refine m_ldK_1 6 2 F (by decide) (by decide) dX6_comes_5 rfl ?_
  refine g_istore_n 7 [(2, .int (S.2 1 2)), (0, .ref (ad 0)), (1, .int a1)] F dX6_comes_6 (lt_kn hn (by decide)) rfl rfl ?_
  refine g_iconst 8 (v := 0) F dX6_comes_7 (by decide) rfl ?_
  refine g_istore_n 9 [(3, .int 0), (2, .int (S.2 1 2)), (0, .ref (ad 0)), (1, .int a1)] F dX6_comes_8 (lt_kn hn (by decide)) rfl rfl ?_
  exact G.lvs [2, 3, 1, 0] rfl (L_9 fu S a1 (S.2 1 2) 0 hf)
theorem c_X6_comes (l : Launch) (D : va_G) (cI cZ : ClassId) (ad : Nat → Nat) (A : Nat → Prop) (S : MS) (a1 : Int32) (q : Int32 × MS) (hf : f_X6_comes S a1 = some q) : Ci l yX6_comes cX6_comes 4 (some .int) 1 21 (mX D cI cZ A ad) (mKf D cI cZ) A S [.ref (ad 0), .int a1] q.1 q.2 := by
  refine met_i (by decide +kernel) (Nat.le_of_ble_eq_true rfl) (fun K hl hA hn F hR => ?_)
  subst hl; subst hA
  exact w_X6_comes D cI cZ ad K F hn S a1 q hf hR
set_option maxHeartbeats 4000000 in
set_option maxRecDepth 100000 in
theorem w_X6_isBehind (D : va_G) (cI cZ : ClassId) (ad : Nat → Nat) (K : Ctx) (F : Fx K cX6_isBehind RX6 (mKf D cI cZ) 0 0) (hn : kn K = 3) (S : MS) (a1 : Int32) (a2 : Int32) (q : Bool) (hf : f_X6_isBehind S a1 a2 = q) (hR : ∀ (pc : Nat) (lv : List (Nat × Value)), decode cX6_isBehind pc = .ok (.ireturn, 1) → G K (mX D cI cZ (kA K) ad) 0 0 pc S lv [.int (bI q)]) : G K (mX D cI cZ (kA K) ad) 0 0 0 S [(0, .ref (ad 0)), (1, .int a1), (2, .int a2)] [] := by
  have hok := mKf_ok D cI cZ (kA K)
  unfold f_X6_isBehind at hf
  refine g_iload_n 1 1 F dX6_isBehind_0 rfl rfl ?_
  refine g_aload_n 2 0 F dX6_isBehind_1 rfl rfl ?_
  refine m_get_1 5 F fl_X6_7 dX6_isBehind_2 rfl ?_
  refine g_iconst 6 (v := 0) F dX6_isBehind_5 (by decide) rfl ?_
  refine m_ldK_1 7 0 F (by decide) (by decide) dX6_isBehind_6 rfl ?_
  refine g_icmp_gt 30 10 F dX6_isBehind_7 rfl rfl hf (fun _ hf => ?_) (fun _ hf => ?_)
  · refine g_iconst 31 (v := 1) F dX6_isBehind_30 (by decide) rfl ?_
    refine g_goto 35 F dX6_isBehind_31 rfl ?_
    subst hf
    exact hR _ _ dX6_isBehind_35
  · refine g_iload_n 11 1 F dX6_isBehind_10 rfl rfl ?_
    refine g_aload_n 12 0 F dX6_isBehind_11 rfl rfl ?_
    refine m_get_1 15 F fl_X6_7 dX6_isBehind_12 rfl ?_
    refine g_iconst 16 (v := 0) F dX6_isBehind_15 (by decide) rfl ?_
    refine m_ldK_1 17 0 F (by decide) (by decide) dX6_isBehind_16 rfl ?_
    refine g_icmp_ne 34 20 F dX6_isBehind_17 rfl rfl hf (fun _ hf => ?_) (fun _ hf => ?_)
    · refine g_iconst 35 (v := 0) F dX6_isBehind_34 (by decide) rfl ?_
      subst hf
      exact hR _ _ dX6_isBehind_35
    · refine g_iload_n 21 2 F dX6_isBehind_20 rfl rfl ?_
      refine g_aload_n 22 0 F dX6_isBehind_21 rfl rfl ?_
      refine m_get_1 25 F fl_X6_7 dX6_isBehind_22 rfl ?_
      refine g_iconst 26 (v := 1) F dX6_isBehind_25 (by decide) rfl ?_
      refine m_ldK_1 27 1 F (by decide) (by decide) dX6_isBehind_26 rfl ?_
      refine g_icmp_le 34 30 F dX6_isBehind_27 rfl rfl hf (fun _ hf => ?_) (fun _ hf => ?_)
      · refine g_iconst 35 (v := 0) F dX6_isBehind_34 (by decide) rfl ?_
        subst hf
        exact hR _ _ dX6_isBehind_35
      · refine g_iconst 31 (v := 1) F dX6_isBehind_30 (by decide) rfl ?_
        refine g_goto 35 F dX6_isBehind_31 rfl ?_
        subst hf
        exact hR _ _ dX6_isBehind_35
theorem c_X6_isBehind (l : Launch) (D : va_G) (cI cZ : ClassId) (ad : Nat → Nat) (A : Nat → Prop) (S : MS) (a1 : Int32) (a2 : Int32) (q : Bool) (hf : f_X6_isBehind S a1 a2 = q) : Ci l yX6_isBehind cX6_isBehind 3 (some .boolean) 0 0 (mX D cI cZ A ad) (mKf D cI cZ) A S [.ref (ad 0), .int a1, .int a2] (bI q) S := by
  refine met_z (by decide +kernel) (Nat.le_of_ble_eq_true rfl) (fun K hl hA hn F hR => ?_)
  subst hl; subst hA
  exact w_X6_isBehind D cI cZ ad K F hn S a1 a2 q hf hR
set_option maxHeartbeats 4000000 in
set_option maxRecDepth 100000 in
theorem w_X6_isFiled (D : va_G) (cI cZ : ClassId) (ad : Nat → Nat) (K : Ctx) (F : Fx K cX6_isFiled RX6 (mKf D cI cZ) 2 43) (hn : kn K = 3) (S : MS) (a1 : Int32) (a2 : Int32) (q : Bool) (hf : f_X6_isFiled S a1 a2 = some q) (hR : ∀ (pc : Nat) (lv : List (Nat × Value)), decode cX6_isFiled pc = .ok (.ireturn, 1) → G K (mX D cI cZ (kA K) ad) 0 0 pc S lv [.int (bI q)]) : G K (mX D cI cZ (kA K) ad) 0 0 0 S [(0, .ref (ad 0)), (1, .int a1), (2, .int a2)] [] := by
  have hok := mKf_ok D cI cZ (kA K)
  unfold f_X6_isFiled at hf
  refine g_aload_n 1 0 F dX6_isFiled_0 rfl rfl ?_
  refine g_iload_n 2 1 F dX6_isFiled_1 rfl rfl ?_
  refine g_sipush 5 (v := 188) F dX6_isFiled_2 (by decide) rfl ?_
  refine g_iload_n 6 2 F dX6_isFiled_5 rfl rfl ?_
  refine g_iadd 7 F dX6_isFiled_6 rfl ?_
  obtain ⟨q1, e2, hf⟩ := op_bd hf
  refine g_cVi 10 (st := []) F hok (c_X6_its (kl K) D cI cZ ad (kA K) S a1 (188 + a2) q1 e2) wy_X6_its ml_X6_50 (m_recv F) ⟨Nat.le_of_ble_eq_true rfl, Nat.le_of_ble_eq_true rfl⟩ rfl rfl (Nat.le_of_ble_eq_true rfl) ⟨Nat.zero_le _, Nat.zero_le _⟩ dX6_isFiled_7 rfl ?_
  refine g_if_le 17 13 F dX6_isFiled_10 rfl rfl hf (fun _ hf => ?_) (fun _ hf => ?_)
  · refine g_iconst 18 (v := 0) F dX6_isFiled_17 (by decide) rfl ?_
    obtain rfl := Option.some.inj hf
    exact hR _ _ dX6_isFiled_18
  · refine g_iconst 14 (v := 1) F dX6_isFiled_13 (by decide) rfl ?_
    refine g_goto 18 F dX6_isFiled_14 rfl ?_
    obtain rfl := Option.some.inj hf
    exact hR _ _ dX6_isFiled_18
theorem c_X6_isFiled (l : Launch) (D : va_G) (cI cZ : ClassId) (ad : Nat → Nat) (A : Nat → Prop) (S : MS) (a1 : Int32) (a2 : Int32) (q : Bool) (hf : f_X6_isFiled S a1 a2 = some q) : Ci l yX6_isFiled cX6_isFiled 3 (some .boolean) 2 43 (mX D cI cZ A ad) (mKf D cI cZ) A S [.ref (ad 0), .int a1, .int a2] (bI q) S := by
  refine met_z (by decide +kernel) (Nat.le_of_ble_eq_true rfl) (fun K hl hA hn F hR => ?_)
  subst hl; subst hA
  exact w_X6_isFiled D cI cZ ad K F hn S a1 a2 q hf hR
set_option maxHeartbeats 4000000 in
set_option maxRecDepth 100000 in
theorem w_X6_holeOf (D : va_G) (cI cZ : ClassId) (ad : Nat → Nat) (K : Ctx) (F : Fx K cX6_holeOf RX6 (mKf D cI cZ) 3 65) (hn : kn K = 4) (S : MS) (a1 : Int32) (a2 : Int32) (q : Int32) (hf : f_X6_holeOf S a1 a2 = some q) (hR : ∀ (pc : Nat) (lv : List (Nat × Value)), decode cX6_holeOf pc = .ok (.ireturn, 1) → G K (mX D cI cZ (kA K) ad) 0 0 pc S lv [.int q]) : G K (mX D cI cZ (kA K) ad) 0 0 0 S [(0, .ref (ad 0)), (1, .int a1), (2, .int a2)] [] := by
  have hok := mKf_ok D cI cZ (kA K)
  have L_5 : ∀ (n : Nat) (x1 : Int32) (x2 : Int32) (x3 : Int32), l_X6_holeOf_5 S n x1 x2 x3 = some q → G K (mX D cI cZ (kA K) ad) 0 0 5 S [(0, .ref (ad 0)), (1, .int x1), (2, .int x2), (3, .int x3)] [] := by
    intro n
    induction n with
    | zero =>
      intro x1 x2 x3 hf
      rw [l_X6_holeOf_5] at hf
      cases hf
    | succ n ih =>
      intro x1 x2 x3 hf
      rw [l_X6_holeOf_5] at hf
      refine g_iload_n 6 3 F dX6_holeOf_5 rfl rfl ?_
      refine g_bipush 8 (v := 30) F dX6_holeOf_6 (by decide) rfl ?_
      refine g_iload_n 9 2 F dX6_holeOf_8 rfl rfl ?_
      refine g_imul 10 F dX6_holeOf_9 rfl ?_
      refine g_bipush 12 (v := 30) F dX6_holeOf_10 (by decide) rfl ?_
      refine g_iadd 13 F dX6_holeOf_12 rfl ?_
      refine g_icmp_ge 33 16 F dX6_holeOf_13 rfl rfl hf (fun _ hf => ?_) (fun _ hf => ?_)
      · refine g_iconst 34 (v := (-1)) F dX6_holeOf_33 (by decide) rfl ?_
        obtain rfl := Option.some.inj hf
        exact hR _ _ dX6_holeOf_34
      · refine g_aload_n 17 0 F dX6_holeOf_16 rfl rfl ?_
        refine g_iload_n 18 1 F dX6_holeOf_17 rfl rfl ?_
        refine g_iload_n 19 3 F dX6_holeOf_18 rfl rfl ?_
        obtain ⟨q1, e2, hf⟩ := op_bd hf
        refine g_cVi 22 (st := []) F hok (c_X6_isFiled (kl K) D cI cZ ad (kA K) S x1 x3 q1 e2) wy_X6_isFiled ml_X6_53 (m_recv F) ⟨Nat.le_of_ble_eq_true rfl, Nat.le_of_ble_eq_true rfl⟩ rfl rfl (Nat.le_of_ble_eq_true rfl) ⟨Nat.zero_le _, Nat.zero_le _⟩ dX6_holeOf_19 rfl ?_
        refine g_ifne_b 27 25 F dX6_holeOf_22 rfl rfl hf (fun _ hf => ?_) (fun _ hf => ?_)
        · refine g_iinc 30 3 (x3 + 1) [(3, .int (x3 + 1)), (0, .ref (ad 0)), (1, .int x1), (2, .int x2)] F dX6_holeOf_27 rfl rfl (lt_kn hn (by decide)) rfl rfl ?_
          refine g_goto 5 F dX6_holeOf_30 rfl ?_
          exact G.lvs [1, 2, 3, 0] rfl (ih x1 x2 (x3 + 1) hf)
        · refine g_iload_n 26 3 F dX6_holeOf_25 rfl rfl ?_
          obtain rfl := Option.some.inj hf
          exact hR _ _ dX6_holeOf_26
  unfold f_X6_holeOf at hf
  refine g_bipush 2 (v := 30) F dX6_holeOf_0 (by decide) rfl ?_
  refine g_iload_n 3 2 F dX6_holeOf_2 rfl rfl ?_
  refine g_imul 4 F dX6_holeOf_3 rfl ?_
  refine g_istore_n 5 [(3, .int (30 * a2)), (0, .ref (ad 0)), (1, .int a1), (2, .int a2)] F dX6_holeOf_4 (lt_kn hn (by decide)) rfl rfl ?_
  exact G.lvs [1, 2, 3, 0] rfl (L_5 fu a1 a2 (30 * a2) hf)
theorem c_X6_holeOf (l : Launch) (D : va_G) (cI cZ : ClassId) (ad : Nat → Nat) (A : Nat → Prop) (S : MS) (a1 : Int32) (a2 : Int32) (q : Int32) (hf : f_X6_holeOf S a1 a2 = some q) : Ci l yX6_holeOf cX6_holeOf 4 (some .int) 3 65 (mX D cI cZ A ad) (mKf D cI cZ) A S [.ref (ad 0), .int a1, .int a2] q S := by
  refine met_i (by decide +kernel) (Nat.le_of_ble_eq_true rfl) (fun K hl hA hn F hR => ?_)
  subst hl; subst hA
  exact w_X6_holeOf D cI cZ ad K F hn S a1 a2 q hf hR
set_option maxHeartbeats 4000000 in
set_option maxRecDepth 100000 in
theorem w_X6_goesOn (D : va_G) (cI cZ : ClassId) (ad : Nat → Nat) (K : Ctx) (F : Fx K cX6_goesOn RX6 (mKf D cI cZ) 4 88) (hn : kn K = 6) (S : MS) (a1 : Int32) (a2 : Int32) (q : Int32 × MS) (hf : f_X6_goesOn S a1 a2 = some q) (hR : ∀ (pc : Nat) (lv : List (Nat × Value)), decode cX6_goesOn pc = .ok (.ireturn, 1) → G K (mX D cI cZ (kA K) ad) 0 0 pc q.2 lv [.int q.1]) : G K (mX D cI cZ (kA K) ad) 0 0 0 S [(0, .ref (ad 0)), (1, .int a1), (2, .int a2)] [] := by
  have hok := mKf_ok D cI cZ (kA K)
  have L_27 : ∀ (r15 : MS → Int32 → Int32 → Int32 → Int32 → Option (Int32 × MS)) (h15 : ∀ (S : MS) (x1 : Int32) (x2 : Int32) (x3 : Int32) (x4 : Int32), r15 S x1 x2 x3 x4 = some q → G K (mX D cI cZ (kA K) ad) 0 0 15 S [(0, .ref (ad 0)), (1, .int x1), (2, .int x2), (3, .int x3), (4, .int x4)] []) (n : Nat) (S : MS) (x1 : Int32) (x2 : Int32) (x3 : Int32) (x4 : Int32) (x5 : Int32), l_X6_goesOn_27 r15 n S x1 x2 x3 x4 x5 = some q → G K (mX D cI cZ (kA K) ad) 0 0 27 S [(0, .ref (ad 0)), (1, .int x1), (2, .int x2), (3, .int x3), (4, .int x4), (5, .int x5)] [] := by
    intro r15 h15 n
    induction n with
    | zero =>
      intro S x1 x2 x3 x4 x5 hf
      rw [l_X6_goesOn_27] at hf
      cases hf
    | succ n ih =>
      intro S x1 x2 x3 x4 x5 hf
      rw [l_X6_goesOn_27] at hf
      refine g_iload 29 5 F dX6_goesOn_27 rfl rfl ?_
      refine g_aload_n 30 0 F dX6_goesOn_29 rfl rfl ?_
      refine m_get_1 33 F fl_X6_7 dX6_goesOn_30 rfl ?_
      refine g_iconst 34 (v := 2) F dX6_goesOn_33 (by decide) rfl ?_
      refine m_ldK_1 35 2 F (by decide) (by decide) dX6_goesOn_34 rfl ?_
      refine g_icmp_ge 79 38 F dX6_goesOn_35 rfl rfl hf (fun _ hf => ?_) (fun _ hf => ?_)
      · refine g_iinc 82 4 (x4 + 1) [(4, .int (x4 + 1)), (0, .ref (ad 0)), (1, .int x1), (2, .int x2), (3, .int x3), (5, .int x5)] F dX6_goesOn_79 rfl rfl (lt_kn hn (by decide)) rfl rfl ?_
        refine g_goto 15 F dX6_goesOn_82 rfl ?_
        exact G.lvs [1, 2, 3, 4, 0] rfl (h15 S x1 x2 x3 (x4 + 1) hf)
      · refine g_iload_n 39 3 F dX6_goesOn_38 rfl rfl ?_
        refine g_aload_n 40 0 F dX6_goesOn_39 rfl rfl ?_
        refine g_iload 42 5 F dX6_goesOn_40 rfl rfl ?_
        refine g_iload 44 4 F dX6_goesOn_42 rfl rfl ?_
        obtain ⟨q1, e2, hf⟩ := op_bd hf
        refine g_cVi 47 (st := [.int x3]) F hok (c_X6_holeOf (kl K) D cI cZ ad (kA K) S x5 x4 q1 e2) wy_X6_holeOf ml_X6_57 (m_recv F) ⟨Nat.le_of_ble_eq_true rfl, Nat.le_of_ble_eq_true rfl⟩ rfl rfl (Nat.le_of_ble_eq_true rfl) ⟨Nat.zero_le _, Nat.zero_le _⟩ dX6_goesOn_44 rfl ?_
        refine g_iconst 48 (v := (-1)) F dX6_goesOn_47 (by decide) rfl ?_
        refine g_icmp_eq 70 51 F dX6_goesOn_48 rfl rfl hf (fun _ hf => ?_) (fun _ hf => ?_)
        · refine g_iconst 71 (v := 0) F dX6_goesOn_70 (by decide) rfl ?_
          refine g_iadd 72 F dX6_goesOn_71 rfl ?_
          refine g_istore_n 73 [(3, .int (x3 + 0)), (0, .ref (ad 0)), (1, .int x1), (2, .int x2), (4, .int x4), (5, .int x5)] F dX6_goesOn_72 (lt_kn hn (by decide)) rfl rfl ?_
          refine g_iinc 76 5 (x5 + 1) [(5, .int (x5 + 1)), (3, .int (x3 + 0)), (0, .ref (ad 0)), (1, .int x1), (2, .int x2), (4, .int x4)] F dX6_goesOn_73 rfl rfl (lt_kn hn (by decide)) rfl rfl ?_
          refine g_goto 27 F dX6_goesOn_76 rfl ?_
          exact G.lvs [2, 3, 4, 1, 5, 0] rfl (ih S x1 x2 (x3 + 0) x4 (x5 + 1) hf)
        · refine g_aload_n 52 0 F dX6_goesOn_51 rfl rfl ?_
          refine g_iload 54 5 F dX6_goesOn_52 rfl rfl ?_
          refine g_bipush 56 (v := 30) F dX6_goesOn_54 (by decide) rfl ?_
          refine g_iload 58 4 F dX6_goesOn_56 rfl rfl ?_
          refine g_imul 59 F dX6_goesOn_58 rfl ?_
          refine g_iconst 60 (v := 0) F dX6_goesOn_59 (by decide) rfl ?_
          obtain ⟨q3, e4, hf⟩ := op_bd hf
          refine g_cVi 63 (st := [.int x3]) F hok (c_X6_fails (kl K) D cI cZ ad (kA K) S x5 (30 * x4) 0 q3 e4) wy_X6_fails ml_X6_60 (m_recv F) ⟨Nat.le_of_ble_eq_true rfl, Nat.le_of_ble_eq_true rfl⟩ rfl rfl (Nat.le_of_ble_eq_true rfl) ⟨Nat.zero_le _, Nat.zero_le _⟩ dX6_goesOn_60 rfl ?_
          refine g_ifeq_b 70 66 F dX6_goesOn_63 rfl rfl hf (fun _ hf => ?_) (fun _ hf => ?_)
          · refine g_iconst 71 (v := 0) F dX6_goesOn_70 (by decide) rfl ?_
            refine g_iadd 72 F dX6_goesOn_71 rfl ?_
            refine g_istore_n 73 [(3, .int (x3 + 0)), (0, .ref (ad 0)), (1, .int x1), (2, .int x2), (4, .int x4), (5, .int x5)] F dX6_goesOn_72 (lt_kn hn (by decide)) rfl rfl ?_
            refine g_iinc 76 5 (x5 + 1) [(5, .int (x5 + 1)), (3, .int (x3 + 0)), (0, .ref (ad 0)), (1, .int x1), (2, .int x2), (4, .int x4)] F dX6_goesOn_73 rfl rfl (lt_kn hn (by decide)) rfl rfl ?_
            refine g_goto 27 F dX6_goesOn_76 rfl ?_
            exact G.lvs [2, 3, 4, 1, 5, 0] rfl (ih q3.2 x1 x2 (x3 + 0) x4 (x5 + 1) hf)
          · refine g_iconst 67 (v := 1) F dX6_goesOn_66 (by decide) rfl ?_
            refine g_goto 71 F dX6_goesOn_67 rfl ?_
            refine g_iadd 72 F dX6_goesOn_71 rfl ?_
            refine g_istore_n 73 [(3, .int (x3 + 1)), (0, .ref (ad 0)), (1, .int x1), (2, .int x2), (4, .int x4), (5, .int x5)] F dX6_goesOn_72 (lt_kn hn (by decide)) rfl rfl ?_
            refine g_iinc 76 5 (x5 + 1) [(5, .int (x5 + 1)), (3, .int (x3 + 1)), (0, .ref (ad 0)), (1, .int x1), (2, .int x2), (4, .int x4)] F dX6_goesOn_73 rfl rfl (lt_kn hn (by decide)) rfl rfl ?_
            refine g_goto 27 F dX6_goesOn_76 rfl ?_
            exact G.lvs [2, 3, 4, 1, 5, 0] rfl (ih q3.2 x1 x2 (x3 + 1) x4 (x5 + 1) hf)
  have L_15 : ∀ (n : Nat) (S : MS) (x1 : Int32) (x2 : Int32) (x3 : Int32) (x4 : Int32), l_X6_goesOn_15 n S x1 x2 x3 x4 = some q → G K (mX D cI cZ (kA K) ad) 0 0 15 S [(0, .ref (ad 0)), (1, .int x1), (2, .int x2), (3, .int x3), (4, .int x4)] [] := by
    intro n
    induction n with
    | zero =>
      intro S x1 x2 x3 x4 hf
      rw [l_X6_goesOn_15] at hf
      cases hf
    | succ n ih =>
      intro S x1 x2 x3 x4 hf
      rw [l_X6_goesOn_15] at hf
      refine g_iload 17 4 F dX6_goesOn_15 rfl rfl ?_
      refine g_iload_n 18 1 F dX6_goesOn_17 rfl rfl ?_
      refine g_bipush 20 (v := 30) F dX6_goesOn_18 (by decide) rfl ?_
      refine g_idiv 21 F dX6_goesOn_20 (by decide) rfl ?_
      refine g_icmp_gt 85 24 F dX6_goesOn_21 rfl rfl hf (fun _ hf => ?_) (fun _ hf => ?_)
      · refine g_aload_n 86 0 F dX6_goesOn_85 rfl rfl ?_
        refine m_get_1 89 F fl_X6_7 dX6_goesOn_86 rfl ?_
        refine g_iconst 90 (v := 0) F dX6_goesOn_89 (by decide) rfl ?_
        refine g_iload_n 91 1 F dX6_goesOn_90 rfl rfl ?_
        refine m_stK_1 92 0 F (by decide) (by decide) dX6_goesOn_91 rfl ?_
        refine g_aload_n 93 0 F dX6_goesOn_92 rfl rfl ?_
        refine m_get_1 96 F fl_X6_7 dX6_goesOn_93 rfl ?_
        refine g_iconst 97 (v := 1) F dX6_goesOn_96 (by decide) rfl ?_
        refine g_iload_n 98 2 F dX6_goesOn_97 rfl rfl ?_
        refine m_stK_1 99 1 F (by decide) (by decide) dX6_goesOn_98 rfl ?_
        refine g_iload_n 100 3 F dX6_goesOn_99 rfl rfl ?_
        obtain rfl := Option.some.inj hf
        exact hR _ _ dX6_goesOn_100
      · refine g_iconst 25 (v := 0) F dX6_goesOn_24 (by decide) rfl ?_
        refine g_istore 27 [(5, .int 0), (0, .ref (ad 0)), (1, .int x1), (2, .int x2), (3, .int x3), (4, .int x4)] F dX6_goesOn_25 (lt_kn hn (by decide)) rfl rfl ?_
        exact G.lvs [1, 2, 3, 4, 5, 0] rfl (L_27 (l_X6_goesOn_15 n) ih fu S x1 x2 x3 x4 0 hf)
  unfold f_X6_goesOn at hf
  refine g_iconst 1 (v := 0) F dX6_goesOn_0 (by decide) rfl ?_
  refine g_istore_n 2 [(3, .int 0), (0, .ref (ad 0)), (1, .int a1), (2, .int a2)] F dX6_goesOn_1 (lt_kn hn (by decide)) rfl rfl ?_
  refine g_aload_n 3 1 F dX6_goesOn_2 rfl rfl ?_
  refine m_get_1 6 F fl_X6_7 dX6_goesOn_3 rfl ?_
  refine g_iconst 7 (v := 0) F dX6_goesOn_6 (by decide) rfl ?_
  refine m_ldK_1 8 0 F (by decide) (by decide) dX6_goesOn_7 rfl ?_
  refine g_bipush 10 (v := 30) F dX6_goesOn_8 (by decide) rfl ?_
  refine g_idiv 11 F dX6_goesOn_10 (by decide) rfl ?_
  refine g_iconst 12 (v := 1) F dX6_goesOn_11 (by decide) rfl ?_
  refine g_iadd 13 F dX6_goesOn_12 rfl ?_
  refine g_istore 15 [(4, .int (((S.2 1 0) / 30) + 1)), (3, .int 0), (0, .ref (ad 0)), (1, .int a1), (2, .int a2)] F dX6_goesOn_13 (lt_kn hn (by decide)) rfl rfl ?_
  exact G.lvs [2, 3, 4, 1, 0] rfl (L_15 fu S a1 a2 0 (((S.2 1 0) / 30) + 1) hf)
theorem c_X6_goesOn (l : Launch) (D : va_G) (cI cZ : ClassId) (ad : Nat → Nat) (A : Nat → Prop) (S : MS) (a1 : Int32) (a2 : Int32) (q : Int32 × MS) (hf : f_X6_goesOn S a1 a2 = some q) : Ci l yX6_goesOn cX6_goesOn 6 (some .int) 4 88 (mX D cI cZ A ad) (mKf D cI cZ) A S [.ref (ad 0), .int a1, .int a2] q.1 q.2 := by
  refine met_i (by decide +kernel) (Nat.le_of_ble_eq_true rfl) (fun K hl hA hn F hR => ?_)
  subst hl; subst hA
  exact w_X6_goesOn D cI cZ ad K F hn S a1 a2 q hf hR
set_option maxHeartbeats 4000000 in
set_option maxRecDepth 100000 in
theorem w_X6_hourOf (D : va_G) (cI cZ : ClassId) (ad : Nat → Nat) (K : Ctx) (F : Fx K cX6_hourOf RX6 (mKf D cI cZ) 2 43) (hn : kn K = 3) (S : MS) (a1 : Int32) (a2 : Int32) (q : Int32) (hf : f_X6_hourOf S a1 a2 = some q) (hR : ∀ (pc : Nat) (lv : List (Nat × Value)), decode cX6_hourOf pc = .ok (.ireturn, 1) → G K (mX D cI cZ (kA K) ad) 0 0 pc S lv [.int q]) : G K (mX D cI cZ (kA K) ad) 0 0 0 S [(0, .ref (ad 0)), (1, .int a1), (2, .int a2)] [] := by
  have hok := mKf_ok D cI cZ (kA K)
  unfold f_X6_hourOf at hf
  refine g_aload_n 1 0 F dX6_hourOf_0 rfl rfl ?_
  refine g_iload_n 2 1 F dX6_hourOf_1 rfl rfl ?_
  refine g_sipush 5 (v := 188) F dX6_hourOf_2 (by decide) rfl ?_
  refine g_iload_n 6 2 F dX6_hourOf_5 rfl rfl ?_
  refine g_iadd 7 F dX6_hourOf_6 rfl ?_
  obtain ⟨q1, e2, hf⟩ := op_bd hf
  refine g_cVi 10 (st := []) F hok (c_X6_its (kl K) D cI cZ ad (kA K) S a1 (188 + a2) q1 e2) wy_X6_its ml_X6_50 (m_recv F) ⟨Nat.le_of_ble_eq_true rfl, Nat.le_of_ble_eq_true rfl⟩ rfl rfl (Nat.le_of_ble_eq_true rfl) ⟨Nat.zero_le _, Nat.zero_le _⟩ dX6_hourOf_7 rfl ?_
  refine g_iconst 11 (v := 1) F dX6_hourOf_10 (by decide) rfl ?_
  refine g_isub 12 F dX6_hourOf_11 rfl ?_
  refine g_bipush 14 (v := 10) F dX6_hourOf_12 (by decide) rfl ?_
  refine g_idiv 15 F dX6_hourOf_14 (by decide) rfl ?_
  obtain rfl := Option.some.inj hf
  exact hR _ _ dX6_hourOf_15
theorem c_X6_hourOf (l : Launch) (D : va_G) (cI cZ : ClassId) (ad : Nat → Nat) (A : Nat → Prop) (S : MS) (a1 : Int32) (a2 : Int32) (q : Int32) (hf : f_X6_hourOf S a1 a2 = some q) : Ci l yX6_hourOf cX6_hourOf 3 (some .int) 2 43 (mX D cI cZ A ad) (mKf D cI cZ) A S [.ref (ad 0), .int a1, .int a2] q S := by
  refine met_i (by decide +kernel) (Nat.le_of_ble_eq_true rfl) (fun K hl hA hn F hR => ?_)
  subst hl; subst hA
  exact w_X6_hourOf D cI cZ ad K F hn S a1 a2 q hf hR
set_option maxHeartbeats 4000000 in
set_option maxRecDepth 100000 in
theorem w_X6_placeOf (D : va_G) (cI cZ : ClassId) (ad : Nat → Nat) (K : Ctx) (F : Fx K cX6_placeOf RX6 (mKf D cI cZ) 2 43) (hn : kn K = 3) (S : MS) (a1 : Int32) (a2 : Int32) (q : Int32) (hf : f_X6_placeOf S a1 a2 = some q) (hR : ∀ (pc : Nat) (lv : List (Nat × Value)), decode cX6_placeOf pc = .ok (.ireturn, 1) → G K (mX D cI cZ (kA K) ad) 0 0 pc S lv [.int q]) : G K (mX D cI cZ (kA K) ad) 0 0 0 S [(0, .ref (ad 0)), (1, .int a1), (2, .int a2)] [] := by
  have hok := mKf_ok D cI cZ (kA K)
  unfold f_X6_placeOf at hf
  refine g_aload_n 1 0 F dX6_placeOf_0 rfl rfl ?_
  refine g_iload_n 2 1 F dX6_placeOf_1 rfl rfl ?_
  refine g_sipush 5 (v := 188) F dX6_placeOf_2 (by decide) rfl ?_
  refine g_iload_n 6 2 F dX6_placeOf_5 rfl rfl ?_
  refine g_iadd 7 F dX6_placeOf_6 rfl ?_
  obtain ⟨q1, e2, hf⟩ := op_bd hf
  refine g_cVi 10 (st := []) F hok (c_X6_its (kl K) D cI cZ ad (kA K) S a1 (188 + a2) q1 e2) wy_X6_its ml_X6_50 (m_recv F) ⟨Nat.le_of_ble_eq_true rfl, Nat.le_of_ble_eq_true rfl⟩ rfl rfl (Nat.le_of_ble_eq_true rfl) ⟨Nat.zero_le _, Nat.zero_le _⟩ dX6_placeOf_7 rfl ?_
  refine g_iconst 11 (v := 1) F dX6_placeOf_10 (by decide) rfl ?_
  refine g_isub 12 F dX6_placeOf_11 rfl ?_
  refine g_bipush 14 (v := 10) F dX6_placeOf_12 (by decide) rfl ?_
  refine g_irem 15 F dX6_placeOf_14 (by decide) rfl ?_
  obtain rfl := Option.some.inj hf
  exact hR _ _ dX6_placeOf_15
theorem c_X6_placeOf (l : Launch) (D : va_G) (cI cZ : ClassId) (ad : Nat → Nat) (A : Nat → Prop) (S : MS) (a1 : Int32) (a2 : Int32) (q : Int32) (hf : f_X6_placeOf S a1 a2 = some q) : Ci l yX6_placeOf cX6_placeOf 3 (some .int) 2 43 (mX D cI cZ A ad) (mKf D cI cZ) A S [.ref (ad 0), .int a1, .int a2] q S := by
  refine met_i (by decide +kernel) (Nat.le_of_ble_eq_true rfl) (fun K hl hA hn F hR => ?_)
  subst hl; subst hA
  exact w_X6_placeOf D cI cZ ad K F hn S a1 a2 q hf hR
set_option maxHeartbeats 4000000 in
set_option maxRecDepth 100000 in
theorem w_X6_mayFile (D : va_G) (cI cZ : ClassId) (ad : Nat → Nat) (K : Ctx) (F : Fx K cX6_mayFile RX6 (mKf D cI cZ) 3 65) (hn : kn K = 4) (S : MS) (a1 : Int32) (a2 : Int32) (a3 : Int32) (q : Bool) (hf : f_X6_mayFile S a1 a2 a3 = some q) (hR : ∀ (pc : Nat) (lv : List (Nat × Value)), decode cX6_mayFile pc = .ok (.ireturn, 1) → G K (mX D cI cZ (kA K) ad) 0 0 pc S lv [.int (bI q)]) : G K (mX D cI cZ (kA K) ad) 0 0 0 S [(0, .ref (ad 0)), (1, .int a1), (2, .int a2), (3, .int a3)] [] := by
  have hok := mKf_ok D cI cZ (kA K)
  unfold f_X6_mayFile at hf
  refine g_iload_n 1 2 F dX6_mayFile_0 rfl rfl ?_
  refine g_aload_n 2 0 F dX6_mayFile_1 rfl rfl ?_
  refine m_get_1 5 F fl_X6_7 dX6_mayFile_2 rfl ?_
  refine g_iconst 6 (v := 0) F dX6_mayFile_5 (by decide) rfl ?_
  refine m_ldK_1 7 0 F (by decide) (by decide) dX6_mayFile_6 rfl ?_
  refine g_icmp_eq 26 10 F dX6_mayFile_7 rfl rfl hf (fun _ hf => ?_) (fun _ hf => ?_)
  · refine g_iload_n 27 3 F dX6_mayFile_26 rfl rfl ?_
    refine g_aload_n 28 0 F dX6_mayFile_27 rfl rfl ?_
    refine m_get_1 31 F fl_X6_7 dX6_mayFile_28 rfl ?_
    refine g_iconst 32 (v := 1) F dX6_mayFile_31 (by decide) rfl ?_
    refine m_ldK_1 33 1 F (by decide) (by decide) dX6_mayFile_32 rfl ?_
    refine g_icmp_le 64 36 F dX6_mayFile_33 rfl rfl hf (fun _ hf => ?_) (fun _ hf => ?_)
    · refine g_iconst 65 (v := 0) F dX6_mayFile_64 (by decide) rfl ?_
      obtain rfl := Option.some.inj hf
      exact hR _ _ dX6_mayFile_65
    · refine g_aload_n 37 0 F dX6_mayFile_36 rfl rfl ?_
      refine g_iload_n 38 1 F dX6_mayFile_37 rfl rfl ?_
      refine g_iload_n 39 2 F dX6_mayFile_38 rfl rfl ?_
      obtain ⟨q1, e2, hf⟩ := op_bd hf
      refine g_cVi 42 (st := []) F hok (c_X6_isFiled (kl K) D cI cZ ad (kA K) S a1 a2 q1 e2) wy_X6_isFiled ml_X6_53 (m_recv F) ⟨Nat.le_of_ble_eq_true rfl, Nat.le_of_ble_eq_true rfl⟩ rfl rfl (Nat.le_of_ble_eq_true rfl) ⟨Nat.zero_le _, Nat.zero_le _⟩ dX6_mayFile_39 rfl ?_
      refine g_ifeq_b 60 45 F dX6_mayFile_42 rfl rfl hf (fun _ hf => ?_) (fun _ hf => ?_)
      · refine g_iconst 61 (v := 1) F dX6_mayFile_60 (by decide) rfl ?_
        refine g_goto 65 F dX6_mayFile_61 rfl ?_
        obtain rfl := Option.some.inj hf
        exact hR _ _ dX6_mayFile_65
      · refine g_aload_n 46 0 F dX6_mayFile_45 rfl rfl ?_
        refine g_iload_n 47 1 F dX6_mayFile_46 rfl rfl ?_
        refine g_iload_n 48 2 F dX6_mayFile_47 rfl rfl ?_
        obtain ⟨q3, e4, hf⟩ := op_bd hf
        refine g_cVi 51 (st := []) F hok (c_X6_hourOf (kl K) D cI cZ ad (kA K) S a1 a2 q3 e4) wy_X6_hourOf ml_X6_63 (m_recv F) ⟨Nat.le_of_ble_eq_true rfl, Nat.le_of_ble_eq_true rfl⟩ rfl rfl (Nat.le_of_ble_eq_true rfl) ⟨Nat.zero_le _, Nat.zero_le _⟩ dX6_mayFile_48 rfl ?_
        refine g_aload_n 52 0 F dX6_mayFile_51 rfl rfl ?_
        refine m_get_1 55 F fl_X6_7 dX6_mayFile_52 rfl ?_
        refine g_iconst 56 (v := 1) F dX6_mayFile_55 (by decide) rfl ?_
        refine m_ldK_1 57 1 F (by decide) (by decide) dX6_mayFile_56 rfl ?_
        refine g_icmp_le 64 60 F dX6_mayFile_57 rfl rfl hf (fun _ hf => ?_) (fun _ hf => ?_)
        · refine g_iconst 65 (v := 0) F dX6_mayFile_64 (by decide) rfl ?_
          obtain rfl := Option.some.inj hf
          exact hR _ _ dX6_mayFile_65
        · refine g_iconst 61 (v := 1) F dX6_mayFile_60 (by decide) rfl ?_
          refine g_goto 65 F dX6_mayFile_61 rfl ?_
          obtain rfl := Option.some.inj hf
          exact hR _ _ dX6_mayFile_65
  · refine g_iload_n 11 2 F dX6_mayFile_10 rfl rfl ?_
    refine g_aload_n 12 0 F dX6_mayFile_11 rfl rfl ?_
    refine m_get_1 15 F fl_X6_7 dX6_mayFile_12 rfl ?_
    refine g_iconst 16 (v := 0) F dX6_mayFile_15 (by decide) rfl ?_
    refine m_ldK_1 17 0 F (by decide) (by decide) dX6_mayFile_16 rfl ?_
    refine g_icmp_le 24 20 F dX6_mayFile_17 rfl rfl hf (fun _ hf => ?_) (fun _ hf => ?_)
    · refine g_iconst 25 (v := 0) F dX6_mayFile_24 (by decide) rfl ?_
      obtain rfl := Option.some.inj hf
      exact hR _ _ dX6_mayFile_25
    · refine g_iconst 21 (v := 1) F dX6_mayFile_20 (by decide) rfl ?_
      refine g_goto 25 F dX6_mayFile_21 rfl ?_
      obtain rfl := Option.some.inj hf
      exact hR _ _ dX6_mayFile_25
theorem c_X6_mayFile (l : Launch) (D : va_G) (cI cZ : ClassId) (ad : Nat → Nat) (A : Nat → Prop) (S : MS) (a1 : Int32) (a2 : Int32) (a3 : Int32) (q : Bool) (hf : f_X6_mayFile S a1 a2 a3 = some q) : Ci l yX6_mayFile cX6_mayFile 4 (some .boolean) 3 65 (mX D cI cZ A ad) (mKf D cI cZ) A S [.ref (ad 0), .int a1, .int a2, .int a3] (bI q) S := by
  refine met_z (by decide +kernel) (Nat.le_of_ble_eq_true rfl) (fun K hl hA hn F hR => ?_)
  subst hl; subst hA
  exact w_X6_mayFile D cI cZ ad K F hn S a1 a2 a3 q hf hR
set_option maxHeartbeats 4000000 in
set_option maxRecDepth 100000 in
theorem w_X6_isLate (D : va_G) (cI cZ : ClassId) (ad : Nat → Nat) (K : Ctx) (F : Fx K cX6_isLate RX6 (mKf D cI cZ) 3 67) (hn : kn K = 3) (S : MS) (a1 : Int32) (q : MS) (hf : f_X6_isLate S a1 = some q) (hR : ∀ (pc : Nat) (lv : List (Nat × Value)), decode cX6_isLate pc = .ok (.return_, 1) → G K (mX D cI cZ (kA K) ad) 0 0 pc q lv []) : G K (mX D cI cZ (kA K) ad) 0 0 0 S [(0, .ref (ad 0)), (1, .int a1)] [] := by
  have hok := mKf_ok D cI cZ (kA K)
  have J_44 : ∀ (S : MS) (x1 : Int32), j_X6_isLate_44 S x1 = some q → G K (mX D cI cZ (kA K) ad) 0 0 44 S [(0, .ref (ad 0)), (1, .int x1)] [] := by
    intro S x1 hf
    unfold j_X6_isLate_44 at hf
    refine g_aload_n 45 0 F dX6_isLate_44 rfl rfl ?_
    refine m_get_1 48 F fl_X6_7 dX6_isLate_45 rfl ?_
    refine g_iload_n 49 1 F dX6_isLate_48 rfl rfl ?_
    refine g_iconst 50 (v := 5) F dX6_isLate_49 (by decide) rfl ?_
    refine g_cSi 53 (st := [.ref (ad 1)]) F hok (c_X6_cell (kl K) D cI cZ ad (kA K) S x1 5 _ rfl) ws_X6_cell ml_X6_46 ⟨Nat.le_of_ble_eq_true rfl, Nat.le_of_ble_eq_true rfl⟩ rfl rfl (Nat.le_of_ble_eq_true rfl) ⟨Nat.zero_le _, Nat.zero_le _⟩ dX6_isLate_50 rfl ?_
    refine g_dup2 54 F dX6_isLate_53 rfl rfl rfl ?_
    obtain ⟨h3, hf⟩ := op_ok hf
    refine m_ld_1 55 F h3 dX6_isLate_54 rfl ?_
    refine g_iconst 56 (v := 1) F dX6_isLate_55 (by decide) rfl ?_
    refine g_iadd 57 F dX6_isLate_56 rfl ?_
    obtain ⟨h4, hf⟩ := op_ok hf
    refine m_st_1 58 F h4 dX6_isLate_57 rfl ?_
    refine g_aload_n 59 0 F dX6_isLate_58 rfl rfl ?_
    refine g_iload_n 60 1 F dX6_isLate_59 rfl rfl ?_
    refine g_iconst 61 (v := 5) F dX6_isLate_60 (by decide) rfl ?_
    obtain ⟨q5, e6, hf⟩ := op_bd hf
    refine g_cVi 64 (st := []) F hok (c_X6_its (kl K) D cI cZ ad (kA K) (mA S 1 (f_X6_cell x1 5).toNatClampNeg ((S.2 1 (f_X6_cell x1 5).toNatClampNeg) + 1)) x1 5 q5 e6) wy_X6_its ml_X6_50 (m_recv F) ⟨Nat.le_of_ble_eq_true rfl, Nat.le_of_ble_eq_true rfl⟩ rfl rfl (Nat.le_of_ble_eq_true rfl) ⟨Nat.zero_le _, Nat.zero_le _⟩ dX6_isLate_61 rfl ?_
    refine g_aload_n 65 0 F dX6_isLate_64 rfl rfl ?_
    refine m_get_1 68 F fl_X6_7 dX6_isLate_65 rfl ?_
    refine g_bipush 70 (v := 7) F dX6_isLate_68 (by decide) rfl ?_
    refine m_ldK_1 71 7 F (by decide) (by decide) dX6_isLate_70 rfl ?_
    refine g_icmp_le 87 74 F dX6_isLate_71 rfl rfl hf (fun _ hf => ?_) (fun _ hf => ?_)
    · obtain rfl := Option.some.inj hf
      exact hR _ _ dX6_isLate_87
    · refine g_aload_n 75 0 F dX6_isLate_74 rfl rfl ?_
      refine g_iload_n 76 1 F dX6_isLate_75 rfl rfl ?_
      refine g_aload_n 77 0 F dX6_isLate_76 rfl rfl ?_
      refine m_get_1 80 F fl_X6_7 dX6_isLate_77 rfl ?_
      refine g_iconst 81 (v := 0) F dX6_isLate_80 (by decide) rfl ?_
      refine m_ldK_1 82 0 F (by decide) (by decide) dX6_isLate_81 rfl ?_
      refine g_iconst 83 (v := 1) F dX6_isLate_82 (by decide) rfl ?_
      obtain ⟨q7, e8, hf⟩ := op_bd hf
      refine g_cVi 86 (st := []) F hok (c_X6_fails (kl K) D cI cZ ad (kA K) (mA S 1 (f_X6_cell x1 5).toNatClampNeg ((S.2 1 (f_X6_cell x1 5).toNatClampNeg) + 1)) x1 ((mA S 1 (f_X6_cell x1 5).toNatClampNeg ((S.2 1 (f_X6_cell x1 5).toNatClampNeg) + 1)).2 1 0) 1 q7 e8) wy_X6_fails ml_X6_60 (m_recv F) ⟨Nat.le_of_ble_eq_true rfl, Nat.le_of_ble_eq_true rfl⟩ rfl rfl (Nat.le_of_ble_eq_true rfl) ⟨Nat.zero_le _, Nat.zero_le _⟩ dX6_isLate_83 rfl ?_
      refine g_pop 87 F dX6_isLate_86 rfl rfl ?_
      obtain rfl := Option.some.inj hf
      exact hR _ _ dX6_isLate_87
  unfold f_X6_isLate at hf
  refine g_aload_n 1 0 F dX6_isLate_0 rfl rfl ?_
  refine m_get_1 4 F fl_X6_7 dX6_isLate_1 rfl ?_
  refine g_iconst 5 (v := 0) F dX6_isLate_4 (by decide) rfl ?_
  refine m_ldK_1 6 0 F (by decide) (by decide) dX6_isLate_5 rfl ?_
  refine g_bipush 8 (v := 30) F dX6_isLate_6 (by decide) rfl ?_
  refine g_idiv 9 F dX6_isLate_8 (by decide) rfl ?_
  refine g_istore_n 10 [(2, .int ((S.2 1 0) / 30)), (0, .ref (ad 0)), (1, .int a1)] F dX6_isLate_9 (lt_kn hn (by decide)) rfl rfl ?_
  refine g_aload_n 11 1 F dX6_isLate_10 rfl rfl ?_
  refine g_iload_n 12 2 F dX6_isLate_11 rfl rfl ?_
  refine g_bipush 14 (v := 6) F dX6_isLate_12 (by decide) rfl ?_
  obtain ⟨q1, e2, hf⟩ := op_bd hf
  refine g_cVi 17 (st := []) F hok (c_X6_its (kl K) D cI cZ ad (kA K) S a1 6 q1 e2) wy_X6_its ml_X6_50 (m_recv F) ⟨Nat.le_of_ble_eq_true rfl, Nat.le_of_ble_eq_true rfl⟩ rfl rfl (Nat.le_of_ble_eq_true rfl) ⟨Nat.zero_le _, Nat.zero_le _⟩ dX6_isLate_14 rfl ?_
  refine g_iload_n 18 0 F dX6_isLate_17 rfl rfl ?_
  refine g_icmp_eq 44 21 F dX6_isLate_18 rfl rfl hf (fun _ hf => ?_) (fun _ hf => ?_)
  · exact G.lvs [1, 2] rfl (J_44 S a1 hf)
  · refine g_aload_n 22 1 F dX6_isLate_21 rfl rfl ?_
    refine m_get_1 25 F fl_X6_7 dX6_isLate_22 rfl ?_
    refine g_iload_n 26 2 F dX6_isLate_25 rfl rfl ?_
    refine g_bipush 28 (v := 6) F dX6_isLate_26 (by decide) rfl ?_
    refine g_cSi 31 (st := [.ref (ad 1)]) F hok (c_X6_cell (kl K) D cI cZ ad (kA K) S a1 6 _ rfl) ws_X6_cell ml_X6_46 ⟨Nat.le_of_ble_eq_true rfl, Nat.le_of_ble_eq_true rfl⟩ rfl rfl (Nat.le_of_ble_eq_true rfl) ⟨Nat.zero_le _, Nat.zero_le _⟩ dX6_isLate_28 rfl ?_
    refine g_iload_n 32 0 F dX6_isLate_31 rfl rfl ?_
    obtain ⟨h9, hf⟩ := op_ok hf
    refine m_st_1 33 F h9 dX6_isLate_32 rfl ?_
    refine g_aload_n 34 1 F dX6_isLate_33 rfl rfl ?_
    refine m_get_1 37 F fl_X6_7 dX6_isLate_34 rfl ?_
    refine g_iload_n 38 2 F dX6_isLate_37 rfl rfl ?_
    refine g_iconst 39 (v := 5) F dX6_isLate_38 (by decide) rfl ?_
    refine g_cSi 42 (st := [.ref (ad 1)]) F hok (c_X6_cell (kl K) D cI cZ ad (kA K) (mA S 1 (f_X6_cell a1 6).toNatClampNeg ((S.2 1 0) / 30)) a1 5 _ rfl) ws_X6_cell ml_X6_46 ⟨Nat.le_of_ble_eq_true rfl, Nat.le_of_ble_eq_true rfl⟩ rfl rfl (Nat.le_of_ble_eq_true rfl) ⟨Nat.zero_le _, Nat.zero_le _⟩ dX6_isLate_39 rfl ?_
    refine g_iconst 43 (v := 0) F dX6_isLate_42 (by decide) rfl ?_
    obtain ⟨h10, hf⟩ := op_ok hf
    refine m_st_1 44 F h10 dX6_isLate_43 rfl ?_
    exact G.lvs [1, 2] rfl (J_44 (mA (mA S 1 (f_X6_cell a1 6).toNatClampNeg ((S.2 1 0) / 30)) 1 (f_X6_cell a1 5).toNatClampNeg 0) a1 hf)
theorem c_X6_isLate (l : Launch) (D : va_G) (cI cZ : ClassId) (ad : Nat → Nat) (A : Nat → Prop) (S : MS) (a1 : Int32) (q : MS) (hf : f_X6_isLate S a1 = some q) : Cv l yX6_isLate cX6_isLate 3 none 3 67 (mX D cI cZ A ad) (mKf D cI cZ) A S [.ref (ad 0), .int a1] q := by
  refine met_v (by decide +kernel) (Nat.le_of_ble_eq_true rfl) (fun K hl hA hn F hR => ?_)
  subst hl; subst hA
  exact w_X6_isLate D cI cZ ad K F hn S a1 q hf hR
set_option maxHeartbeats 4000000 in
set_option maxRecDepth 100000 in
theorem w_X6_files (D : va_G) (cI cZ : ClassId) (ad : Nat → Nat) (K : Ctx) (F : Fx K cX6_files RX6 (mKf D cI cZ) 4 89) (hn : kn K = 11) (S : MS) (a1 : Int32) (a2 : Int32) (a3 : Int32) (a4 : Int32) (a5 : Int32) (q : Int32 × MS) (hf : f_X6_files S a1 a2 a3 a4 a5 = some q) (hR : ∀ (pc : Nat) (lv : List (Nat × Value)), decode cX6_files pc = .ok (.ireturn, 1) → G K (mX D cI cZ (kA K) ad) 0 0 pc q.2 lv [.int q.1]) : G K (mX D cI cZ (kA K) ad) 0 0 0 S [(0, .ref (ad 0)), (1, .int a1), (2, .int a2), (3, .int a3), (4, .int a4), (5, .int a5)] [] := by
  have hok := mKf_ok D cI cZ (kA K)
  have J_76 : ∀ (r18 : MS → Int32 → Int32 → Int32 → Int32 → Int32 → Int32 → Option (Int32 × MS)) (h18 : ∀ (S : MS) (x1 : Int32) (x3 : Int32) (x4 : Int32) (x6 : Int32) (x7 : Int32) (x8 : Int32), r18 S x1 x3 x4 x6 x7 x8 = some q → G K (mX D cI cZ (kA K) ad) 0 0 18 S [(0, .ref (ad 0)), (1, .int x1), (3, .int x3), (4, .int x4), (6, .int x6), (7, .int x7), (8, .int x8)] []) (S : MS) (x1 : Int32) (x3 : Int32) (x4 : Int32) (x6 : Int32) (x7 : Int32) (x8 : Int32) (t0 : Int32), j_X6_files_76 r18 S x1 x3 x4 x6 x7 x8 t0 = some q → G K (mX D cI cZ (kA K) ad) 0 0 76 S [(0, .ref (ad 0)), (1, .int x1), (3, .int x3), (4, .int x4), (6, .int x6), (7, .int x7), (8, .int x8)] [.int t0] := by
    intro r18 h18 S x1 x3 x4 x6 x7 x8 t0 hf
    unfold j_X6_files_76 at hf
    refine g_istore 78 [(10, .int t0), (0, .ref (ad 0)), (1, .int x1), (3, .int x3), (4, .int x4), (6, .int x6), (7, .int x7), (8, .int x8)] F dX6_files_76 (lt_kn hn (by decide)) rfl rfl ?_
    refine g_bipush 80 (v := 24) F dX6_files_78 (by decide) rfl ?_
    refine g_iload 82 7 F dX6_files_80 rfl rfl ?_
    refine g_aload_n 83 1 F dX6_files_82 rfl rfl ?_
    refine m_get_1 86 F fl_X6_7 dX6_files_83 rfl ?_
    refine g_iconst 87 (v := 0) F dX6_files_86 (by decide) rfl ?_
    refine m_ldK_1 88 0 F (by decide) (by decide) dX6_files_87 rfl ?_
    refine g_isub 89 F dX6_files_88 rfl ?_
    refine g_imul 90 F dX6_files_89 rfl ?_
    refine g_iload 92 0 F dX6_files_90 rfl rfl ?_
    refine g_iadd 93 F dX6_files_92 rfl ?_
    refine g_aload_n 94 1 F dX6_files_93 rfl rfl ?_
    refine m_get_1 97 F fl_X6_7 dX6_files_94 rfl ?_
    refine g_iconst 98 (v := 1) F dX6_files_97 (by decide) rfl ?_
    refine m_ldK_1 99 1 F (by decide) (by decide) dX6_files_98 rfl ?_
    refine g_isub 100 F dX6_files_99 rfl ?_
    refine g_aload_n 101 1 F dX6_files_100 rfl rfl ?_
    refine m_get_1 104 F fl_X6_7 dX6_files_101 rfl ?_
    refine g_bipush 106 (v := 6) F dX6_files_104 (by decide) rfl ?_
    refine m_ldK_1 107 6 F (by decide) (by decide) dX6_files_106 rfl ?_
    refine g_icmp_ge 115 110 F dX6_files_107 rfl rfl hf (fun _ hf => ?_) (fun _ hf => ?_)
    · refine g_aload_n 116 1 F dX6_files_115 rfl rfl ?_
      refine m_get_1 119 F fl_X6_7 dX6_files_116 rfl ?_
      refine g_iload_n 120 2 F dX6_files_119 rfl rfl ?_
      refine g_sipush 123 (v := 188) F dX6_files_120 (by decide) rfl ?_
      refine g_iload 125 7 F dX6_files_123 rfl rfl ?_
      refine g_iadd 126 F dX6_files_125 rfl ?_
      refine g_cSi 129 (st := [.ref (ad 1)]) F hok (c_X6_cell (kl K) D cI cZ ad (kA K) S x1 (188 + x8) _ rfl) ws_X6_cell ml_X6_46 ⟨Nat.le_of_ble_eq_true rfl, Nat.le_of_ble_eq_true rfl⟩ rfl rfl (Nat.le_of_ble_eq_true rfl) ⟨Nat.zero_le _, Nat.zero_le _⟩ dX6_files_126 rfl ?_
      refine g_iload 131 6 F dX6_files_129 rfl rfl ?_
      obtain ⟨h9, hf⟩ := op_ok hf
      refine m_st_1 132 F h9 dX6_files_131 rfl ?_
      refine g_iinc 135 7 (x8 + 1) [(8, .int (x8 + 1)), (10, .int t0), (0, .ref (ad 0)), (1, .int x1), (3, .int x3), (4, .int x4), (6, .int x6), (7, .int x7)] F dX6_files_132 rfl rfl (lt_kn hn (by decide)) rfl rfl ?_
      refine g_goto 18 F dX6_files_135 rfl ?_
      exact G.lvs [2, 3, 4, 5, 6, 7, 0] rfl (h18 (mA S 1 (f_X6_cell x1 (188 + x8)).toNatClampNeg x7) x1 x3 x4 x6 x7 (x8 + 1) hf)
    · refine g_aload_n 111 1 F dX6_files_110 rfl rfl ?_
      refine g_iload_n 112 2 F dX6_files_111 rfl rfl ?_
      obtain ⟨q10, e11, hf⟩ := op_bd hf
      refine g_cVv 115 (st := []) F hok (c_X6_isLate (kl K) D cI cZ ad (kA K) S x1 q10 e11) wy_X6_isLate ml_X6_66 (m_recv F) ⟨Nat.le_of_ble_eq_true rfl, Nat.le_of_ble_eq_true rfl⟩ rfl rfl (Nat.le_of_ble_eq_true rfl) ⟨Nat.zero_le _, Nat.zero_le _⟩ dX6_files_112 rfl ?_
      refine g_aload_n 116 1 F dX6_files_115 rfl rfl ?_
      refine m_get_1 119 F fl_X6_7 dX6_files_116 rfl ?_
      refine g_iload_n 120 2 F dX6_files_119 rfl rfl ?_
      refine g_sipush 123 (v := 188) F dX6_files_120 (by decide) rfl ?_
      refine g_iload 125 7 F dX6_files_123 rfl rfl ?_
      refine g_iadd 126 F dX6_files_125 rfl ?_
      refine g_cSi 129 (st := [.ref (ad 1)]) F hok (c_X6_cell (kl K) D cI cZ ad (kA K) q10 x1 (188 + x8) _ rfl) ws_X6_cell ml_X6_46 ⟨Nat.le_of_ble_eq_true rfl, Nat.le_of_ble_eq_true rfl⟩ rfl rfl (Nat.le_of_ble_eq_true rfl) ⟨Nat.zero_le _, Nat.zero_le _⟩ dX6_files_126 rfl ?_
      refine g_iload 131 6 F dX6_files_129 rfl rfl ?_
      obtain ⟨h12, hf⟩ := op_ok hf
      refine m_st_1 132 F h12 dX6_files_131 rfl ?_
      refine g_iinc 135 7 (x8 + 1) [(8, .int (x8 + 1)), (10, .int t0), (0, .ref (ad 0)), (1, .int x1), (3, .int x3), (4, .int x4), (6, .int x6), (7, .int x7)] F dX6_files_132 rfl rfl (lt_kn hn (by decide)) rfl rfl ?_
      refine g_goto 18 F dX6_files_135 rfl ?_
      exact G.lvs [2, 3, 4, 5, 6, 7, 0] rfl (h18 (mA q10 1 (f_X6_cell x1 (188 + x8)).toNatClampNeg x7) x1 x3 x4 x6 x7 (x8 + 1) hf)
  have L_18 : ∀ (n : Nat) (S : MS) (x1 : Int32) (x3 : Int32) (x4 : Int32) (x6 : Int32) (x7 : Int32) (x8 : Int32), l_X6_files_18 n S x1 x3 x4 x6 x7 x8 = some q → G K (mX D cI cZ (kA K) ad) 0 0 18 S [(0, .ref (ad 0)), (1, .int x1), (3, .int x3), (4, .int x4), (6, .int x6), (7, .int x7), (8, .int x8)] [] := by
    intro n
    induction n with
    | zero =>
      intro S x1 x3 x4 x6 x7 x8 hf
      rw [l_X6_files_18] at hf
      cases hf
    | succ n ih =>
      intro S x1 x3 x4 x6 x7 x8 hf
      rw [l_X6_files_18] at hf
      refine g_iload 20 6 F dX6_files_18 rfl rfl ?_
      refine g_iload_n 21 2 F dX6_files_20 rfl rfl ?_
      refine g_icmp_gt 138 24 F dX6_files_21 rfl rfl hf (fun _ hf => ?_) (fun _ hf => ?_)
      · refine g_iload 140 4 F dX6_files_138 rfl rfl ?_
        obtain rfl := Option.some.inj hf
        exact hR _ _ dX6_files_140
      · refine g_aload_n 25 0 F dX6_files_24 rfl rfl ?_
        refine g_iload_n 26 1 F dX6_files_25 rfl rfl ?_
        refine g_iload 28 6 F dX6_files_26 rfl rfl ?_
        obtain ⟨q1, e2, hf⟩ := op_bd hf
        refine g_cVi 31 (st := []) F hok (c_X6_isFiled (kl K) D cI cZ ad (kA K) S x1 x8 q1 e2) wy_X6_isFiled ml_X6_53 (m_recv F) ⟨Nat.le_of_ble_eq_true rfl, Nat.le_of_ble_eq_true rfl⟩ rfl rfl (Nat.le_of_ble_eq_true rfl) ⟨Nat.zero_le _, Nat.zero_le _⟩ dX6_files_28 rfl ?_
        refine g_ifeq_b 115 34 F dX6_files_31 rfl rfl hf (fun _ hf => ?_) (fun _ hf => ?_)
        · refine g_aload_n 116 0 F dX6_files_115 rfl rfl ?_
          refine m_get_1 119 F fl_X6_7 dX6_files_116 rfl ?_
          refine g_iload_n 120 1 F dX6_files_119 rfl rfl ?_
          refine g_sipush 123 (v := 188) F dX6_files_120 (by decide) rfl ?_
          refine g_iload 125 6 F dX6_files_123 rfl rfl ?_
          refine g_iadd 126 F dX6_files_125 rfl ?_
          refine g_cSi 129 (st := [.ref (ad 1)]) F hok (c_X6_cell (kl K) D cI cZ ad (kA K) S x1 (188 + x8) _ rfl) ws_X6_cell ml_X6_46 ⟨Nat.le_of_ble_eq_true rfl, Nat.le_of_ble_eq_true rfl⟩ rfl rfl (Nat.le_of_ble_eq_true rfl) ⟨Nat.zero_le _, Nat.zero_le _⟩ dX6_files_126 rfl ?_
          refine g_iload 131 5 F dX6_files_129 rfl rfl ?_
          obtain ⟨h3, hf⟩ := op_ok hf
          refine m_st_1 132 F h3 dX6_files_131 rfl ?_
          refine g_iinc 135 6 (x8 + 1) [(8, .int (x8 + 1)), (0, .ref (ad 0)), (1, .int x1), (3, .int x3), (4, .int x4), (6, .int x6), (7, .int x7)] F dX6_files_132 rfl rfl (lt_kn hn (by decide)) rfl rfl ?_
          refine g_goto 18 F dX6_files_135 rfl ?_
          exact G.lvs [1, 2, 3, 4, 5, 6, 0] rfl (ih (mA S 1 (f_X6_cell x1 (188 + x8)).toNatClampNeg x7) x1 x3 x4 x6 x7 (x8 + 1) hf)
        · refine g_aload_n 35 0 F dX6_files_34 rfl rfl ?_
          refine g_iload_n 36 1 F dX6_files_35 rfl rfl ?_
          refine g_sipush 39 (v := 188) F dX6_files_36 (by decide) rfl ?_
          refine g_iload 41 6 F dX6_files_39 rfl rfl ?_
          refine g_iadd 42 F dX6_files_41 rfl ?_
          obtain ⟨q4, e5, hf⟩ := op_bd hf
          refine g_cVi 45 (st := []) F hok (c_X6_its (kl K) D cI cZ ad (kA K) S x1 (188 + x8) q4 e5) wy_X6_its ml_X6_50 (m_recv F) ⟨Nat.le_of_ble_eq_true rfl, Nat.le_of_ble_eq_true rfl⟩ rfl rfl (Nat.le_of_ble_eq_true rfl) ⟨Nat.zero_le _, Nat.zero_le _⟩ dX6_files_42 rfl ?_
          refine g_iload 47 5 F dX6_files_45 rfl rfl ?_
          refine g_icmp_eq 115 50 F dX6_files_47 rfl rfl hf (fun _ hf => ?_) (fun _ hf => ?_)
          · refine g_aload_n 116 0 F dX6_files_115 rfl rfl ?_
            refine m_get_1 119 F fl_X6_7 dX6_files_116 rfl ?_
            refine g_iload_n 120 1 F dX6_files_119 rfl rfl ?_
            refine g_sipush 123 (v := 188) F dX6_files_120 (by decide) rfl ?_
            refine g_iload 125 6 F dX6_files_123 rfl rfl ?_
            refine g_iadd 126 F dX6_files_125 rfl ?_
            refine g_cSi 129 (st := [.ref (ad 1)]) F hok (c_X6_cell (kl K) D cI cZ ad (kA K) S x1 (188 + x8) _ rfl) ws_X6_cell ml_X6_46 ⟨Nat.le_of_ble_eq_true rfl, Nat.le_of_ble_eq_true rfl⟩ rfl rfl (Nat.le_of_ble_eq_true rfl) ⟨Nat.zero_le _, Nat.zero_le _⟩ dX6_files_126 rfl ?_
            refine g_iload 131 5 F dX6_files_129 rfl rfl ?_
            obtain ⟨h6, hf⟩ := op_ok hf
            refine m_st_1 132 F h6 dX6_files_131 rfl ?_
            refine g_iinc 135 6 (x8 + 1) [(8, .int (x8 + 1)), (0, .ref (ad 0)), (1, .int x1), (3, .int x3), (4, .int x4), (6, .int x6), (7, .int x7)] F dX6_files_132 rfl rfl (lt_kn hn (by decide)) rfl rfl ?_
            refine g_goto 18 F dX6_files_135 rfl ?_
            exact G.lvs [1, 2, 3, 4, 5, 6, 0] rfl (ih (mA S 1 (f_X6_cell x1 (188 + x8)).toNatClampNeg x7) x1 x3 x4 x6 x7 (x8 + 1) hf)
          · refine g_iinc 53 4 (x6 + 1) [(6, .int (x6 + 1)), (0, .ref (ad 0)), (1, .int x1), (3, .int x3), (4, .int x4), (7, .int x7), (8, .int x8)] F dX6_files_50 rfl rfl (lt_kn hn (by decide)) rfl rfl ?_
            refine g_aload_n 54 1 F dX6_files_53 rfl rfl ?_
            refine g_iload_n 55 2 F dX6_files_54 rfl rfl ?_
            refine g_iload 57 6 F dX6_files_55 rfl rfl ?_
            obtain ⟨q7, e8, hf⟩ := op_bd hf
            refine g_cVi 60 (st := []) F hok (c_X6_hourOf (kl K) D cI cZ ad (kA K) S x1 x8 q7 e8) wy_X6_hourOf ml_X6_63 (m_recv F) ⟨Nat.le_of_ble_eq_true rfl, Nat.le_of_ble_eq_true rfl⟩ rfl rfl (Nat.le_of_ble_eq_true rfl) ⟨Nat.zero_le _, Nat.zero_le _⟩ dX6_files_57 rfl ?_
            refine g_istore 62 [(9, .int q7), (6, .int (x6 + 1)), (0, .ref (ad 0)), (1, .int x1), (3, .int x3), (4, .int x4), (7, .int x7), (8, .int x8)] F dX6_files_60 (lt_kn hn (by decide)) rfl rfl ?_
            refine g_iload 64 0 F dX6_files_62 rfl rfl ?_
            refine g_iload 66 5 F dX6_files_64 rfl rfl ?_
            refine g_icmp_ge 74 69 F dX6_files_66 rfl rfl hf (fun _ hf => ?_) (fun _ hf => ?_)
            · refine g_iload 76 5 F dX6_files_74 rfl rfl ?_
              exact G.lvs [2, 3, 4, 5, 1, 6, 7] rfl (J_76 (l_X6_files_18 n) ih S x1 x3 x4 (x6 + 1) x7 x8 x4 hf)
            · refine g_iload 71 0 F dX6_files_69 rfl rfl ?_
              refine g_goto 76 F dX6_files_71 rfl ?_
              exact G.lvs [2, 3, 4, 5, 1, 6, 7] rfl (J_76 (l_X6_files_18 n) ih S x1 x3 x4 (x6 + 1) x7 x8 q7 hf)
  unfold f_X6_files at hf
  refine g_iconst 1 (v := 0) F dX6_files_0 (by decide) rfl ?_
  refine g_istore 3 [(6, .int 0), (0, .ref (ad 0)), (1, .int a1), (2, .int a2), (3, .int a3), (4, .int a4), (5, .int a5)] F dX6_files_1 (lt_kn hn (by decide)) rfl rfl ?_
  refine g_bipush 5 (v := 10) F dX6_files_3 (by decide) rfl ?_
  refine g_iload 7 5 F dX6_files_5 rfl rfl ?_
  refine g_imul 8 F dX6_files_7 rfl ?_
  refine g_iload 10 6 F dX6_files_8 rfl rfl ?_
  refine g_iadd 11 F dX6_files_10 rfl ?_
  refine g_iconst 12 (v := 1) F dX6_files_11 (by decide) rfl ?_
  refine g_iadd 13 F dX6_files_12 rfl ?_
  refine g_istore 15 [(7, .int (((10 * a4) + a5) + 1)), (6, .int 0), (0, .ref (ad 0)), (1, .int a1), (2, .int a2), (3, .int a3), (4, .int a4), (5, .int a5)] F dX6_files_13 (lt_kn hn (by decide)) rfl rfl ?_
  refine g_iload_n 16 4 F dX6_files_15 rfl rfl ?_
  refine g_istore 18 [(8, .int a2), (7, .int (((10 * a4) + a5) + 1)), (6, .int 0), (0, .ref (ad 0)), (1, .int a1), (2, .int a2), (3, .int a3), (4, .int a4), (5, .int a5)] F dX6_files_16 (lt_kn hn (by decide)) rfl rfl ?_
  exact G.lvs [3, 4, 6, 7, 2, 1, 0] rfl (L_18 fu S a1 a3 a4 0 (((10 * a4) + a5) + 1) a2 hf)
theorem c_X6_files (l : Launch) (D : va_G) (cI cZ : ClassId) (ad : Nat → Nat) (A : Nat → Prop) (S : MS) (a1 : Int32) (a2 : Int32) (a3 : Int32) (a4 : Int32) (a5 : Int32) (q : Int32 × MS) (hf : f_X6_files S a1 a2 a3 a4 a5 = some q) : Ci l yX6_files cX6_files 11 (some .int) 4 89 (mX D cI cZ A ad) (mKf D cI cZ) A S [.ref (ad 0), .int a1, .int a2, .int a3, .int a4, .int a5] q.1 q.2 := by
  refine met_i (by decide +kernel) (Nat.le_of_ble_eq_true rfl) (fun K hl hA hn F hR => ?_)
  subst hl; subst hA
  exact w_X6_files D cI cZ ad K F hn S a1 a2 a3 a4 a5 q hf hR
set_option maxHeartbeats 4000000 in
set_option maxRecDepth 100000 in
theorem w_X6_tests (D : va_G) (cI cZ : ClassId) (ad : Nat → Nat) (K : Ctx) (F : Fx K cX6_tests RX6 (mKf D cI cZ) 3 67) (hn : kn K = 5) (S : MS) (a1 : Int32) (a2 : Int32) (a3 : Bool) (q : Int32 × MS) (hf : f_X6_tests S a1 a2 a3 = some q) (hR : ∀ (pc : Nat) (lv : List (Nat × Value)), decode cX6_tests pc = .ok (.ireturn, 1) → G K (mX D cI cZ (kA K) ad) 0 0 pc q.2 lv [.int q.1]) : G K (mX D cI cZ (kA K) ad) 0 0 0 S [(0, .ref (ad 0)), (1, .int a1), (2, .int a2), (3, .int (bI a3))] [] := by
  have hok := mKf_ok D cI cZ (kA K)
  have J_54 : ∀ (S : MS) (x1 : Int32) (x3 : Bool) (t0 : Int32), j_X6_tests_54 S x1 x3 t0 = some q → G K (mX D cI cZ (kA K) ad) 0 0 54 S [(0, .ref (ad 0)), (1, .int x1), (3, .int (bI x3))] [.int t0] := by
    intro S x1 x3 t0 hf
    unfold j_X6_tests_54 at hf
    refine g_istore 56 [(4, .int t0), (0, .ref (ad 0)), (1, .int x1), (3, .int (bI x3))] F dX6_tests_54 (lt_kn hn (by decide)) rfl rfl ?_
    refine g_aload_n 57 1 F dX6_tests_56 rfl rfl ?_
    refine m_get_1 60 F fl_X6_7 dX6_tests_57 rfl ?_
    refine g_iload_n 61 2 F dX6_tests_60 rfl rfl ?_
    refine g_iconst 62 (v := 2) F dX6_tests_61 (by decide) rfl ?_
    refine g_cSi 65 (st := [.ref (ad 1)]) F hok (c_X6_cell (kl K) D cI cZ ad (kA K) S x1 2 _ rfl) ws_X6_cell ml_X6_46 ⟨Nat.le_of_ble_eq_true rfl, Nat.le_of_ble_eq_true rfl⟩ rfl rfl (Nat.le_of_ble_eq_true rfl) ⟨Nat.zero_le _, Nat.zero_le _⟩ dX6_tests_62 rfl ?_
    refine g_dup2 66 F dX6_tests_65 rfl rfl rfl ?_
    obtain ⟨h3, hf⟩ := op_ok hf
    refine m_ld_1 67 F h3 dX6_tests_66 rfl ?_
    refine g_iconst 68 (v := 1) F dX6_tests_67 (by decide) rfl ?_
    refine g_iadd 69 F dX6_tests_68 rfl ?_
    obtain ⟨h4, hf⟩ := op_ok hf
    refine m_st_1 70 F h4 dX6_tests_69 rfl ?_
    refine g_aload_n 71 1 F dX6_tests_70 rfl rfl ?_
    refine m_get_1 74 F fl_X6_7 dX6_tests_71 rfl ?_
    refine g_iload_n 75 2 F dX6_tests_74 rfl rfl ?_
    refine g_iconst 76 (v := 4) F dX6_tests_75 (by decide) rfl ?_
    refine g_cSi 79 (st := [.ref (ad 1)]) F hok (c_X6_cell (kl K) D cI cZ ad (kA K) (mA S 1 (f_X6_cell x1 2).toNatClampNeg ((S.2 1 (f_X6_cell x1 2).toNatClampNeg) + 1)) x1 4 _ rfl) ws_X6_cell ml_X6_46 ⟨Nat.le_of_ble_eq_true rfl, Nat.le_of_ble_eq_true rfl⟩ rfl rfl (Nat.le_of_ble_eq_true rfl) ⟨Nat.zero_le _, Nat.zero_le _⟩ dX6_tests_76 rfl ?_
    refine g_aload_n 80 1 F dX6_tests_79 rfl rfl ?_
    refine m_get_1 83 F fl_X6_7 dX6_tests_80 rfl ?_
    refine g_iconst 84 (v := 0) F dX6_tests_83 (by decide) rfl ?_
    refine m_ldK_1 85 0 F (by decide) (by decide) dX6_tests_84 rfl ?_
    obtain ⟨h5, hf⟩ := op_ok hf
    refine m_st_1 86 F h5 dX6_tests_85 rfl ?_
    refine g_iload_n 87 3 F dX6_tests_86 rfl rfl ?_
    refine g_ifeq_b 92 90 F dX6_tests_87 rfl rfl hf (fun _ hf => ?_) (fun _ hf => ?_)
    · refine g_iload 94 0 F dX6_tests_92 rfl rfl ?_
      refine g_if_ne 99 97 F dX6_tests_94 rfl rfl hf (fun _ hf => ?_) (fun _ hf => ?_)
      · refine g_aload_n 100 1 F dX6_tests_99 rfl rfl ?_
        refine m_get_1 103 F fl_X6_7 dX6_tests_100 rfl ?_
        refine g_iload_n 104 2 F dX6_tests_103 rfl rfl ?_
        refine g_iconst 105 (v := 3) F dX6_tests_104 (by decide) rfl ?_
        refine g_cSi 108 (st := [.ref (ad 1)]) F hok (c_X6_cell (kl K) D cI cZ ad (kA K) (mA (mA S 1 (f_X6_cell x1 2).toNatClampNeg ((S.2 1 (f_X6_cell x1 2).toNatClampNeg) + 1)) 1 (f_X6_cell x1 4).toNatClampNeg ((mA S 1 (f_X6_cell x1 2).toNatClampNeg ((S.2 1 (f_X6_cell x1 2).toNatClampNeg) + 1)).2 1 0)) x1 3 _ rfl) ws_X6_cell ml_X6_46 ⟨Nat.le_of_ble_eq_true rfl, Nat.le_of_ble_eq_true rfl⟩ rfl rfl (Nat.le_of_ble_eq_true rfl) ⟨Nat.zero_le _, Nat.zero_le _⟩ dX6_tests_105 rfl ?_
        refine g_dup2 109 F dX6_tests_108 rfl rfl rfl ?_
        obtain ⟨h6, hf⟩ := op_ok hf
        refine m_ld_1 110 F h6 dX6_tests_109 rfl ?_
        refine g_iconst 111 (v := 1) F dX6_tests_110 (by decide) rfl ?_
        refine g_iadd 112 F dX6_tests_111 rfl ?_
        obtain ⟨h7, hf⟩ := op_ok hf
        refine m_st_1 113 F h7 dX6_tests_112 rfl ?_
        refine g_aload_n 114 1 F dX6_tests_113 rfl rfl ?_
        refine g_iload_n 115 2 F dX6_tests_114 rfl rfl ?_
        refine g_aload_n 116 1 F dX6_tests_115 rfl rfl ?_
        refine m_get_1 119 F fl_X6_7 dX6_tests_116 rfl ?_
        refine g_iconst 120 (v := 0) F dX6_tests_119 (by decide) rfl ?_
        refine m_ldK_1 121 0 F (by decide) (by decide) dX6_tests_120 rfl ?_
        refine g_iconst 122 (v := 2) F dX6_tests_121 (by decide) rfl ?_
        obtain ⟨q8, e9, hf⟩ := op_bd hf
        refine g_cVi 125 (st := []) F hok (c_X6_fails (kl K) D cI cZ ad (kA K) (mA (mA (mA S 1 (f_X6_cell x1 2).toNatClampNeg ((S.2 1 (f_X6_cell x1 2).toNatClampNeg) + 1)) 1 (f_X6_cell x1 4).toNatClampNeg ((mA S 1 (f_X6_cell x1 2).toNatClampNeg ((S.2 1 (f_X6_cell x1 2).toNatClampNeg) + 1)).2 1 0)) 1 (f_X6_cell x1 3).toNatClampNeg (((mA (mA S 1 (f_X6_cell x1 2).toNatClampNeg ((S.2 1 (f_X6_cell x1 2).toNatClampNeg) + 1)) 1 (f_X6_cell x1 4).toNatClampNeg ((mA S 1 (f_X6_cell x1 2).toNatClampNeg ((S.2 1 (f_X6_cell x1 2).toNatClampNeg) + 1)).2 1 0)).2 1 (f_X6_cell x1 3).toNatClampNeg) + 1)) x1 ((mA (mA (mA S 1 (f_X6_cell x1 2).toNatClampNeg ((S.2 1 (f_X6_cell x1 2).toNatClampNeg) + 1)) 1 (f_X6_cell x1 4).toNatClampNeg ((mA S 1 (f_X6_cell x1 2).toNatClampNeg ((S.2 1 (f_X6_cell x1 2).toNatClampNeg) + 1)).2 1 0)) 1 (f_X6_cell x1 3).toNatClampNeg (((mA (mA S 1 (f_X6_cell x1 2).toNatClampNeg ((S.2 1 (f_X6_cell x1 2).toNatClampNeg) + 1)) 1 (f_X6_cell x1 4).toNatClampNeg ((mA S 1 (f_X6_cell x1 2).toNatClampNeg ((S.2 1 (f_X6_cell x1 2).toNatClampNeg) + 1)).2 1 0)).2 1 (f_X6_cell x1 3).toNatClampNeg) + 1)).2 1 0) 2 q8 e9) wy_X6_fails ml_X6_60 (m_recv F) ⟨Nat.le_of_ble_eq_true rfl, Nat.le_of_ble_eq_true rfl⟩ rfl rfl (Nat.le_of_ble_eq_true rfl) ⟨Nat.zero_le _, Nat.zero_le _⟩ dX6_tests_122 rfl ?_
        refine g_pop 126 F dX6_tests_125 rfl rfl ?_
        refine g_iconst 127 (v := 1) F dX6_tests_126 (by decide) rfl ?_
        obtain rfl := Option.some.inj hf
        exact hR _ _ dX6_tests_127
      · refine g_iconst 98 (v := 2) F dX6_tests_97 (by decide) rfl ?_
        obtain rfl := Option.some.inj hf
        exact hR _ _ dX6_tests_98
    · refine g_iconst 91 (v := 0) F dX6_tests_90 (by decide) rfl ?_
      obtain rfl := Option.some.inj hf
      exact hR _ _ dX6_tests_91
  unfold f_X6_tests at hf
  refine g_aload_n 1 0 F dX6_tests_0 rfl rfl ?_
  refine g_iload_n 2 1 F dX6_tests_1 rfl rfl ?_
  refine g_aload_n 3 0 F dX6_tests_2 rfl rfl ?_
  refine m_get_1 6 F fl_X6_7 dX6_tests_3 rfl ?_
  refine g_iconst 7 (v := 0) F dX6_tests_6 (by decide) rfl ?_
  refine m_ldK_1 8 0 F (by decide) (by decide) dX6_tests_7 rfl ?_
  obtain ⟨q1, e2, hf⟩ := op_bd hf
  refine g_cVi 11 (st := []) F hok (c_X6_isFiled (kl K) D cI cZ ad (kA K) S a1 (S.2 1 0) q1 e2) wy_X6_isFiled ml_X6_53 (m_recv F) ⟨Nat.le_of_ble_eq_true rfl, Nat.le_of_ble_eq_true rfl⟩ rfl rfl (Nat.le_of_ble_eq_true rfl) ⟨Nat.zero_le _, Nat.zero_le _⟩ dX6_tests_8 rfl ?_
  refine g_ifeq_b 53 14 F dX6_tests_11 rfl rfl hf (fun _ hf => ?_) (fun _ hf => ?_)
  · refine g_iconst 54 (v := 0) F dX6_tests_53 (by decide) rfl ?_
    exact G.lvs [0, 1, 3] rfl (J_54 S a1 a3 0 hf)
  · refine g_aload_n 15 0 F dX6_tests_14 rfl rfl ?_
    refine g_iload_n 16 1 F dX6_tests_15 rfl rfl ?_
    refine g_aload_n 17 0 F dX6_tests_16 rfl rfl ?_
    refine m_get_1 20 F fl_X6_7 dX6_tests_17 rfl ?_
    refine g_iconst 21 (v := 0) F dX6_tests_20 (by decide) rfl ?_
    refine m_ldK_1 22 0 F (by decide) (by decide) dX6_tests_21 rfl ?_
    obtain ⟨q10, e11, hf⟩ := op_bd hf
    refine g_cVi 25 (st := []) F hok (c_X6_placeOf (kl K) D cI cZ ad (kA K) S a1 (S.2 1 0) q10 e11) wy_X6_placeOf ml_X6_70 (m_recv F) ⟨Nat.le_of_ble_eq_true rfl, Nat.le_of_ble_eq_true rfl⟩ rfl rfl (Nat.le_of_ble_eq_true rfl) ⟨Nat.zero_le _, Nat.zero_le _⟩ dX6_tests_22 rfl ?_
    refine g_iload_n 26 2 F dX6_tests_25 rfl rfl ?_
    refine g_icmp_ne 53 29 F dX6_tests_26 rfl rfl hf (fun _ hf => ?_) (fun _ hf => ?_)
    · refine g_iconst 54 (v := 0) F dX6_tests_53 (by decide) rfl ?_
      exact G.lvs [0, 1, 3] rfl (J_54 S a1 a3 0 hf)
    · refine g_aload_n 30 0 F dX6_tests_29 rfl rfl ?_
      refine g_iload_n 31 1 F dX6_tests_30 rfl rfl ?_
      refine g_aload_n 32 0 F dX6_tests_31 rfl rfl ?_
      refine m_get_1 35 F fl_X6_7 dX6_tests_32 rfl ?_
      refine g_iconst 36 (v := 0) F dX6_tests_35 (by decide) rfl ?_
      refine m_ldK_1 37 0 F (by decide) (by decide) dX6_tests_36 rfl ?_
      obtain ⟨q12, e13, hf⟩ := op_bd hf
      refine g_cVi 40 (st := []) F hok (c_X6_hourOf (kl K) D cI cZ ad (kA K) S a1 (S.2 1 0) q12 e13) wy_X6_hourOf ml_X6_63 (m_recv F) ⟨Nat.le_of_ble_eq_true rfl, Nat.le_of_ble_eq_true rfl⟩ rfl rfl (Nat.le_of_ble_eq_true rfl) ⟨Nat.zero_le _, Nat.zero_le _⟩ dX6_tests_37 rfl ?_
      refine g_aload_n 41 0 F dX6_tests_40 rfl rfl ?_
      refine m_get_1 44 F fl_X6_7 dX6_tests_41 rfl ?_
      refine g_iconst 45 (v := 1) F dX6_tests_44 (by decide) rfl ?_
      refine m_ldK_1 46 1 F (by decide) (by decide) dX6_tests_45 rfl ?_
      refine g_icmp_ne 53 49 F dX6_tests_46 rfl rfl hf (fun _ hf => ?_) (fun _ hf => ?_)
      · refine g_iconst 54 (v := 0) F dX6_tests_53 (by decide) rfl ?_
        exact G.lvs [0, 1, 3] rfl (J_54 S a1 a3 0 hf)
      · refine g_iconst 50 (v := 1) F dX6_tests_49 (by decide) rfl ?_
        refine g_goto 54 F dX6_tests_50 rfl ?_
        exact G.lvs [0, 1, 3] rfl (J_54 S a1 a3 1 hf)
theorem c_X6_tests (l : Launch) (D : va_G) (cI cZ : ClassId) (ad : Nat → Nat) (A : Nat → Prop) (S : MS) (a1 : Int32) (a2 : Int32) (a3 : Bool) (q : Int32 × MS) (hf : f_X6_tests S a1 a2 a3 = some q) : Ci l yX6_tests cX6_tests 5 (some .int) 3 67 (mX D cI cZ A ad) (mKf D cI cZ) A S [.ref (ad 0), .int a1, .int a2, .int (bI a3)] q.1 q.2 := by
  refine met_i (by decide +kernel) (Nat.le_of_ble_eq_true rfl) (fun K hl hA hn F hR => ?_)
  subst hl; subst hA
  exact w_X6_tests D cI cZ ad K F hn S a1 a2 a3 q hf hR
set_option maxHeartbeats 4000000 in
set_option maxRecDepth 100000 in
theorem w_X6_isFailure (D : va_G) (cI cZ : ClassId) (ad : Nat → Nat) (K : Ctx) (F : Fx K cX6_isFailure RX6 (mKf D cI cZ) 2 43) (hn : kn K = 3) (S : MS) (a1 : Int32) (a2 : Int32) (q : Bool) (hf : f_X6_isFailure S a1 a2 = some q) (hR : ∀ (pc : Nat) (lv : List (Nat × Value)), decode cX6_isFailure pc = .ok (.ireturn, 1) → G K (mX D cI cZ (kA K) ad) 0 0 pc S lv [.int (bI q)]) : G K (mX D cI cZ (kA K) ad) 0 0 0 S [(0, .ref (ad 0)), (1, .int a1), (2, .int a2)] [] := by
  have hok := mKf_ok D cI cZ (kA K)
  unfold f_X6_isFailure at hf
  refine g_aload_n 1 0 F dX6_isFailure_0 rfl rfl ?_
  refine g_iload_n 2 1 F dX6_isFailure_1 rfl rfl ?_
  refine g_cVi 5 (st := []) F hok (c_X6_isAthlete (kl K) D cI cZ ad (kA K) S a1 _ rfl) wy_X6_isAthlete ml_X6_73 (m_recv F) ⟨Nat.le_of_ble_eq_true rfl, Nat.le_of_ble_eq_true rfl⟩ rfl rfl (Nat.le_of_ble_eq_true rfl) ⟨Nat.zero_le _, Nat.zero_le _⟩ dX6_isFailure_2 rfl ?_
  refine g_ifeq_b 29 8 F dX6_isFailure_5 rfl rfl hf (fun _ hf => ?_) (fun _ hf => ?_)
  · refine g_iconst 30 (v := 0) F dX6_isFailure_29 (by decide) rfl ?_
    obtain rfl := Option.some.inj hf
    exact hR _ _ dX6_isFailure_30
  · refine g_iload_n 9 2 F dX6_isFailure_8 rfl rfl ?_
    refine g_iconst 10 (v := 0) F dX6_isFailure_9 (by decide) rfl ?_
    refine g_aload_n 11 0 F dX6_isFailure_10 rfl rfl ?_
    refine g_iload_n 12 1 F dX6_isFailure_11 rfl rfl ?_
    refine g_bipush 14 (v := 7) F dX6_isFailure_12 (by decide) rfl ?_
    obtain ⟨q1, e2, hf⟩ := op_bd hf
    refine g_cVi 17 (st := [.int 0, .int a2]) F hok (c_X6_its (kl K) D cI cZ ad (kA K) S a1 7 q1 e2) wy_X6_its ml_X6_50 (m_recv F) ⟨Nat.le_of_ble_eq_true rfl, Nat.le_of_ble_eq_true rfl⟩ rfl rfl (Nat.le_of_ble_eq_true rfl) ⟨Nat.zero_le _, Nat.zero_le _⟩ dX6_isFailure_14 rfl ?_
    refine g_iconst 18 (v := 1) F dX6_isFailure_17 (by decide) rfl ?_
    refine g_isub 19 F dX6_isFailure_18 rfl ?_
    refine g_cSi 22 (st := []) F hok (c_X6_in (kl K) D cI cZ ad (kA K) S a2 0 (q1 - 1) _ rfl) ws_X6_in ml_X6_42 ⟨Nat.le_of_ble_eq_true rfl, Nat.le_of_ble_eq_true rfl⟩ rfl rfl (Nat.le_of_ble_eq_true rfl) ⟨Nat.zero_le _, Nat.zero_le _⟩ dX6_isFailure_19 rfl ?_
    refine g_ifeq_b 29 25 F dX6_isFailure_22 rfl rfl hf (fun _ hf => ?_) (fun _ hf => ?_)
    · refine g_iconst 30 (v := 0) F dX6_isFailure_29 (by decide) rfl ?_
      obtain rfl := Option.some.inj hf
      exact hR _ _ dX6_isFailure_30
    · refine g_iconst 26 (v := 1) F dX6_isFailure_25 (by decide) rfl ?_
      refine g_goto 30 F dX6_isFailure_26 rfl ?_
      obtain rfl := Option.some.inj hf
      exact hR _ _ dX6_isFailure_30
theorem c_X6_isFailure (l : Launch) (D : va_G) (cI cZ : ClassId) (ad : Nat → Nat) (A : Nat → Prop) (S : MS) (a1 : Int32) (a2 : Int32) (q : Bool) (hf : f_X6_isFailure S a1 a2 = some q) : Ci l yX6_isFailure cX6_isFailure 3 (some .boolean) 2 43 (mX D cI cZ A ad) (mKf D cI cZ) A S [.ref (ad 0), .int a1, .int a2] (bI q) S := by
  refine met_z (by decide +kernel) (Nat.le_of_ble_eq_true rfl) (fun K hl hA hn F hR => ?_)
  subst hl; subst hA
  exact w_X6_isFailure D cI cZ ad K F hn S a1 a2 q hf hR
set_option maxHeartbeats 4000000 in
set_option maxRecDepth 100000 in
theorem w_X6_strikes (D : va_G) (cI cZ : ClassId) (ad : Nat → Nat) (K : Ctx) (F : Fx K cX6_strikes RX6 (mKf D cI cZ) 1 21) (hn : kn K = 3) (S : MS) (a1 : Int32) (a2 : Int32) (q : Bool × MS) (hf : f_X6_strikes S a1 a2 = some q) (hR : ∀ (pc : Nat) (lv : List (Nat × Value)), decode cX6_strikes pc = .ok (.ireturn, 1) → G K (mX D cI cZ (kA K) ad) 0 0 pc q.2 lv [.int (bI q.1)]) : G K (mX D cI cZ (kA K) ad) 0 0 0 S [(0, .ref (ad 0)), (1, .int a1), (2, .int a2)] [] := by
  have hok := mKf_ok D cI cZ (kA K)
  unfold f_X6_strikes at hf
  refine g_aload_n 1 0 F dX6_strikes_0 rfl rfl ?_
  refine m_get_1 4 F fl_X6_7 dX6_strikes_1 rfl ?_
  refine g_iload_n 5 1 F dX6_strikes_4 rfl rfl ?_
  refine g_bipush 7 (v := 8) F dX6_strikes_5 (by decide) rfl ?_
  refine g_iconst 8 (v := 3) F dX6_strikes_7 (by decide) rfl ?_
  refine g_iload_n 9 2 F dX6_strikes_8 rfl rfl ?_
  refine g_imul 10 F dX6_strikes_9 rfl ?_
  refine g_iadd 11 F dX6_strikes_10 rfl ?_
  refine g_iconst 12 (v := 2) F dX6_strikes_11 (by decide) rfl ?_
  refine g_iadd 13 F dX6_strikes_12 rfl ?_
  refine g_cSi 16 (st := [.ref (ad 1)]) F hok (c_X6_cell (kl K) D cI cZ ad (kA K) S a1 ((8 + (3 * a2)) + 2) _ rfl) ws_X6_cell ml_X6_46 ⟨Nat.le_of_ble_eq_true rfl, Nat.le_of_ble_eq_true rfl⟩ rfl rfl (Nat.le_of_ble_eq_true rfl) ⟨Nat.zero_le _, Nat.zero_le _⟩ dX6_strikes_13 rfl ?_
  obtain ⟨h1, hf⟩ := op_ok hf
  refine m_ld_1 17 F h1 dX6_strikes_16 rfl ?_
  refine g_iconst 18 (v := 1) F dX6_strikes_17 (by decide) rfl ?_
  refine g_icmp_eq 53 21 F dX6_strikes_18 rfl rfl hf (fun _ hf => ?_) (fun _ hf => ?_)
  · refine g_iconst 54 (v := 0) F dX6_strikes_53 (by decide) rfl ?_
    obtain rfl := Option.some.inj hf
    exact hR _ _ dX6_strikes_54
  · refine g_aload_n 22 0 F dX6_strikes_21 rfl rfl ?_
    refine m_get_1 25 F fl_X6_7 dX6_strikes_22 rfl ?_
    refine g_iconst 26 (v := 0) F dX6_strikes_25 (by decide) rfl ?_
    refine m_ldK_1 27 0 F (by decide) (by decide) dX6_strikes_26 rfl ?_
    refine g_aload_n 28 0 F dX6_strikes_27 rfl rfl ?_
    refine m_get_1 31 F fl_X6_7 dX6_strikes_28 rfl ?_
    refine g_iload_n 32 1 F dX6_strikes_31 rfl rfl ?_
    refine g_bipush 34 (v := 8) F dX6_strikes_32 (by decide) rfl ?_
    refine g_iconst 35 (v := 3) F dX6_strikes_34 (by decide) rfl ?_
    refine g_iload_n 36 2 F dX6_strikes_35 rfl rfl ?_
    refine g_imul 37 F dX6_strikes_36 rfl ?_
    refine g_iadd 38 F dX6_strikes_37 rfl ?_
    refine g_cSi 41 (st := [.ref (ad 1), .int (S.2 1 0)]) F hok (c_X6_cell (kl K) D cI cZ ad (kA K) S a1 (8 + (3 * a2)) _ rfl) ws_X6_cell ml_X6_46 ⟨Nat.le_of_ble_eq_true rfl, Nat.le_of_ble_eq_true rfl⟩ rfl rfl (Nat.le_of_ble_eq_true rfl) ⟨Nat.zero_le _, Nat.zero_le _⟩ dX6_strikes_38 rfl ?_
    obtain ⟨h2, hf⟩ := op_ok hf
    refine m_ld_1 42 F h2 dX6_strikes_41 rfl ?_
    refine g_aload_n 43 0 F dX6_strikes_42 rfl rfl ?_
    refine m_get_1 46 F fl_X6_7 dX6_strikes_43 rfl ?_
    refine g_bipush 48 (v := 8) F dX6_strikes_46 (by decide) rfl ?_
    refine m_ldK_1 49 8 F (by decide) (by decide) dX6_strikes_48 rfl ?_
    refine g_iadd 50 F dX6_strikes_49 rfl ?_
    refine g_icmp_le 55 53 F dX6_strikes_50 rfl rfl hf (fun _ hf => ?_) (fun _ hf => ?_)
    · refine g_aload_n 56 0 F dX6_strikes_55 rfl rfl ?_
      refine m_get_1 59 F fl_X6_7 dX6_strikes_56 rfl ?_
      refine g_iload_n 60 1 F dX6_strikes_59 rfl rfl ?_
      refine g_bipush 62 (v := 8) F dX6_strikes_60 (by decide) rfl ?_
      refine g_iconst 63 (v := 3) F dX6_strikes_62 (by decide) rfl ?_
      refine g_iload_n 64 2 F dX6_strikes_63 rfl rfl ?_
      refine g_imul 65 F dX6_strikes_64 rfl ?_
      refine g_iadd 66 F dX6_strikes_65 rfl ?_
      refine g_iconst 67 (v := 2) F dX6_strikes_66 (by decide) rfl ?_
      refine g_iadd 68 F dX6_strikes_67 rfl ?_
      refine g_cSi 71 (st := [.ref (ad 1)]) F hok (c_X6_cell (kl K) D cI cZ ad (kA K) S a1 ((8 + (3 * a2)) + 2) _ rfl) ws_X6_cell ml_X6_46 ⟨Nat.le_of_ble_eq_true rfl, Nat.le_of_ble_eq_true rfl⟩ rfl rfl (Nat.le_of_ble_eq_true rfl) ⟨Nat.zero_le _, Nat.zero_le _⟩ dX6_strikes_68 rfl ?_
      refine g_iconst 72 (v := 1) F dX6_strikes_71 (by decide) rfl ?_
      obtain ⟨h3, hf⟩ := op_ok hf
      refine m_st_1 73 F h3 dX6_strikes_72 rfl ?_
      refine g_iconst 74 (v := 1) F dX6_strikes_73 (by decide) rfl ?_
      obtain rfl := Option.some.inj hf
      exact hR _ _ dX6_strikes_74
    · refine g_iconst 54 (v := 0) F dX6_strikes_53 (by decide) rfl ?_
      obtain rfl := Option.some.inj hf
      exact hR _ _ dX6_strikes_54
theorem c_X6_strikes (l : Launch) (D : va_G) (cI cZ : ClassId) (ad : Nat → Nat) (A : Nat → Prop) (S : MS) (a1 : Int32) (a2 : Int32) (q : Bool × MS) (hf : f_X6_strikes S a1 a2 = some q) : Ci l yX6_strikes cX6_strikes 3 (some .boolean) 1 21 (mX D cI cZ A ad) (mKf D cI cZ) A S [.ref (ad 0), .int a1, .int a2] (bI q.1) q.2 := by
  refine met_z (by decide +kernel) (Nat.le_of_ble_eq_true rfl) (fun K hl hA hn F hR => ?_)
  subst hl; subst hA
  exact w_X6_strikes D cI cZ ad K F hn S a1 a2 q hf hR
set_option maxHeartbeats 4000000 in
set_option maxRecDepth 100000 in
theorem w_X6_athlete (D : va_G) (cI cZ : ClassId) (ad : Nat → Nat) (K : Ctx) (F : Fx K cX6_athlete RX6 (mKf D cI cZ) 2 44) (hn : kn K = 2) (S : MS) (a1 : Int32) (q : Int32 × MS) (hf : f_X6_athlete S a1 = some q) (hR : ∀ (pc : Nat) (lv : List (Nat × Value)), decode cX6_athlete pc = .ok (.ireturn, 1) → G K (mX D cI cZ (kA K) ad) 0 0 pc q.2 lv [.int q.1]) : G K (mX D cI cZ (kA K) ad) 0 0 0 S [(0, .ref (ad 0)), (1, .int a1)] [] := by
  have hok := mKf_ok D cI cZ (kA K)
  unfold f_X6_athlete at hf
  refine g_aload_n 1 0 F dX6_athlete_0 rfl rfl ?_
  refine g_iconst 2 (v := 0) F dX6_athlete_1 (by decide) rfl ?_
  refine m_put_0 5 F fl_X6_38 dX6_athlete_2 rfl ?_
  refine g_iload_n 6 1 F dX6_athlete_5 rfl rfl ?_
  refine g_iconst 7 (v := 1) F dX6_athlete_6 (by decide) rfl ?_
  refine g_bipush 9 (v := 9) F dX6_athlete_7 (by decide) rfl ?_
  refine g_cSi 12 (st := []) F hok (c_X6_in (kl K) D cI cZ ad (kA K) (mS S 0 0) a1 1 9 _ rfl) ws_X6_in ml_X6_42 ⟨Nat.le_of_ble_eq_true rfl, Nat.le_of_ble_eq_true rfl⟩ rfl rfl (Nat.le_of_ble_eq_true rfl) ⟨Nat.zero_le _, Nat.zero_le _⟩ dX6_athlete_9 rfl ?_
  refine g_ifne_b 19 15 F dX6_athlete_12 rfl rfl hf (fun _ hf => ?_) (fun _ hf => ?_)
  · refine g_aload_n 20 0 F dX6_athlete_19 rfl rfl ?_
    refine m_get_1 23 F fl_X6_7 dX6_athlete_20 rfl ?_
    refine g_iconst 24 (v := 2) F dX6_athlete_23 (by decide) rfl ?_
    refine m_ldK_1 25 2 F (by decide) (by decide) dX6_athlete_24 rfl ?_
    refine g_bipush 27 (v := 6) F dX6_athlete_25 (by decide) rfl ?_
    refine g_icmp_ne 35 30 F dX6_athlete_27 rfl rfl hf (fun _ hf => ?_) (fun _ hf => ?_)
    · refine g_aload_n 36 0 F dX6_athlete_35 rfl rfl ?_
      refine g_iload_n 37 1 F dX6_athlete_36 rfl rfl ?_
      obtain ⟨q1, e2, hf⟩ := op_bd hf
      refine g_cVi 40 (st := []) F hok (c_X6_comes (kl K) D cI cZ ad (kA K) (mS S 0 0) a1 q1 e2) wy_X6_comes ml_X6_77 (m_recv F) ⟨Nat.le_of_ble_eq_true rfl, Nat.le_of_ble_eq_true rfl⟩ rfl rfl (Nat.le_of_ble_eq_true rfl) ⟨Nat.zero_le _, Nat.zero_le _⟩ dX6_athlete_37 rfl ?_
      obtain rfl := Option.some.inj hf
      exact hR _ _ dX6_athlete_40
    · refine g_bipush 32 (v := (-2)) F dX6_athlete_30 (by decide) rfl ?_
      refine g_goto 40 F dX6_athlete_32 rfl ?_
      obtain rfl := Option.some.inj hf
      exact hR _ _ dX6_athlete_40
  · refine g_iconst 16 (v := (-1)) F dX6_athlete_15 (by decide) rfl ?_
    refine g_goto 40 F dX6_athlete_16 rfl ?_
    obtain rfl := Option.some.inj hf
    exact hR _ _ dX6_athlete_40
theorem c_X6_athlete (l : Launch) (D : va_G) (cI cZ : ClassId) (ad : Nat → Nat) (A : Nat → Prop) (S : MS) (a1 : Int32) (q : Int32 × MS) (hf : f_X6_athlete S a1 = some q) : Ci l yX6_athlete cX6_athlete 2 (some .int) 2 44 (mX D cI cZ A ad) (mKf D cI cZ) A S [.ref (ad 0), .int a1] q.1 q.2 := by
  refine met_i (by decide +kernel) (Nat.le_of_ble_eq_true rfl) (fun K hl hA hn F hR => ?_)
  subst hl; subst hA
  exact w_X6_athlete D cI cZ ad K F hn S a1 q hf hR
set_option maxHeartbeats 4000000 in
set_option maxRecDepth 100000 in
theorem w_X6_set (D : va_G) (cI cZ : ClassId) (ad : Nat → Nat) (K : Ctx) (F : Fx K cX6_set RX6 (mKf D cI cZ) 1 22) (hn : kn K = 3) (S : MS) (a1 : Int32) (a2 : Int32) (q : Bool × MS) (hf : f_X6_set S a1 a2 = some q) (hR : ∀ (pc : Nat) (lv : List (Nat × Value)), decode cX6_set pc = .ok (.ireturn, 1) → G K (mX D cI cZ (kA K) ad) 0 0 pc q.2 lv [.int (bI q.1)]) : G K (mX D cI cZ (kA K) ad) 0 0 0 S [(0, .ref (ad 0)), (1, .int a1), (2, .int a2)] [] := by
  have hok := mKf_ok D cI cZ (kA K)
  unfold f_X6_set at hf
  refine g_aload_n 1 0 F dX6_set_0 rfl rfl ?_
  refine g_iconst 2 (v := 0) F dX6_set_1 (by decide) rfl ?_
  refine m_put_0 5 F fl_X6_38 dX6_set_2 rfl ?_
  refine g_iload_n 6 1 F dX6_set_5 rfl rfl ?_
  refine g_iconst 7 (v := 0) F dX6_set_6 (by decide) rfl ?_
  refine g_iconst 8 (v := 5) F dX6_set_7 (by decide) rfl ?_
  refine g_cSi 11 (st := []) F hok (c_X6_in (kl K) D cI cZ ad (kA K) (mS S 0 0) a1 0 5 _ rfl) ws_X6_in ml_X6_42 ⟨Nat.le_of_ble_eq_true rfl, Nat.le_of_ble_eq_true rfl⟩ rfl rfl (Nat.le_of_ble_eq_true rfl) ⟨Nat.zero_le _, Nat.zero_le _⟩ dX6_set_8 rfl ?_
  refine g_ifeq_b 45 14 F dX6_set_11 rfl rfl hf (fun _ hf => ?_) (fun _ hf => ?_)
  · refine g_iconst 46 (v := 0) F dX6_set_45 (by decide) rfl ?_
    obtain rfl := Option.some.inj hf
    exact hR _ _ dX6_set_46
  · refine g_iload_n 15 2 F dX6_set_14 rfl rfl ?_
    refine g_aload_n 16 0 F dX6_set_15 rfl rfl ?_
    refine m_get_3 19 F fl_X6_16 dX6_set_16 rfl ?_
    refine g_iload_n 20 1 F dX6_set_19 rfl rfl ?_
    obtain ⟨h1, hf⟩ := op_ok hf
    refine m_ld_3 21 F h1 dX6_set_20 rfl ?_
    refine g_aload_n 22 0 F dX6_set_21 rfl rfl ?_
    refine m_get_4 25 F fl_X6_19 dX6_set_22 rfl ?_
    refine g_iload_n 26 1 F dX6_set_25 rfl rfl ?_
    obtain ⟨h2, hf⟩ := op_ok hf
    refine m_ld_4 27 F h2 dX6_set_26 rfl ?_
    refine g_cSi 30 (st := []) F hok (c_X6_in (kl K) D cI cZ ad (kA K) (mS S 0 0) a2 ((mS S 0 0).2 3 a1.toNatClampNeg) ((mS S 0 0).2 4 a1.toNatClampNeg) _ rfl) ws_X6_in ml_X6_42 ⟨Nat.le_of_ble_eq_true rfl, Nat.le_of_ble_eq_true rfl⟩ rfl rfl (Nat.le_of_ble_eq_true rfl) ⟨Nat.zero_le _, Nat.zero_le _⟩ dX6_set_27 rfl ?_
    refine g_ifeq_b 45 33 F dX6_set_30 rfl rfl hf (fun _ hf => ?_) (fun _ hf => ?_)
    · refine g_iconst 46 (v := 0) F dX6_set_45 (by decide) rfl ?_
      obtain rfl := Option.some.inj hf
      exact hR _ _ dX6_set_46
    · refine g_aload_n 34 0 F dX6_set_33 rfl rfl ?_
      refine m_get_1 37 F fl_X6_7 dX6_set_34 rfl ?_
      refine g_iconst 38 (v := 3) F dX6_set_37 (by decide) rfl ?_
      refine g_iload_n 39 1 F dX6_set_38 rfl rfl ?_
      refine g_iadd 40 F dX6_set_39 rfl ?_
      obtain ⟨h3, hf⟩ := op_ok hf
      refine m_ld_1 41 F h3 dX6_set_40 rfl ?_
      refine g_iload_n 42 2 F dX6_set_41 rfl rfl ?_
      refine g_icmp_ne 47 45 F dX6_set_42 rfl rfl hf (fun _ hf => ?_) (fun _ hf => ?_)
      · refine g_aload_n 48 0 F dX6_set_47 rfl rfl ?_
        refine m_get_1 51 F fl_X6_7 dX6_set_48 rfl ?_
        refine g_iconst 52 (v := 3) F dX6_set_51 (by decide) rfl ?_
        refine g_iload_n 53 1 F dX6_set_52 rfl rfl ?_
        refine g_iadd 54 F dX6_set_53 rfl ?_
        refine g_iload_n 55 2 F dX6_set_54 rfl rfl ?_
        obtain ⟨h4, hf⟩ := op_ok hf
        refine m_st_1 56 F h4 dX6_set_55 rfl ?_
        refine g_iconst 57 (v := 1) F dX6_set_56 (by decide) rfl ?_
        obtain rfl := Option.some.inj hf
        exact hR _ _ dX6_set_57
      · refine g_iconst 46 (v := 0) F dX6_set_45 (by decide) rfl ?_
        obtain rfl := Option.some.inj hf
        exact hR _ _ dX6_set_46
theorem c_X6_set (l : Launch) (D : va_G) (cI cZ : ClassId) (ad : Nat → Nat) (A : Nat → Prop) (S : MS) (a1 : Int32) (a2 : Int32) (q : Bool × MS) (hf : f_X6_set S a1 a2 = some q) : Ci l yX6_set cX6_set 3 (some .boolean) 1 22 (mX D cI cZ A ad) (mKf D cI cZ) A S [.ref (ad 0), .int a1, .int a2] (bI q.1) q.2 := by
  refine met_z (by decide +kernel) (Nat.le_of_ble_eq_true rfl) (fun K hl hA hn F hR => ?_)
  subst hl; subst hA
  exact w_X6_set D cI cZ ad K F hn S a1 a2 q hf hR
