set_option maxHeartbeats 4000000 in
set_option maxRecDepth 100000 in
theorem w_X0_find (B : CB) (sa : Nat → Nat) (h : Nat → Bool) (lk : Nat × Nat) (hw : cWf h lk) (K : Ctx) (F : Fx K cX0_find RX0 (cKf B (kA K)) 0 0) (hn : kn K = 2) (S : CS) (r : Nat) (a1 : Int32) (hr : r < 2) (q : Option Nat) (hf : f_X0_find h S r a1 = some q) (hR : ∀ (pc : Nat) (lv : List (Nat × Value)), decode cX0_find pc = .ok (.areturn, 1) → G K (cX B (kA K) sa h lk) 0 0 pc S lv [va_rf (q.map (fun j => sa (5 * j)))]) : G K (cX B (kA K) sa h lk) 0 0 0 S [(0, .ref (cAf B (1 + r))), (1, .int a1)] [] := by
  have hok := cKf_ok B (kA K)
  unfold f_X0_find at hf
  refine g_iload_n 1 1 F dX0_find_0 rfl rfl ?_
  refine g_if_lt 18 4 F dX0_find_1 rfl rfl hf (fun _ hf => ?_) (fun _ hf => ?_)
  · refine g_null 19 F dX0_find_18 rfl ?_
    obtain rfl := Option.some.inj hf
    exact hR _ _ dX0_find_19
  · refine g_iload_n 5 1 F dX0_find_4 rfl rfl ?_
    refine g_aload_n 6 0 F dX0_find_5 rfl rfl ?_
    refine cg_X0_athletes 9 F hr fl_X0_29 dX0_find_6 rfl ?_
    refine g_icmp_ge 18 12 F dX0_find_9 rfl rfl hf (fun _ hf => ?_) (fun _ hf => ?_)
    · refine g_null 19 F dX0_find_18 rfl ?_
      obtain rfl := Option.some.inj hf
      exact hR _ _ dX0_find_19
    · refine g_iload_n 13 1 F dX0_find_12 rfl rfl ?_
      refine g_bipush 15 (v := 6) F dX0_find_13 (by decide) rfl ?_
      refine g_icmp_lt 20 18 F dX0_find_15 rfl rfl hf (fun _ hf => ?_) (fun _ hf => ?_)
      · refine g_aload_n 21 0 F dX0_find_20 rfl rfl ?_
        refine cg_X0_rows 24 F hr fl_X0_25 dX0_find_21 rfl ?_
        refine g_iload_n 25 1 F dX0_find_24 rfl rfl ?_
        obtain ⟨h1, hf⟩ := op_ok hf
        refine c_ldRows 26 F hr h1 dX0_find_25 rfl ?_
        obtain rfl := Option.some.inj hf
        exact hR _ _ dX0_find_26
      · refine g_null 19 F dX0_find_18 rfl ?_
        obtain rfl := Option.some.inj hf
        exact hR _ _ dX0_find_19
theorem c_X0_find (l : Launch) (B : CB) (sa : Nat → Nat) (h : Nat → Bool) (lk : Nat × Nat) (hw : cWf h lk) (A : Nat → Prop) (S : CS) (r : Nat) (a1 : Int32) (hr : r < 2) (q : Option Nat) (hf : f_X0_find h S r a1 = some q) : Cq l yX0_find cX0_find 2 (some (.object "WhereFound$Sportsman")) 0 0 (cX B A sa h lk) (cKf B A) A S [.ref (cAf B (1 + r)), .int a1] (q.map (fun j => sa (5 * j))) S := by
  refine met_q (Or.inl ⟨_, rfl⟩) (by decide +kernel) (Nat.le_of_ble_eq_true rfl) (fun K hl hA hn F hR => ?_)
  subst hl; subst hA
  exact w_X0_find B sa h lk hw K F hn S r a1 hr q hf hR
set_option maxHeartbeats 4000000 in
set_option maxRecDepth 100000 in
theorem w_X5_isSetting (B : CB) (sa : Nat → Nat) (h : Nat → Bool) (lk : Nat × Nat) (hw : cWf h lk) (K : Ctx) (F : Fx K cX5_isSetting RX5 (cKf B (kA K)) 0 0) (hn : kn K = 1) (S : CS) (a1 : Int32) (q : Bool) (hf : f_X5_isSetting a1 = q) (hR : ∀ (pc : Nat) (lv : List (Nat × Value)), decode cX5_isSetting pc = .ok (.ireturn, 1) → G K (cX B (kA K) sa h lk) 0 0 pc S lv [.int (bI q)]) : G K (cX B (kA K) sa h lk) 0 0 0 S [(0, .int a1)] [] := by
  have hok := cKf_ok B (kA K)
  unfold f_X5_isSetting at hf
  refine g_iload_n 1 0 F dX5_isSetting_0 rfl rfl ?_
  refine g_if_lt 14 4 F dX5_isSetting_1 rfl rfl hf (fun _ hf => ?_) (fun _ hf => ?_)
  · refine g_iconst 15 (v := 0) F dX5_isSetting_14 (by decide) rfl ?_
    subst hf
    exact hR _ _ dX5_isSetting_15
  · refine g_iload_n 5 0 F dX5_isSetting_4 rfl rfl ?_
    refine g_bipush 7 (v := 6) F dX5_isSetting_5 (by decide) rfl ?_
    refine g_icmp_ge 14 10 F dX5_isSetting_7 rfl rfl hf (fun _ hf => ?_) (fun _ hf => ?_)
    · refine g_iconst 15 (v := 0) F dX5_isSetting_14 (by decide) rfl ?_
      subst hf
      exact hR _ _ dX5_isSetting_15
    · refine g_iconst 11 (v := 1) F dX5_isSetting_10 (by decide) rfl ?_
      refine g_goto 15 F dX5_isSetting_11 rfl ?_
      subst hf
      exact hR _ _ dX5_isSetting_15
theorem c_X5_isSetting (l : Launch) (B : CB) (sa : Nat → Nat) (h : Nat → Bool) (lk : Nat × Nat) (hw : cWf h lk) (A : Nat → Prop) (S : CS) (a1 : Int32) (q : Bool) (hf : f_X5_isSetting a1 = q) : Ci l yX5_isSetting cX5_isSetting 1 (some .boolean) 0 0 (cX B A sa h lk) (cKf B A) A S [.int a1] (bI q) S := by
  refine met_z (by decide +kernel) (Nat.le_of_ble_eq_true rfl) (fun K hl hA hn F hR => ?_)
  subst hl; subst hA
  exact w_X5_isSetting B sa h lk hw K F hn S a1 q hf hR
set_option maxHeartbeats 4000000 in
set_option maxRecDepth 100000 in
theorem w_X0_settingOrNone (B : CB) (sa : Nat → Nat) (h : Nat → Bool) (lk : Nat × Nat) (hw : cWf h lk) (K : Ctx) (F : Fx K cX0_settingOrNone RX0 (cKf B (kA K)) 1 20) (hn : kn K = 2) (S : CS) (r : Nat) (a1 : Int32) (hr : r < 2) (q : Int32) (hf : f_X0_settingOrNone S r a1 = some q) (hR : ∀ (pc : Nat) (lv : List (Nat × Value)), decode cX0_settingOrNone pc = .ok (.ireturn, 1) → G K (cX B (kA K) sa h lk) 0 0 pc S lv [.int q]) : G K (cX B (kA K) sa h lk) 0 0 0 S [(0, .ref (cAf B (1 + r))), (1, .int a1)] [] := by
  have hok := cKf_ok B (kA K)
  unfold f_X0_settingOrNone at hf
  refine g_iload_n 1 1 F dX0_settingOrNone_0 rfl rfl ?_
  refine g_cSNi 4 (st := []) F hok (c_X5_isSetting (kl K) B sa h lk hw (kA K) S a1 _ rfl) ws_X5_isSetting (F.2.2.2.2.2.1.2.1 _ nl_X0_57) ⟨Nat.le_of_ble_eq_true rfl, Nat.le_of_ble_eq_true rfl⟩ rfl rfl (Nat.le_of_ble_eq_true rfl) ⟨Nat.zero_le _, Nat.zero_le _⟩ dX0_settingOrNone_1 rfl ?_
  refine g_ifeq_b 16 7 F dX0_settingOrNone_4 rfl rfl hf (fun _ hf => ?_) (fun _ hf => ?_)
  · refine g_iconst 17 (v := (-1)) F dX0_settingOrNone_16 (by decide) rfl ?_
    obtain rfl := Option.some.inj hf
    exact hR _ _ dX0_settingOrNone_17
  · refine g_aload_n 8 0 F dX0_settingOrNone_7 rfl rfl ?_
    refine cg_X0_settings 11 F hr fl_X0_18 dX0_settingOrNone_8 rfl ?_
    refine g_iload_n 12 1 F dX0_settingOrNone_11 rfl rfl ?_
    obtain ⟨h1, hf⟩ := op_ok hf
    refine cl_As 13 F hr h1 dX0_settingOrNone_12 rfl ?_
    refine g_goto 17 F dX0_settingOrNone_13 rfl ?_
    obtain rfl := Option.some.inj hf
    exact hR _ _ dX0_settingOrNone_17
theorem c_X0_settingOrNone (l : Launch) (B : CB) (sa : Nat → Nat) (h : Nat → Bool) (lk : Nat × Nat) (hw : cWf h lk) (A : Nat → Prop) (S : CS) (r : Nat) (a1 : Int32) (hr : r < 2) (q : Int32) (hf : f_X0_settingOrNone S r a1 = some q) : Ci l yX0_settingOrNone cX0_settingOrNone 2 (some .int) 1 20 (cX B A sa h lk) (cKf B A) A S [.ref (cAf B (1 + r)), .int a1] q S := by
  refine met_i (by decide +kernel) (Nat.le_of_ble_eq_true rfl) (fun K hl hA hn F hR => ?_)
  subst hl; subst hA
  exact w_X0_settingOrNone B sa h lk hw K F hn S r a1 hr q hf hR
set_option maxHeartbeats 4000000 in
set_option maxRecDepth 100000 in
theorem w_X5_canBeSetting (B : CB) (sa : Nat → Nat) (h : Nat → Bool) (lk : Nat × Nat) (hw : cWf h lk) (K : Ctx) (F : Fx K cX5_canBeSetting RX5 (cKf B (kA K)) 1 20) (hn : kn K = 2) (S : CS) (a1 : Int32) (a2 : Int32) (q : Bool) (hf : f_X5_canBeSetting S a1 a2 = some q) (hR : ∀ (pc : Nat) (lv : List (Nat × Value)), decode cX5_canBeSetting pc = .ok (.ireturn, 1) → G K (cX B (kA K) sa h lk) 0 0 pc S lv [.int (bI q)]) : G K (cX B (kA K) sa h lk) 0 0 0 S [(0, .int a1), (1, .int a2)] [] := by
  have hok := cKf_ok B (kA K)
  unfold f_X5_canBeSetting at hf
  refine g_iload_n 1 0 F dX5_canBeSetting_0 rfl rfl ?_
  refine g_cSi 4 (st := []) F hok (c_X5_isSetting (kl K) B sa h lk hw (kA K) S a1 _ rfl) ws_X5_isSetting ml_X5_257 ⟨Nat.le_of_ble_eq_true rfl, Nat.le_of_ble_eq_true rfl⟩ rfl rfl (Nat.le_of_ble_eq_true rfl) ⟨Nat.zero_le _, Nat.zero_le _⟩ dX5_canBeSetting_1 rfl ?_
  refine g_ifeq_b 29 7 F dX5_canBeSetting_4 rfl rfl hf (fun _ hf => ?_) (fun _ hf => ?_)
  · refine g_iconst 30 (v := 0) F dX5_canBeSetting_29 (by decide) rfl ?_
    obtain rfl := Option.some.inj hf
    exact hR _ _ dX5_canBeSetting_30
  · refine g_iload_n 8 1 F dX5_canBeSetting_7 rfl rfl ?_
    refine c_gets 11 F F.2.2.2.2.2.1.2.2.1.1.1 fl_X5_260 dX5_canBeSetting_8 rfl ?_
    refine g_iload_n 12 0 F dX5_canBeSetting_11 rfl rfl ?_
    obtain ⟨h1, hf⟩ := op_ok hf
    refine c_tld 13 (f := cTab 0) F F.2.2.2.2.2.1.2.2.1.1.2 h1 dX5_canBeSetting_12 rfl ?_
    refine g_icmp_lt 29 16 F dX5_canBeSetting_13 rfl rfl hf (fun _ hf => ?_) (fun _ hf => ?_)
    · refine g_iconst 30 (v := 0) F dX5_canBeSetting_29 (by decide) rfl ?_
      obtain rfl := Option.some.inj hf
      exact hR _ _ dX5_canBeSetting_30
    · refine g_iload_n 17 1 F dX5_canBeSetting_16 rfl rfl ?_
      refine c_gets 20 F F.2.2.2.2.2.1.2.2.1.2.1.1 fl_X5_263 dX5_canBeSetting_17 rfl ?_
      refine g_iload_n 21 0 F dX5_canBeSetting_20 rfl rfl ?_
      obtain ⟨h2, hf⟩ := op_ok hf
      refine c_tld 22 (f := cTab 1) F F.2.2.2.2.2.1.2.2.1.2.1.2 h2 dX5_canBeSetting_21 rfl ?_
      refine g_icmp_gt 29 25 F dX5_canBeSetting_22 rfl rfl hf (fun _ hf => ?_) (fun _ hf => ?_)
      · refine g_iconst 30 (v := 0) F dX5_canBeSetting_29 (by decide) rfl ?_
        obtain rfl := Option.some.inj hf
        exact hR _ _ dX5_canBeSetting_30
      · refine g_iconst 26 (v := 1) F dX5_canBeSetting_25 (by decide) rfl ?_
        refine g_goto 30 F dX5_canBeSetting_26 rfl ?_
        obtain rfl := Option.some.inj hf
        exact hR _ _ dX5_canBeSetting_30
theorem c_X5_canBeSetting (l : Launch) (B : CB) (sa : Nat → Nat) (h : Nat → Bool) (lk : Nat × Nat) (hw : cWf h lk) (A : Nat → Prop) (S : CS) (a1 : Int32) (a2 : Int32) (q : Bool) (hf : f_X5_canBeSetting S a1 a2 = some q) : Ci l yX5_canBeSetting cX5_canBeSetting 2 (some .boolean) 1 20 (cX B A sa h lk) (cKf B A) A S [.int a1, .int a2] (bI q) S := by
  refine met_z (by decide +kernel) (Nat.le_of_ble_eq_true rfl) (fun K hl hA hn F hR => ?_)
  subst hl; subst hA
  exact w_X5_canBeSetting B sa h lk hw K F hn S a1 a2 q hf hR
set_option maxHeartbeats 4000000 in
set_option maxRecDepth 100000 in
theorem w_X0_change (B : CB) (sa : Nat → Nat) (h : Nat → Bool) (lk : Nat × Nat) (hw : cWf h lk) (K : Ctx) (F : Fx K cX0_change RX0 (cKf B (kA K)) 2 41) (hn : kn K = 3) (S : CS) (r : Nat) (a1 : Int32) (a2 : Int32) (hr : r < 2) (q : Bool × CS) (hf : f_X0_change S r a1 a2 = some q) (hR : ∀ (pc : Nat) (lv : List (Nat × Value)), decode cX0_change pc = .ok (.ireturn, 1) → G K (cX B (kA K) sa h lk) 0 0 pc q.2 lv [.int (bI q.1)]) : G K (cX B (kA K) sa h lk) 0 0 0 S [(0, .ref (cAf B (1 + r))), (1, .int a1), (2, .int a2)] [] := by
  have hok := cKf_ok B (kA K)
  unfold f_X0_change at hf
  refine g_iload_n 1 1 F dX0_change_0 rfl rfl ?_
  refine g_iload_n 2 2 F dX0_change_1 rfl rfl ?_
  obtain ⟨q1, e2, hf⟩ := op_bd hf
  refine g_cSNi 5 (st := []) F hok (c_X5_canBeSetting (kl K) B sa h lk hw (kA K) S a1 a2 q1 e2) ws_X5_canBeSetting (F.2.2.2.2.2.1.2.1 _ nl_X0_68) ⟨Nat.le_of_ble_eq_true rfl, Nat.le_of_ble_eq_true rfl⟩ rfl rfl (Nat.le_of_ble_eq_true rfl) ⟨Nat.zero_le _, Nat.zero_le _⟩ dX0_change_2 rfl ?_
  refine g_ifeq_b 18 8 F dX0_change_5 rfl rfl hf (fun _ hf => ?_) (fun _ hf => ?_)
  · refine g_iconst 19 (v := 0) F dX0_change_18 (by decide) rfl ?_
    obtain rfl := Option.some.inj hf
    exact hR _ _ dX0_change_19
  · refine g_aload_n 9 0 F dX0_change_8 rfl rfl ?_
    refine cg_X0_settings 12 F hr fl_X0_18 dX0_change_9 rfl ?_
    refine g_iload_n 13 1 F dX0_change_12 rfl rfl ?_
    obtain ⟨h3, hf⟩ := op_ok hf
    refine cl_As 14 F hr h3 dX0_change_13 rfl ?_
    refine g_iload_n 15 2 F dX0_change_14 rfl rfl ?_
    refine g_icmp_ne 20 18 F dX0_change_15 rfl rfl hf (fun _ hf => ?_) (fun _ hf => ?_)
    · refine g_aload_n 21 0 F dX0_change_20 rfl rfl ?_
      refine cg_X0_settings 24 F hr fl_X0_18 dX0_change_21 rfl ?_
      refine g_iload_n 25 1 F dX0_change_24 rfl rfl ?_
      refine g_iload_n 26 2 F dX0_change_25 rfl rfl ?_
      obtain ⟨h4, hf⟩ := op_ok hf
      refine cs_As 27 F hr h4 dX0_change_26 rfl ?_
      refine g_iconst 28 (v := 1) F dX0_change_27 (by decide) rfl ?_
      obtain rfl := Option.some.inj hf
      exact hR _ _ dX0_change_28
    · refine g_iconst 19 (v := 0) F dX0_change_18 (by decide) rfl ?_
      obtain rfl := Option.some.inj hf
      exact hR _ _ dX0_change_19
theorem c_X0_change (l : Launch) (B : CB) (sa : Nat → Nat) (h : Nat → Bool) (lk : Nat × Nat) (hw : cWf h lk) (A : Nat → Prop) (S : CS) (r : Nat) (a1 : Int32) (a2 : Int32) (hr : r < 2) (q : Bool × CS) (hf : f_X0_change S r a1 a2 = some q) : Ci l yX0_change cX0_change 3 (some .boolean) 2 41 (cX B A sa h lk) (cKf B A) A S [.ref (cAf B (1 + r)), .int a1, .int a2] (bI q.1) q.2 := by
  refine met_z (by decide +kernel) (Nat.le_of_ble_eq_true rfl) (fun K hl hA hn F hR => ?_)
  subst hl; subst hA
  exact w_X0_change B sa h lk hw K F hn S r a1 a2 hr q hf hR
set_option maxHeartbeats 4000000 in
set_option maxRecDepth 100000 in
theorem w_X5_canBeDay (B : CB) (sa : Nat → Nat) (h : Nat → Bool) (lk : Nat × Nat) (hw : cWf h lk) (K : Ctx) (F : Fx K cX5_canBeDay RX5 (cKf B (kA K)) 0 0) (hn : kn K = 1) (S : CS) (a1 : Int32) (q : Bool) (hf : f_X5_canBeDay a1 = q) (hR : ∀ (pc : Nat) (lv : List (Nat × Value)), decode cX5_canBeDay pc = .ok (.ireturn, 1) → G K (cX B (kA K) sa h lk) 0 0 pc S lv [.int (bI q)]) : G K (cX B (kA K) sa h lk) 0 0 0 S [(0, .int a1)] [] := by
  have hok := cKf_ok B (kA K)
  unfold f_X5_canBeDay at hf
  refine g_iload_n 1 0 F dX5_canBeDay_0 rfl rfl ?_
  refine g_if_lt 15 4 F dX5_canBeDay_1 rfl rfl hf (fun _ hf => ?_) (fun _ hf => ?_)
  · refine g_iconst 16 (v := 0) F dX5_canBeDay_15 (by decide) rfl ?_
    subst hf
    exact hR _ _ dX5_canBeDay_16
  · refine g_iload_n 5 0 F dX5_canBeDay_4 rfl rfl ?_
    refine g_sipush 8 (v := 999) F dX5_canBeDay_5 (by decide) rfl ?_
    refine g_icmp_gt 15 11 F dX5_canBeDay_8 rfl rfl hf (fun _ hf => ?_) (fun _ hf => ?_)
    · refine g_iconst 16 (v := 0) F dX5_canBeDay_15 (by decide) rfl ?_
      subst hf
      exact hR _ _ dX5_canBeDay_16
    · refine g_iconst 12 (v := 1) F dX5_canBeDay_11 (by decide) rfl ?_
      refine g_goto 16 F dX5_canBeDay_12 rfl ?_
      subst hf
      exact hR _ _ dX5_canBeDay_16
theorem c_X5_canBeDay (l : Launch) (B : CB) (sa : Nat → Nat) (h : Nat → Bool) (lk : Nat × Nat) (hw : cWf h lk) (A : Nat → Prop) (S : CS) (a1 : Int32) (q : Bool) (hf : f_X5_canBeDay a1 = q) : Ci l yX5_canBeDay cX5_canBeDay 1 (some .boolean) 0 0 (cX B A sa h lk) (cKf B A) A S [.int a1] (bI q) S := by
  refine met_z (by decide +kernel) (Nat.le_of_ble_eq_true rfl) (fun K hl hA hn F hR => ?_)
  subst hl; subst hA
  exact w_X5_canBeDay B sa h lk hw K F hn S a1 q hf hR
set_option maxHeartbeats 4000000 in
set_option maxRecDepth 100000 in
theorem w_X5_canBeHour (B : CB) (sa : Nat → Nat) (h : Nat → Bool) (lk : Nat × Nat) (hw : cWf h lk) (K : Ctx) (F : Fx K cX5_canBeHour RX5 (cKf B (kA K)) 0 0) (hn : kn K = 1) (S : CS) (a1 : Int32) (q : Bool) (hf : f_X5_canBeHour a1 = q) (hR : ∀ (pc : Nat) (lv : List (Nat × Value)), decode cX5_canBeHour pc = .ok (.ireturn, 1) → G K (cX B (kA K) sa h lk) 0 0 pc S lv [.int (bI q)]) : G K (cX B (kA K) sa h lk) 0 0 0 S [(0, .int a1)] [] := by
  have hok := cKf_ok B (kA K)
  unfold f_X5_canBeHour at hf
  refine g_iload_n 1 0 F dX5_canBeHour_0 rfl rfl ?_
  refine g_if_lt 14 4 F dX5_canBeHour_1 rfl rfl hf (fun _ hf => ?_) (fun _ hf => ?_)
  · refine g_iconst 15 (v := 0) F dX5_canBeHour_14 (by decide) rfl ?_
    subst hf
    exact hR _ _ dX5_canBeHour_15
  · refine g_iload_n 5 0 F dX5_canBeHour_4 rfl rfl ?_
    refine g_bipush 7 (v := 24) F dX5_canBeHour_5 (by decide) rfl ?_
    refine g_icmp_ge 14 10 F dX5_canBeHour_7 rfl rfl hf (fun _ hf => ?_) (fun _ hf => ?_)
    · refine g_iconst 15 (v := 0) F dX5_canBeHour_14 (by decide) rfl ?_
      subst hf
      exact hR _ _ dX5_canBeHour_15
    · refine g_iconst 11 (v := 1) F dX5_canBeHour_10 (by decide) rfl ?_
      refine g_goto 15 F dX5_canBeHour_11 rfl ?_
      subst hf
      exact hR _ _ dX5_canBeHour_15
theorem c_X5_canBeHour (l : Launch) (B : CB) (sa : Nat → Nat) (h : Nat → Bool) (lk : Nat × Nat) (hw : cWf h lk) (A : Nat → Prop) (S : CS) (a1 : Int32) (q : Bool) (hf : f_X5_canBeHour a1 = q) : Ci l yX5_canBeHour cX5_canBeHour 1 (some .boolean) 0 0 (cX B A sa h lk) (cKf B A) A S [.int a1] (bI q) S := by
  refine met_z (by decide +kernel) (Nat.le_of_ble_eq_true rfl) (fun K hl hA hn F hR => ?_)
  subst hl; subst hA
  exact w_X5_canBeHour B sa h lk hw K F hn S a1 q hf hR
set_option maxHeartbeats 4000000 in
set_option maxRecDepth 100000 in
theorem w_X0_hoursTo (B : CB) (sa : Nat → Nat) (h : Nat → Bool) (lk : Nat × Nat) (hw : cWf h lk) (K : Ctx) (F : Fx K cX0_hoursTo RX0 (cKf B (kA K)) 0 0) (hn : kn K = 3) (S : CS) (r : Nat) (a1 : Int32) (a2 : Int32) (hr : r < 2) (q : Int32) (hf : f_X0_hoursTo S r a1 a2 = q) (hR : ∀ (pc : Nat) (lv : List (Nat × Value)), decode cX0_hoursTo pc = .ok (.ireturn, 1) → G K (cX B (kA K) sa h lk) 0 0 pc S lv [.int q]) : G K (cX B (kA K) sa h lk) 0 0 0 S [(0, .ref (cAf B (1 + r))), (1, .int a1), (2, .int a2)] [] := by
  have hok := cKf_ok B (kA K)
  unfold f_X0_hoursTo at hf
  refine g_iload_n 1 1 F dX0_hoursTo_0 rfl rfl ?_
  refine g_aload_n 2 0 F dX0_hoursTo_1 rfl rfl ?_
  refine cg_X0_day 5 F hr fl_X0_34 dX0_hoursTo_2 rfl ?_
  refine g_isub 6 F dX0_hoursTo_5 rfl ?_
  refine g_bipush 8 (v := 24) F dX0_hoursTo_6 (by decide) rfl ?_
  refine g_imul 9 F dX0_hoursTo_8 rfl ?_
  refine g_iload_n 10 2 F dX0_hoursTo_9 rfl rfl ?_
  refine g_iadd 11 F dX0_hoursTo_10 rfl ?_
  refine g_aload_n 12 0 F dX0_hoursTo_11 rfl rfl ?_
  refine cg_X0_hour 15 F hr fl_X0_37 dX0_hoursTo_12 rfl ?_
  refine g_isub 16 F dX0_hoursTo_15 rfl ?_
  subst hf
  exact hR _ _ dX0_hoursTo_16
theorem c_X0_hoursTo (l : Launch) (B : CB) (sa : Nat → Nat) (h : Nat → Bool) (lk : Nat × Nat) (hw : cWf h lk) (A : Nat → Prop) (S : CS) (r : Nat) (a1 : Int32) (a2 : Int32) (hr : r < 2) (q : Int32) (hf : f_X0_hoursTo S r a1 a2 = q) : Ci l yX0_hoursTo cX0_hoursTo 3 (some .int) 0 0 (cX B A sa h lk) (cKf B A) A S [.ref (cAf B (1 + r)), .int a1, .int a2] q S := by
  refine met_i (by decide +kernel) (Nat.le_of_ble_eq_true rfl) (fun K hl hA hn F hR => ?_)
  subst hl; subst hA
  exact w_X0_hoursTo B sa h lk hw K F hn S r a1 a2 hr q hf hR
set_option maxHeartbeats 4000000 in
set_option maxRecDepth 100000 in
theorem w_X1_firstGap (B : CB) (sa : Nat → Nat) (h : Nat → Bool) (lk : Nat × Nat) (hw : cWf h lk) (K : Ctx) (F : Fx K cX1_firstGap RX1 (cKf B (kA K)) 0 0) (hn : kn K = 4) (S : CS) (j : Nat) (a1 : Int32) (hj : h j = true) (q : Int32) (hf : f_X1_firstGap S j a1 = some q) (hR : ∀ (pc : Nat) (lv : List (Nat × Value)), decode cX1_firstGap pc = .ok (.ireturn, 1) → G K (cX B (kA K) sa h lk) 0 0 pc S lv [.int q]) : G K (cX B (kA K) sa h lk) 0 0 0 S [(0, .ref (sa (5 * j))), (1, .int a1)] [] := by
  have hok := cKf_ok B (kA K)
  have L_19 : ∀ (n : Nat) (x2 : Int32) (x3 : Int32), l_X1_firstGap_19 j S n x2 x3 = some q → G K (cX B (kA K) sa h lk) 0 0 19 S [(0, .ref (sa (5 * j))), (2, .int x2), (3, .int x3)] [] := by
    intro n
    induction n with
    | zero =>
      intro x2 x3 hf
      rw [l_X1_firstGap_19] at hf
      cases hf
    | succ n ih =>
      intro x2 x3 hf
      rw [l_X1_firstGap_19] at hf
      refine g_iload_n 20 2 F dX1_firstGap_19 rfl rfl ?_
      refine g_iload_n 21 1 F dX1_firstGap_20 rfl rfl ?_
      refine g_bipush 23 (v := 30) F dX1_firstGap_21 (by decide) rfl ?_
      refine g_iadd 24 F dX1_firstGap_23 rfl ?_
      refine g_icmp_ge 51 27 F dX1_firstGap_24 rfl rfl hf (fun _ hf => ?_) (fun _ hf => ?_)
      · refine g_iconst 52 (v := (-1)) F dX1_firstGap_51 (by decide) rfl ?_
        obtain rfl := Option.some.inj hf
        exact hR _ _ dX1_firstGap_52
      · refine g_iload_n 28 2 F dX1_firstGap_27 rfl rfl ?_
        refine g_sipush 31 (v := 1100) F dX1_firstGap_28 (by decide) rfl ?_
        refine g_icmp_ge 51 34 F dX1_firstGap_31 rfl rfl hf (fun _ hf => ?_) (fun _ hf => ?_)
        · refine g_iconst 52 (v := (-1)) F dX1_firstGap_51 (by decide) rfl ?_
          obtain rfl := Option.some.inj hf
          exact hR _ _ dX1_firstGap_52
        · refine g_aload_n 35 0 F dX1_firstGap_34 rfl rfl ?_
          refine cg_X1_slots 38 F hw hj fl_X1_21 dX1_firstGap_35 rfl ?_
          refine g_iload_n 39 2 F dX1_firstGap_38 rfl rfl ?_
          obtain ⟨h1, hf⟩ := op_ok hf
          refine cl_Q3 40 F hw hj h1 dX1_firstGap_39 rfl ?_
          refine g_if_ne 45 43 F dX1_firstGap_40 rfl rfl hf (fun _ hf => ?_) (fun _ hf => ?_)
          · refine g_iinc 48 2 (x3 + 1) [(3, .int (x3 + 1)), (0, .ref (sa (5 * j))), (2, .int x2)] F dX1_firstGap_45 rfl rfl (lt_kn hn (by decide)) rfl rfl ?_
            refine g_goto 19 F dX1_firstGap_48 rfl ?_
            exact G.lvs [1, 2, 0] rfl (ih x2 (x3 + 1) hf)
          · refine g_iload_n 44 2 F dX1_firstGap_43 rfl rfl ?_
            obtain rfl := Option.some.inj hf
            exact hR _ _ dX1_firstGap_44
  unfold f_X1_firstGap at hf
  refine g_iload_n 1 1 F dX1_firstGap_0 rfl rfl ?_
  refine g_if_lt 10 4 F dX1_firstGap_1 rfl rfl hf (fun _ hf => ?_) (fun _ hf => ?_)
  · refine g_iconst 11 (v := (-1)) F dX1_firstGap_10 (by decide) rfl ?_
    obtain rfl := Option.some.inj hf
    exact hR _ _ dX1_firstGap_11
  · refine g_iload_n 5 1 F dX1_firstGap_4 rfl rfl ?_
    refine g_bipush 7 (v := 35) F dX1_firstGap_5 (by decide) rfl ?_
    refine g_icmp_le 12 10 F dX1_firstGap_7 rfl rfl hf (fun _ hf => ?_) (fun _ hf => ?_)
    · refine g_iload_n 13 1 F dX1_firstGap_12 rfl rfl ?_
      refine g_bipush 15 (v := 30) F dX1_firstGap_13 (by decide) rfl ?_
      refine g_imul 16 F dX1_firstGap_15 rfl ?_
      refine g_istore_n 17 [(2, .int (a1 * 30)), (0, .ref (sa (5 * j))), (1, .int a1)] F dX1_firstGap_16 (lt_kn hn (by decide)) rfl rfl ?_
      refine g_iload_n 18 0 F dX1_firstGap_17 rfl rfl ?_
      refine g_istore_n 19 [(3, .int (a1 * 30)), (2, .int (a1 * 30)), (0, .ref (sa (5 * j))), (1, .int a1)] F dX1_firstGap_18 (lt_kn hn (by decide)) rfl rfl ?_
      exact G.lvs [2, 1, 0] rfl (L_19 fu (a1 * 30) (a1 * 30) hf)
    · refine g_iconst 11 (v := (-1)) F dX1_firstGap_10 (by decide) rfl ?_
      obtain rfl := Option.some.inj hf
      exact hR _ _ dX1_firstGap_11
theorem c_X1_firstGap (l : Launch) (B : CB) (sa : Nat → Nat) (h : Nat → Bool) (lk : Nat × Nat) (hw : cWf h lk) (A : Nat → Prop) (S : CS) (j : Nat) (a1 : Int32) (hj : h j = true) (q : Int32) (hf : f_X1_firstGap S j a1 = some q) : Ci l yX1_firstGap cX1_firstGap 4 (some .int) 0 0 (cX B A sa h lk) (cKf B A) A S [.ref (sa (5 * j)), .int a1] q S := by
  refine met_i (by decide +kernel) (Nat.le_of_ble_eq_true rfl) (fun K hl hA hn F hR => ?_)
  subst hl; subst hA
  exact w_X1_firstGap B sa h lk hw K F hn S j a1 hj q hf hR
set_option maxHeartbeats 4000000 in
set_option maxRecDepth 100000 in
theorem w_X1_note (B : CB) (sa : Nat → Nat) (h : Nat → Bool) (lk : Nat × Nat) (hw : cWf h lk) (K : Ctx) (F : Fx K cX1_note RX1 (cKf B (kA K)) 0 0) (hn : kn K = 3) (S : CS) (j : Nat) (a1 : Int32) (a2 : Int32) (hj : h j = true) (q : Int32 × CS) (hf : f_X1_note S j a1 a2 = some q) (hR : ∀ (pc : Nat) (lv : List (Nat × Value)), decode cX1_note pc = .ok (.ireturn, 1) → G K (cX B (kA K) sa h lk) 0 0 pc q.2 lv [.int q.1]) : G K (cX B (kA K) sa h lk) 0 0 0 S [(0, .ref (sa (5 * j))), (1, .int a1), (2, .int a2)] [] := by
  have hok := cKf_ok B (kA K)
  unfold f_X1_note at hf
  refine g_aload_n 1 0 F dX1_note_0 rfl rfl ?_
  refine cg_X1_failures 4 F hw hj fl_X1_43 dX1_note_1 rfl ?_
  refine g_if_lt 16 7 F dX1_note_4 rfl rfl hf (fun _ hf => ?_) (fun _ hf => ?_)
  · refine g_iconst 17 (v := 0) F dX1_note_16 (by decide) rfl ?_
    obtain rfl := Option.some.inj hf
    exact hR _ _ dX1_note_17
  · refine g_aload_n 8 0 F dX1_note_7 rfl rfl ?_
    refine cg_X1_failures 11 F hw hj fl_X1_43 dX1_note_8 rfl ?_
    refine g_bipush 13 (v := 60) F dX1_note_11 (by decide) rfl ?_
    refine g_icmp_lt 18 16 F dX1_note_13 rfl rfl hf (fun _ hf => ?_) (fun _ hf => ?_)
    · refine g_aload_n 19 0 F dX1_note_18 rfl rfl ?_
      refine cg_X1_failureDay 22 F hw hj fl_X1_9 dX1_note_19 rfl ?_
      refine g_aload_n 23 0 F dX1_note_22 rfl rfl ?_
      refine cg_X1_failures 26 F hw hj fl_X1_43 dX1_note_23 rfl ?_
      refine g_iload_n 27 1 F dX1_note_26 rfl rfl ?_
      obtain ⟨h1, hf⟩ := op_ok hf
      refine cs_Q0 28 F hw hj h1 dX1_note_27 rfl ?_
      refine g_aload_n 29 0 F dX1_note_28 rfl rfl ?_
      refine cg_X1_failureKind 32 F hw hj fl_X1_15 dX1_note_29 rfl ?_
      refine g_aload_n 33 0 F dX1_note_32 rfl rfl ?_
      refine cg_X1_failures 36 F hw hj fl_X1_43 dX1_note_33 rfl ?_
      refine g_iload_n 37 2 F dX1_note_36 rfl rfl ?_
      obtain ⟨h2, hf⟩ := op_ok hf
      refine cs_Q1 38 F hw hj h2 dX1_note_37 rfl ?_
      refine g_aload_n 39 0 F dX1_note_38 rfl rfl ?_
      refine cg_X1_struck 42 F hw hj fl_X1_18 dX1_note_39 rfl ?_
      refine g_aload_n 43 0 F dX1_note_42 rfl rfl ?_
      refine cg_X1_failures 46 F hw hj fl_X1_43 dX1_note_43 rfl ?_
      refine g_iconst 47 (v := 0) F dX1_note_46 (by decide) rfl ?_
      obtain ⟨h3, hf⟩ := op_ok hf
      refine cs_Q2 48 F hw hj h3 dX1_note_47 rfl ?_
      refine g_aload_n 49 0 F dX1_note_48 rfl rfl ?_
      refine g_dup 50 F dX1_note_49 rfl rfl ?_
      refine cg_X1_failures 53 F hw hj fl_X1_43 dX1_note_50 rfl ?_
      refine g_iconst 54 (v := 1) F dX1_note_53 (by decide) rfl ?_
      refine g_iadd 55 F dX1_note_54 rfl ?_
      refine cp_X1_failures 58 F hw hj fl_X1_43 dX1_note_55 rfl ?_
      refine g_iconst 59 (v := 1) F dX1_note_58 (by decide) rfl ?_
      obtain rfl := Option.some.inj hf
      exact hR _ _ dX1_note_59
    · refine g_iconst 17 (v := 0) F dX1_note_16 (by decide) rfl ?_
      obtain rfl := Option.some.inj hf
      exact hR _ _ dX1_note_17
theorem c_X1_note (l : Launch) (B : CB) (sa : Nat → Nat) (h : Nat → Bool) (lk : Nat × Nat) (hw : cWf h lk) (A : Nat → Prop) (S : CS) (j : Nat) (a1 : Int32) (a2 : Int32) (hj : h j = true) (q : Int32 × CS) (hf : f_X1_note S j a1 a2 = some q) : Ci l yX1_note cX1_note 3 (some .int) 0 0 (cX B A sa h lk) (cKf B A) A S [.ref (sa (5 * j)), .int a1, .int a2] q.1 q.2 := by
  refine met_i (by decide +kernel) (Nat.le_of_ble_eq_true rfl) (fun K hl hA hn F hR => ?_)
  subst hl; subst hA
  exact w_X1_note B sa h lk hw K F hn S j a1 a2 hj q hf hR
set_option maxHeartbeats 4000000 in
set_option maxRecDepth 100000 in
theorem w_X0_beginQuarter (B : CB) (sa : Nat → Nat) (h : Nat → Bool) (lk : Nat × Nat) (hw : cWf h lk) (K : Ctx) (F : Fx K cX0_beginQuarter RX0 (cKf B (kA K)) 1 23) (hn : kn K = 5) (S : CS) (r : Nat) (a1 : Int32) (hr : r < 2) (q : Int32 × CS) (hf : f_X0_beginQuarter h S r a1 = some q) (hR : ∀ (pc : Nat) (lv : List (Nat × Value)), decode cX0_beginQuarter pc = .ok (.ireturn, 1) → G K (cX B (kA K) sa h lk) 0 0 pc q.2 lv [.int q.1]) : G K (cX B (kA K) sa h lk) 0 0 0 S [(0, .ref (cAf B (1 + r))), (1, .int a1)] [] := by
  have hok := cKf_ok B (kA K)
  have L_4 : ∀ (n : Nat) (S : CS) (x1 : Int32) (x2 : Int32) (x3 : Int32), l_X0_beginQuarter_4 h r n S x1 x2 x3 = some q → G K (cX B (kA K) sa h lk) 0 0 4 S [(0, .ref (cAf B (1 + r))), (1, .int x1), (2, .int x2), (3, .int x3)] [] := by
    intro n
    induction n with
    | zero =>
      intro S x1 x2 x3 hf
      rw [l_X0_beginQuarter_4] at hf
      cases hf
    | succ n ih =>
      intro S x1 x2 x3 hf
      rw [l_X0_beginQuarter_4] at hf
      refine g_iload_n 5 3 F dX0_beginQuarter_4 rfl rfl ?_
      refine g_aload_n 6 0 F dX0_beginQuarter_5 rfl rfl ?_
      refine cg_X0_athletes 9 F hr fl_X0_29 dX0_beginQuarter_6 rfl ?_
      refine g_icmp_ge 59 12 F dX0_beginQuarter_9 rfl rfl hf (fun _ hf => ?_) (fun _ hf => ?_)
      · refine g_iload_n 60 2 F dX0_beginQuarter_59 rfl rfl ?_
        obtain rfl := Option.some.inj hf
        exact hR _ _ dX0_beginQuarter_60
      · refine g_aload_n 13 0 F dX0_beginQuarter_12 rfl rfl ?_
        refine g_iload_n 14 3 F dX0_beginQuarter_13 rfl rfl ?_
        obtain ⟨q1, e2, hf⟩ := op_bd hf
        refine g_cVq 17 (st := []) F hok (c_X0_find (kl K) B sa h lk hw (kA K) S r x3 hr q1 e2) wy_X0_find ml_X0_46 (c_rc_X0 F hr) ⟨Nat.le_of_ble_eq_true rfl, Nat.le_of_ble_eq_true rfl⟩ rfl rfl (Nat.le_of_ble_eq_true rfl) ⟨Nat.zero_le _, Nat.zero_le _⟩ dX0_beginQuarter_14 rfl ?_
        rcases op_oc hf with ⟨e4, hf⟩ | ⟨j3, e4, hf⟩
        · subst e4
          change G K (cX B (kA K) sa h lk) 0 0 17 S [(0, .ref (cAf B (1 + r))), (1, .int x1), (2, .int x2), (3, .int x3)] [.null]
          refine g_astoreN 19 [(4, .null), (0, .ref (cAf B (1 + r))), (1, .int x1), (2, .int x2), (3, .int x3)] F dX0_beginQuarter_17 (lt_kn hn (by decide)) rfl rfl ?_
          refine g_aloadN 21 0 F dX0_beginQuarter_19 rfl rfl ?_
          refine g_ifnullN 53 F dX0_beginQuarter_21 rfl ?_
          refine g_iinc 56 4 (x3 + 1) [(3, .int (x3 + 1)), (4, .null), (0, .ref (cAf B (1 + r))), (1, .int x1), (2, .int x2)] F dX0_beginQuarter_53 rfl rfl (lt_kn hn (by decide)) rfl rfl ?_
          refine g_goto 4 F dX0_beginQuarter_56 rfl ?_
          exact G.lvs [2, 3, 4, 0] rfl (ih S x1 x2 (x3 + 1) hf)
        · subst e4
          have hj3 : h j3 = true := find_has e2
          change G K (cX B (kA K) sa h lk) 0 0 17 S [(0, .ref (cAf B (1 + r))), (1, .int x1), (2, .int x2), (3, .int x3)] [.ref (sa (5 * j3))]
          refine g_astore 19 [(4, .ref (sa (5 * j3))), (0, .ref (cAf B (1 + r))), (1, .int x1), (2, .int x2), (3, .int x3)] F dX0_beginQuarter_17 (lt_kn hn (by decide)) rfl rfl ?_
          refine g_aload 21 0 F dX0_beginQuarter_19 rfl rfl ?_
          refine g_ifnull 24 F dX0_beginQuarter_21 rfl ?_
          refine g_aload 26 0 F dX0_beginQuarter_24 rfl rfl ?_
          refine g_iconst 27 (v := 0) F dX0_beginQuarter_26 (by decide) rfl ?_
          refine cp_X1_late 30 F hw hj3 fl_X0_86 dX0_beginQuarter_27 rfl ?_
          refine g_aload 32 0 F dX0_beginQuarter_30 rfl rfl ?_
          refine g_iload_n 33 2 F dX0_beginQuarter_32 rfl rfl ?_
          obtain ⟨q5, e6, hf⟩ := op_bd hf
          refine g_cVi 36 (st := []) F hok (c_X1_firstGap (kl K) B sa h lk hw (kA K) (sP S j3 2 0) j3 x1 hj3 q5 e6) wy_X1_firstGap ml_X0_89 (c_rc_X1 F hw hj3) ⟨Nat.le_of_ble_eq_true rfl, Nat.le_of_ble_eq_true rfl⟩ rfl rfl (Nat.le_of_ble_eq_true rfl) ⟨Nat.zero_le _, Nat.zero_le _⟩ dX0_beginQuarter_33 rfl ?_
          refine g_iconst 37 (v := (-1)) F dX0_beginQuarter_36 (by decide) rfl ?_
          refine g_icmp_eq 53 40 F dX0_beginQuarter_37 rfl rfl hf (fun _ hf => ?_) (fun _ hf => ?_)
          · refine g_iinc 56 4 (x3 + 1) [(3, .int (x3 + 1)), (4, .ref (sa (5 * j3))), (0, .ref (cAf B (1 + r))), (1, .int x1), (2, .int x2)] F dX0_beginQuarter_53 rfl rfl (lt_kn hn (by decide)) rfl rfl ?_
            refine g_goto 4 F dX0_beginQuarter_56 rfl ?_
            exact G.lvs [2, 3, 4, 0] rfl (ih (sP S j3 2 0) x1 x2 (x3 + 1) hf)
          · refine g_iload_n 41 3 F dX0_beginQuarter_40 rfl rfl ?_
            refine g_aload 43 0 F dX0_beginQuarter_41 rfl rfl ?_
            refine g_iload_n 44 2 F dX0_beginQuarter_43 rfl rfl ?_
            refine g_bipush 46 (v := 30) F dX0_beginQuarter_44 (by decide) rfl ?_
            refine g_imul 47 F dX0_beginQuarter_46 rfl ?_
            refine g_iconst 48 (v := 0) F dX0_beginQuarter_47 (by decide) rfl ?_
            obtain ⟨q7, e8, hf⟩ := op_bd hf
            refine g_cVi 51 (st := [.int x2]) F hok (c_X1_note (kl K) B sa h lk hw (kA K) (sP S j3 2 0) j3 (x1 * 30) 0 hj3 q7 e8) wy_X1_note ml_X0_92 (c_rc_X1 F hw hj3) ⟨Nat.le_of_ble_eq_true rfl, Nat.le_of_ble_eq_true rfl⟩ rfl rfl (Nat.le_of_ble_eq_true rfl) ⟨Nat.zero_le _, Nat.zero_le _⟩ dX0_beginQuarter_48 rfl ?_
            refine g_iadd 52 F dX0_beginQuarter_51 rfl ?_
            refine g_istore_n 53 [(2, .int (x2 + q7.1)), (4, .ref (sa (5 * j3))), (0, .ref (cAf B (1 + r))), (1, .int x1), (3, .int x3)] F dX0_beginQuarter_52 (lt_kn hn (by decide)) rfl rfl ?_
            refine g_iinc 56 4 (x3 + 1) [(3, .int (x3 + 1)), (2, .int (x2 + q7.1)), (4, .ref (sa (5 * j3))), (0, .ref (cAf B (1 + r))), (1, .int x1)] F dX0_beginQuarter_53 rfl rfl (lt_kn hn (by decide)) rfl rfl ?_
            refine g_goto 4 F dX0_beginQuarter_56 rfl ?_
            exact G.lvs [3, 4, 1, 0] rfl (ih q7.2 x1 (x2 + q7.1) (x3 + 1) hf)
  unfold f_X0_beginQuarter at hf
  refine g_iconst 1 (v := 0) F dX0_beginQuarter_0 (by decide) rfl ?_
  refine g_istore_n 2 [(2, .int 0), (0, .ref (cAf B (1 + r))), (1, .int a1)] F dX0_beginQuarter_1 (lt_kn hn (by decide)) rfl rfl ?_
  refine g_iconst 3 (v := 0) F dX0_beginQuarter_2 (by decide) rfl ?_
  refine g_istore_n 4 [(3, .int 0), (2, .int 0), (0, .ref (cAf B (1 + r))), (1, .int a1)] F dX0_beginQuarter_3 (lt_kn hn (by decide)) rfl rfl ?_
  exact G.lvs [2, 3, 1, 0] rfl (L_4 fu S a1 0 0 hf)
theorem c_X0_beginQuarter (l : Launch) (B : CB) (sa : Nat → Nat) (h : Nat → Bool) (lk : Nat × Nat) (hw : cWf h lk) (A : Nat → Prop) (S : CS) (r : Nat) (a1 : Int32) (hr : r < 2) (q : Int32 × CS) (hf : f_X0_beginQuarter h S r a1 = some q) : Ci l yX0_beginQuarter cX0_beginQuarter 5 (some .int) 1 23 (cX B A sa h lk) (cKf B A) A S [.ref (cAf B (1 + r)), .int a1] q.1 q.2 := by
  refine met_i (by decide +kernel) (Nat.le_of_ble_eq_true rfl) (fun K hl hA hn F hR => ?_)
  subst hl; subst hA
  exact w_X0_beginQuarter B sa h lk hw K F hn S r a1 hr q hf hR
set_option maxHeartbeats 4000000 in
set_option maxRecDepth 100000 in
theorem w_X0_goOn (B : CB) (sa : Nat → Nat) (h : Nat → Bool) (lk : Nat × Nat) (hw : cWf h lk) (K : Ctx) (F : Fx K cX0_goOn RX0 (cKf B (kA K)) 2 47) (hn : kn K = 6) (S : CS) (r : Nat) (a1 : Int32) (a2 : Int32) (hr : r < 2) (q : Int32 × CS) (hf : f_X0_goOn h S r a1 a2 = some q) (hR : ∀ (pc : Nat) (lv : List (Nat × Value)), decode cX0_goOn pc = .ok (.ireturn, 1) → G K (cX B (kA K) sa h lk) 0 0 pc q.2 lv [.int q.1]) : G K (cX B (kA K) sa h lk) 0 0 0 S [(0, .ref (cAf B (1 + r))), (1, .int a1), (2, .int a2)] [] := by
  have hok := cKf_ok B (kA K)
  have L_46 : ∀ (n : Nat) (S : CS) (x1 : Int32) (x2 : Int32) (x3 : Int32) (x4 : Int32) (x5 : Int32), l_X0_goOn_46 h r n S x1 x2 x3 x4 x5 = some q → G K (cX B (kA K) sa h lk) 0 0 46 S [(0, .ref (cAf B (1 + r))), (1, .int x1), (2, .int x2), (3, .int x3), (4, .int x4), (5, .int x5)] [] := by
    intro n
    induction n with
    | zero =>
      intro S x1 x2 x3 x4 x5 hf
      rw [l_X0_goOn_46] at hf
      cases hf
    | succ n ih =>
      intro S x1 x2 x3 x4 x5 hf
      rw [l_X0_goOn_46] at hf
      refine g_iload 48 5 F dX0_goOn_46 rfl rfl ?_
      refine g_iload 50 4 F dX0_goOn_48 rfl rfl ?_
      refine g_icmp_gt 68 53 F dX0_goOn_50 rfl rfl hf (fun _ hf => ?_) (fun _ hf => ?_)
      · refine g_aload_n 69 0 F dX0_goOn_68 rfl rfl ?_
        refine g_iload_n 70 1 F dX0_goOn_69 rfl rfl ?_
        refine cp_X0_day 73 F hr fl_X0_34 dX0_goOn_70 rfl ?_
        refine g_aload_n 74 0 F dX0_goOn_73 rfl rfl ?_
        refine g_iload_n 75 2 F dX0_goOn_74 rfl rfl ?_
        refine cp_X0_hour 78 F hr fl_X0_37 dX0_goOn_75 rfl ?_
        refine g_iload_n 79 3 F dX0_goOn_78 rfl rfl ?_
        obtain rfl := Option.some.inj hf
        exact hR _ _ dX0_goOn_79
      · refine g_iload_n 54 3 F dX0_goOn_53 rfl rfl ?_
        refine g_aload_n 55 0 F dX0_goOn_54 rfl rfl ?_
        refine g_iload 57 5 F dX0_goOn_55 rfl rfl ?_
        obtain ⟨q1, e2, hf⟩ := op_bd hf
        refine g_cVi 60 (st := [.int x3]) F hok (c_X0_beginQuarter (kl K) B sa h lk hw (kA K) S r x5 hr q1 e2) wy_X0_beginQuarter ml_X0_82 (c_rc_X0 F hr) ⟨Nat.le_of_ble_eq_true rfl, Nat.le_of_ble_eq_true rfl⟩ rfl rfl (Nat.le_of_ble_eq_true rfl) ⟨Nat.zero_le _, Nat.zero_le _⟩ dX0_goOn_57 rfl ?_
        refine g_iadd 61 F dX0_goOn_60 rfl ?_
        refine g_istore_n 62 [(3, .int (x3 + q1.1)), (0, .ref (cAf B (1 + r))), (1, .int x1), (2, .int x2), (4, .int x4), (5, .int x5)] F dX0_goOn_61 (lt_kn hn (by decide)) rfl rfl ?_
        refine g_iinc 65 5 (x5 + 1) [(5, .int (x5 + 1)), (3, .int (x3 + q1.1)), (0, .ref (cAf B (1 + r))), (1, .int x1), (2, .int x2), (4, .int x4)] F dX0_goOn_62 rfl rfl (lt_kn hn (by decide)) rfl rfl ?_
        refine g_goto 46 F dX0_goOn_65 rfl ?_
        exact G.lvs [2, 3, 4, 1, 5, 0] rfl (ih q1.2 x1 x2 (x3 + q1.1) x4 (x5 + 1) hf)
  unfold f_X0_goOn at hf
  refine g_iload_n 1 1 F dX0_goOn_0 rfl rfl ?_
  refine g_cSNi 4 (st := []) F hok (c_X5_canBeDay (kl K) B sa h lk hw (kA K) S a1 _ rfl) ws_X5_canBeDay (F.2.2.2.2.2.1.2.1 _ nl_X0_72) ⟨Nat.le_of_ble_eq_true rfl, Nat.le_of_ble_eq_true rfl⟩ rfl rfl (Nat.le_of_ble_eq_true rfl) ⟨Nat.zero_le _, Nat.zero_le _⟩ dX0_goOn_1 rfl ?_
  refine g_ifeq_b 14 7 F dX0_goOn_4 rfl rfl hf (fun _ hf => ?_) (fun _ hf => ?_)
  · refine g_iconst 15 (v := (-1)) F dX0_goOn_14 (by decide) rfl ?_
    obtain rfl := Option.some.inj hf
    exact hR _ _ dX0_goOn_15
  · refine g_iload_n 8 2 F dX0_goOn_7 rfl rfl ?_
    refine g_cSNi 11 (st := []) F hok (c_X5_canBeHour (kl K) B sa h lk hw (kA K) S a2 _ rfl) ws_X5_canBeHour (F.2.2.2.2.2.1.2.1 _ nl_X0_75) ⟨Nat.le_of_ble_eq_true rfl, Nat.le_of_ble_eq_true rfl⟩ rfl rfl (Nat.le_of_ble_eq_true rfl) ⟨Nat.zero_le _, Nat.zero_le _⟩ dX0_goOn_8 rfl ?_
    refine g_ifne_b 16 14 F dX0_goOn_11 rfl rfl hf (fun _ hf => ?_) (fun _ hf => ?_)
    · refine g_aload_n 17 0 F dX0_goOn_16 rfl rfl ?_
      refine g_iload_n 18 1 F dX0_goOn_17 rfl rfl ?_
      refine g_iload_n 19 2 F dX0_goOn_18 rfl rfl ?_
      refine g_cVi 22 (st := []) F hok (c_X0_hoursTo (kl K) B sa h lk hw (kA K) S r a1 a2 hr _ rfl) wy_X0_hoursTo ml_X0_78 (c_rc_X0 F hr) ⟨Nat.le_of_ble_eq_true rfl, Nat.le_of_ble_eq_true rfl⟩ rfl rfl (Nat.le_of_ble_eq_true rfl) ⟨Nat.zero_le _, Nat.zero_le _⟩ dX0_goOn_19 rfl ?_
      refine g_if_gt 27 25 F dX0_goOn_22 rfl rfl hf (fun _ hf => ?_) (fun _ hf => ?_)
      · refine g_iconst 28 (v := 0) F dX0_goOn_27 (by decide) rfl ?_
        refine g_istore_n 29 [(3, .int 0), (0, .ref (cAf B (1 + r))), (1, .int a1), (2, .int a2)] F dX0_goOn_28 (lt_kn hn (by decide)) rfl rfl ?_
        refine g_iload_n 30 2 F dX0_goOn_29 rfl rfl ?_
        refine g_bipush 32 (v := 30) F dX0_goOn_30 (by decide) rfl ?_
        refine g_idiv 33 F dX0_goOn_32 (by decide) rfl ?_
        refine g_istore 35 [(4, .int (a1 / 30)), (3, .int 0), (0, .ref (cAf B (1 + r))), (1, .int a1), (2, .int a2)] F dX0_goOn_33 (lt_kn hn (by decide)) rfl rfl ?_
        refine g_aload_n 36 2 F dX0_goOn_35 rfl rfl ?_
        refine cg_X0_day 39 F hr fl_X0_34 dX0_goOn_36 rfl ?_
        refine g_bipush 41 (v := 30) F dX0_goOn_39 (by decide) rfl ?_
        refine g_idiv 42 F dX0_goOn_41 (by decide) rfl ?_
        refine g_iconst 43 (v := 1) F dX0_goOn_42 (by decide) rfl ?_
        refine g_iadd 44 F dX0_goOn_43 rfl ?_
        refine g_istore 46 [(5, .int (((cR S r 0) / 30) + 1)), (4, .int (a1 / 30)), (3, .int 0), (0, .ref (cAf B (1 + r))), (1, .int a1), (2, .int a2)] F dX0_goOn_44 (lt_kn hn (by decide)) rfl rfl ?_
        exact G.lvs [3, 4, 5, 2, 1, 0] rfl (L_46 fu S a1 a2 0 (a1 / 30) (((cR S r 0) / 30) + 1) hf)
      · refine g_iconst 26 (v := (-1)) F dX0_goOn_25 (by decide) rfl ?_
        obtain rfl := Option.some.inj hf
        exact hR _ _ dX0_goOn_26
    · refine g_iconst 15 (v := (-1)) F dX0_goOn_14 (by decide) rfl ?_
      obtain rfl := Option.some.inj hf
      exact hR _ _ dX0_goOn_15
theorem c_X0_goOn (l : Launch) (B : CB) (sa : Nat → Nat) (h : Nat → Bool) (lk : Nat × Nat) (hw : cWf h lk) (A : Nat → Prop) (S : CS) (r : Nat) (a1 : Int32) (a2 : Int32) (hr : r < 2) (q : Int32 × CS) (hf : f_X0_goOn h S r a1 a2 = some q) : Ci l yX0_goOn cX0_goOn 6 (some .int) 2 47 (cX B A sa h lk) (cKf B A) A S [.ref (cAf B (1 + r)), .int a1, .int a2] q.1 q.2 := by
  refine met_i (by decide +kernel) (Nat.le_of_ble_eq_true rfl) (fun K hl hA hn F hR => ?_)
  subst hl; subst hA
  exact w_X0_goOn B sa h lk hw K F hn S r a1 a2 hr q hf hR
set_option maxHeartbeats 4000000 in
set_option maxRecDepth 100000 in
theorem w_X5_canBeSpan (B : CB) (sa : Nat → Nat) (h : Nat → Bool) (lk : Nat × Nat) (hw : cWf h lk) (K : Ctx) (F : Fx K cX5_canBeSpan RX5 (cKf B (kA K)) 0 0) (hn : kn K = 2) (S : CS) (a1 : Int32) (a2 : Int32) (q : Bool) (hf : f_X5_canBeSpan a1 a2 = q) (hR : ∀ (pc : Nat) (lv : List (Nat × Value)), decode cX5_canBeSpan pc = .ok (.ireturn, 1) → G K (cX B (kA K) sa h lk) 0 0 pc S lv [.int (bI q)]) : G K (cX B (kA K) sa h lk) 0 0 0 S [(0, .int a1), (1, .int a2)] [] := by
  have hok := cKf_ok B (kA K)
  unfold f_X5_canBeSpan at hf
  refine g_iload_n 1 0 F dX5_canBeSpan_0 rfl rfl ?_
  refine g_if_lt 28 4 F dX5_canBeSpan_1 rfl rfl hf (fun _ hf => ?_) (fun _ hf => ?_)
  · refine g_iconst 29 (v := 0) F dX5_canBeSpan_28 (by decide) rfl ?_
    subst hf
    exact hR _ _ dX5_canBeSpan_29
  · refine g_iload_n 5 1 F dX5_canBeSpan_4 rfl rfl ?_
    refine g_iload_n 6 0 F dX5_canBeSpan_5 rfl rfl ?_
    refine g_icmp_lt 28 9 F dX5_canBeSpan_6 rfl rfl hf (fun _ hf => ?_) (fun _ hf => ?_)
    · refine g_iconst 29 (v := 0) F dX5_canBeSpan_28 (by decide) rfl ?_
      subst hf
      exact hR _ _ dX5_canBeSpan_29
    · refine g_iload_n 10 1 F dX5_canBeSpan_9 rfl rfl ?_
      refine g_sipush 13 (v := 1100) F dX5_canBeSpan_10 (by decide) rfl ?_
      refine g_icmp_ge 28 16 F dX5_canBeSpan_13 rfl rfl hf (fun _ hf => ?_) (fun _ hf => ?_)
      · refine g_iconst 29 (v := 0) F dX5_canBeSpan_28 (by decide) rfl ?_
        subst hf
        exact hR _ _ dX5_canBeSpan_29
      · refine g_iload_n 17 1 F dX5_canBeSpan_16 rfl rfl ?_
        refine g_iload_n 18 0 F dX5_canBeSpan_17 rfl rfl ?_
        refine g_isub 19 F dX5_canBeSpan_18 rfl ?_
        refine g_bipush 21 (v := 60) F dX5_canBeSpan_19 (by decide) rfl ?_
        refine g_icmp_ge 28 24 F dX5_canBeSpan_21 rfl rfl hf (fun _ hf => ?_) (fun _ hf => ?_)
        · refine g_iconst 29 (v := 0) F dX5_canBeSpan_28 (by decide) rfl ?_
          subst hf
          exact hR _ _ dX5_canBeSpan_29
        · refine g_iconst 25 (v := 1) F dX5_canBeSpan_24 (by decide) rfl ?_
          refine g_goto 29 F dX5_canBeSpan_25 rfl ?_
          subst hf
          exact hR _ _ dX5_canBeSpan_29
theorem c_X5_canBeSpan (l : Launch) (B : CB) (sa : Nat → Nat) (h : Nat → Bool) (lk : Nat × Nat) (hw : cWf h lk) (A : Nat → Prop) (S : CS) (a1 : Int32) (a2 : Int32) (q : Bool) (hf : f_X5_canBeSpan a1 a2 = q) : Ci l yX5_canBeSpan cX5_canBeSpan 2 (some .boolean) 0 0 (cX B A sa h lk) (cKf B A) A S [.int a1, .int a2] (bI q) S := by
  refine met_z (by decide +kernel) (Nat.le_of_ble_eq_true rfl) (fun K hl hA hn F hR => ?_)
  subst hl; subst hA
  exact w_X5_canBeSpan B sa h lk hw K F hn S a1 a2 q hf hR
set_option maxHeartbeats 4000000 in
set_option maxRecDepth 100000 in
theorem w_X5_canBeFiledHour (B : CB) (sa : Nat → Nat) (h : Nat → Bool) (lk : Nat × Nat) (hw : cWf h lk) (K : Ctx) (F : Fx K cX5_canBeFiledHour RX5 (cKf B (kA K)) 0 0) (hn : kn K = 1) (S : CS) (a1 : Int32) (q : Bool) (hf : f_X5_canBeFiledHour a1 = q) (hR : ∀ (pc : Nat) (lv : List (Nat × Value)), decode cX5_canBeFiledHour pc = .ok (.ireturn, 1) → G K (cX B (kA K) sa h lk) 0 0 pc S lv [.int (bI q)]) : G K (cX B (kA K) sa h lk) 0 0 0 S [(0, .int a1)] [] := by
  have hok := cKf_ok B (kA K)
  unfold f_X5_canBeFiledHour at hf
  refine g_iload_n 1 0 F dX5_canBeFiledHour_0 rfl rfl ?_
  refine g_iconst 2 (v := 5) F dX5_canBeFiledHour_1 (by decide) rfl ?_
  refine g_icmp_lt 15 5 F dX5_canBeFiledHour_2 rfl rfl hf (fun _ hf => ?_) (fun _ hf => ?_)
  · refine g_iconst 16 (v := 0) F dX5_canBeFiledHour_15 (by decide) rfl ?_
    subst hf
    exact hR _ _ dX5_canBeFiledHour_16
  · refine g_iload_n 6 0 F dX5_canBeFiledHour_5 rfl rfl ?_
    refine g_bipush 8 (v := 22) F dX5_canBeFiledHour_6 (by decide) rfl ?_
    refine g_icmp_gt 15 11 F dX5_canBeFiledHour_8 rfl rfl hf (fun _ hf => ?_) (fun _ hf => ?_)
    · refine g_iconst 16 (v := 0) F dX5_canBeFiledHour_15 (by decide) rfl ?_
      subst hf
      exact hR _ _ dX5_canBeFiledHour_16
    · refine g_iconst 12 (v := 1) F dX5_canBeFiledHour_11 (by decide) rfl ?_
      refine g_goto 16 F dX5_canBeFiledHour_12 rfl ?_
      subst hf
      exact hR _ _ dX5_canBeFiledHour_16
theorem c_X5_canBeFiledHour (l : Launch) (B : CB) (sa : Nat → Nat) (h : Nat → Bool) (lk : Nat × Nat) (hw : cWf h lk) (A : Nat → Prop) (S : CS) (a1 : Int32) (q : Bool) (hf : f_X5_canBeFiledHour a1 = q) : Ci l yX5_canBeFiledHour cX5_canBeFiledHour 1 (some .boolean) 0 0 (cX B A sa h lk) (cKf B A) A S [.int a1] (bI q) S := by
  refine met_z (by decide +kernel) (Nat.le_of_ble_eq_true rfl) (fun K hl hA hn F hR => ?_)
  subst hl; subst hA
  exact w_X5_canBeFiledHour B sa h lk hw K F hn S a1 q hf hR
set_option maxHeartbeats 4000000 in
set_option maxRecDepth 100000 in
theorem w_X5_canBePlace (B : CB) (sa : Nat → Nat) (h : Nat → Bool) (lk : Nat × Nat) (hw : cWf h lk) (K : Ctx) (F : Fx K cX5_canBePlace RX5 (cKf B (kA K)) 0 0) (hn : kn K = 1) (S : CS) (a1 : Int32) (q : Bool) (hf : f_X5_canBePlace a1 = q) (hR : ∀ (pc : Nat) (lv : List (Nat × Value)), decode cX5_canBePlace pc = .ok (.ireturn, 1) → G K (cX B (kA K) sa h lk) 0 0 pc S lv [.int (bI q)]) : G K (cX B (kA K) sa h lk) 0 0 0 S [(0, .int a1)] [] := by
  have hok := cKf_ok B (kA K)
  unfold f_X5_canBePlace at hf
  refine g_iload_n 1 0 F dX5_canBePlace_0 rfl rfl ?_
  refine g_if_lt 14 4 F dX5_canBePlace_1 rfl rfl hf (fun _ hf => ?_) (fun _ hf => ?_)
  · refine g_iconst 15 (v := 0) F dX5_canBePlace_14 (by decide) rfl ?_
    subst hf
    exact hR _ _ dX5_canBePlace_15
  · refine g_iload_n 5 0 F dX5_canBePlace_4 rfl rfl ?_
    refine g_bipush 7 (v := 10) F dX5_canBePlace_5 (by decide) rfl ?_
    refine g_icmp_ge 14 10 F dX5_canBePlace_7 rfl rfl hf (fun _ hf => ?_) (fun _ hf => ?_)
    · refine g_iconst 15 (v := 0) F dX5_canBePlace_14 (by decide) rfl ?_
      subst hf
      exact hR _ _ dX5_canBePlace_15
    · refine g_iconst 11 (v := 1) F dX5_canBePlace_10 (by decide) rfl ?_
      refine g_goto 15 F dX5_canBePlace_11 rfl ?_
      subst hf
      exact hR _ _ dX5_canBePlace_15
theorem c_X5_canBePlace (l : Launch) (B : CB) (sa : Nat → Nat) (h : Nat → Bool) (lk : Nat × Nat) (hw : cWf h lk) (A : Nat → Prop) (S : CS) (a1 : Int32) (q : Bool) (hf : f_X5_canBePlace a1 = q) : Ci l yX5_canBePlace cX5_canBePlace 1 (some .boolean) 0 0 (cX B A sa h lk) (cKf B A) A S [.int a1] (bI q) S := by
  refine met_z (by decide +kernel) (Nat.le_of_ble_eq_true rfl) (fun K hl hA hn F hR => ?_)
  subst hl; subst hA
  exact w_X5_canBePlace B sa h lk hw K F hn S a1 q hf hR
set_option maxHeartbeats 4000000 in
set_option maxRecDepth 100000 in
theorem w_X1_hourOf (B : CB) (sa : Nat → Nat) (h : Nat → Bool) (lk : Nat × Nat) (hw : cWf h lk) (K : Ctx) (F : Fx K cX1_hourOf RX1 (cKf B (kA K)) 0 0) (hn : kn K = 1) (S : CS) (a1 : Int32) (q : Int32) (hf : f_X1_hourOf a1 = q) (hR : ∀ (pc : Nat) (lv : List (Nat × Value)), decode cX1_hourOf pc = .ok (.ireturn, 1) → G K (cX B (kA K) sa h lk) 0 0 pc S lv [.int q]) : G K (cX B (kA K) sa h lk) 0 0 0 S [(0, .int a1)] [] := by
  have hok := cKf_ok B (kA K)
  unfold f_X1_hourOf at hf
  refine g_iload_n 1 0 F dX1_hourOf_0 rfl rfl ?_
  refine g_iconst 2 (v := 1) F dX1_hourOf_1 (by decide) rfl ?_
  refine g_isub 3 F dX1_hourOf_2 rfl ?_
  refine g_bipush 5 (v := 10) F dX1_hourOf_3 (by decide) rfl ?_
  refine g_idiv 6 F dX1_hourOf_5 (by decide) rfl ?_
  subst hf
  exact hR _ _ dX1_hourOf_6
theorem c_X1_hourOf (l : Launch) (B : CB) (sa : Nat → Nat) (h : Nat → Bool) (lk : Nat × Nat) (hw : cWf h lk) (A : Nat → Prop) (S : CS) (a1 : Int32) (q : Int32) (hf : f_X1_hourOf a1 = q) : Ci l yX1_hourOf cX1_hourOf 1 (some .int) 0 0 (cX B A sa h lk) (cKf B A) A S [.int a1] q S := by
  refine met_i (by decide +kernel) (Nat.le_of_ble_eq_true rfl) (fun K hl hA hn F hR => ?_)
  subst hl; subst hA
  exact w_X1_hourOf B sa h lk hw K F hn S a1 q hf hR
set_option maxHeartbeats 4000000 in
set_option maxRecDepth 100000 in
theorem w_X0_mayStart (B : CB) (sa : Nat → Nat) (h : Nat → Bool) (lk : Nat × Nat) (hw : cWf h lk) (K : Ctx) (F : Fx K cX0_mayStart RX0 (cKf B (kA K)) 1 20) (hn : kn K = 5) (S : CS) (r : Nat) (j : Nat) (a2 : Int32) (a3 : Int32) (hr : r < 2) (hj : h j = true) (q : Bool) (hf : f_X0_mayStart S r j a2 a3 = some q) (hR : ∀ (pc : Nat) (lv : List (Nat × Value)), decode cX0_mayStart pc = .ok (.ireturn, 1) → G K (cX B (kA K) sa h lk) 0 0 pc S lv [.int (bI q)]) : G K (cX B (kA K) sa h lk) 0 0 0 S [(0, .ref (cAf B (1 + r))), (1, .ref (sa (5 * j))), (2, .int a2), (3, .int a3)] [] := by
  have hok := cKf_ok B (kA K)
  unfold f_X0_mayStart at hf
  refine g_iload_n 1 2 F dX0_mayStart_0 rfl rfl ?_
  refine g_aload_n 2 0 F dX0_mayStart_1 rfl rfl ?_
  refine cg_X0_day 5 F hr fl_X0_34 dX0_mayStart_2 rfl ?_
  refine g_icmp_eq 22 8 F dX0_mayStart_5 rfl rfl hf (fun _ hf => ?_) (fun _ hf => ?_)
  · refine g_aload_n 23 1 F dX0_mayStart_22 rfl rfl ?_
    refine cg_X1_slots 26 F hw hj fl_X0_111 dX0_mayStart_23 rfl ?_
    refine g_iload_n 27 2 F dX0_mayStart_26 rfl rfl ?_
    obtain ⟨h1, hf⟩ := op_ok hf
    refine cl_Q3 28 F hw hj h1 dX0_mayStart_27 rfl ?_
    refine g_istore 30 [(4, .int (cQ S j 3 a2.toNatClampNeg)), (0, .ref (cAf B (1 + r))), (1, .ref (sa (5 * j))), (2, .int a2), (3, .int a3)] F dX0_mayStart_28 (lt_kn hn (by decide)) rfl rfl ?_
    refine g_iload_n 31 4 F dX0_mayStart_30 rfl rfl ?_
    refine g_aload_n 32 1 F dX0_mayStart_31 rfl rfl ?_
    refine cg_X0_hour 35 F hr fl_X0_37 dX0_mayStart_32 rfl ?_
    refine g_icmp_le 59 38 F dX0_mayStart_35 rfl rfl hf (fun _ hf => ?_) (fun _ hf => ?_)
    · refine g_iconst 60 (v := 0) F dX0_mayStart_59 (by decide) rfl ?_
      obtain rfl := Option.some.inj hf
      exact hR _ _ dX0_mayStart_60
    · refine g_iload 40 0 F dX0_mayStart_38 rfl rfl ?_
      refine g_if_eq 55 43 F dX0_mayStart_40 rfl rfl hf (fun _ hf => ?_) (fun _ hf => ?_)
      · refine g_iconst 56 (v := 1) F dX0_mayStart_55 (by decide) rfl ?_
        refine g_goto 60 F dX0_mayStart_56 rfl ?_
        obtain rfl := Option.some.inj hf
        exact hR _ _ dX0_mayStart_60
      · refine g_iload 45 0 F dX0_mayStart_43 rfl rfl ?_
        refine g_cSi 48 (st := []) F hok (c_X1_hourOf (kl K) B sa h lk hw (kA K) S (cQ S j 3 a2.toNatClampNeg) _ rfl) ws_X1_hourOf ml_X0_114 ⟨Nat.le_of_ble_eq_true rfl, Nat.le_of_ble_eq_true rfl⟩ rfl rfl (Nat.le_of_ble_eq_true rfl) ⟨Nat.zero_le _, Nat.zero_le _⟩ dX0_mayStart_45 rfl ?_
        refine g_aload_n 49 1 F dX0_mayStart_48 rfl rfl ?_
        refine cg_X0_hour 52 F hr fl_X0_37 dX0_mayStart_49 rfl ?_
        refine g_icmp_le 59 55 F dX0_mayStart_52 rfl rfl hf (fun _ hf => ?_) (fun _ hf => ?_)
        · refine g_iconst 60 (v := 0) F dX0_mayStart_59 (by decide) rfl ?_
          obtain rfl := Option.some.inj hf
          exact hR _ _ dX0_mayStart_60
        · refine g_iconst 56 (v := 1) F dX0_mayStart_55 (by decide) rfl ?_
          refine g_goto 60 F dX0_mayStart_56 rfl ?_
          obtain rfl := Option.some.inj hf
          exact hR _ _ dX0_mayStart_60
  · refine g_iload_n 9 2 F dX0_mayStart_8 rfl rfl ?_
    refine g_aload_n 10 0 F dX0_mayStart_9 rfl rfl ?_
    refine cg_X0_day 13 F hr fl_X0_34 dX0_mayStart_10 rfl ?_
    refine g_icmp_le 20 16 F dX0_mayStart_13 rfl rfl hf (fun _ hf => ?_) (fun _ hf => ?_)
    · refine g_iconst 21 (v := 0) F dX0_mayStart_20 (by decide) rfl ?_
      obtain rfl := Option.some.inj hf
      exact hR _ _ dX0_mayStart_21
    · refine g_iconst 17 (v := 1) F dX0_mayStart_16 (by decide) rfl ?_
      refine g_goto 21 F dX0_mayStart_17 rfl ?_
      obtain rfl := Option.some.inj hf
      exact hR _ _ dX0_mayStart_21
theorem c_X0_mayStart (l : Launch) (B : CB) (sa : Nat → Nat) (h : Nat → Bool) (lk : Nat × Nat) (hw : cWf h lk) (A : Nat → Prop) (S : CS) (r : Nat) (j : Nat) (a2 : Int32) (a3 : Int32) (hr : r < 2) (hj : h j = true) (q : Bool) (hf : f_X0_mayStart S r j a2 a3 = some q) : Ci l yX0_mayStart cX0_mayStart 5 (some .boolean) 1 20 (cX B A sa h lk) (cKf B A) A S [.ref (cAf B (1 + r)), .ref (sa (5 * j)), .int a2, .int a3] (bI q) S := by
  refine met_z (by decide +kernel) (Nat.le_of_ble_eq_true rfl) (fun K hl hA hn F hR => ?_)
  subst hl; subst hA
  exact w_X0_mayStart B sa h lk hw K F hn S r j a2 a3 hr hj q hf hR
set_option maxHeartbeats 4000000 in
set_option maxRecDepth 100000 in
theorem w_X1_slotOf (B : CB) (sa : Nat → Nat) (h : Nat → Bool) (lk : Nat × Nat) (hw : cWf h lk) (K : Ctx) (F : Fx K cX1_slotOf RX1 (cKf B (kA K)) 0 0) (hn : kn K = 2) (S : CS) (a1 : Int32) (a2 : Int32) (q : Int32) (hf : f_X1_slotOf a1 a2 = q) (hR : ∀ (pc : Nat) (lv : List (Nat × Value)), decode cX1_slotOf pc = .ok (.ireturn, 1) → G K (cX B (kA K) sa h lk) 0 0 pc S lv [.int q]) : G K (cX B (kA K) sa h lk) 0 0 0 S [(0, .int a1), (1, .int a2)] [] := by
  have hok := cKf_ok B (kA K)
  unfold f_X1_slotOf at hf
  refine g_iconst 1 (v := 1) F dX1_slotOf_0 (by decide) rfl ?_
  refine g_iload_n 2 0 F dX1_slotOf_1 rfl rfl ?_
  refine g_bipush 4 (v := 10) F dX1_slotOf_2 (by decide) rfl ?_
  refine g_imul 5 F dX1_slotOf_4 rfl ?_
  refine g_iadd 6 F dX1_slotOf_5 rfl ?_
  refine g_iload_n 7 1 F dX1_slotOf_6 rfl rfl ?_
  refine g_iadd 8 F dX1_slotOf_7 rfl ?_
  subst hf
  exact hR _ _ dX1_slotOf_8
theorem c_X1_slotOf (l : Launch) (B : CB) (sa : Nat → Nat) (h : Nat → Bool) (lk : Nat × Nat) (hw : cWf h lk) (A : Nat → Prop) (S : CS) (a1 : Int32) (a2 : Int32) (q : Int32) (hf : f_X1_slotOf a1 a2 = q) : Ci l yX1_slotOf cX1_slotOf 2 (some .int) 0 0 (cX B A sa h lk) (cKf B A) A S [.int a1, .int a2] q S := by
  refine met_i (by decide +kernel) (Nat.le_of_ble_eq_true rfl) (fun K hl hA hn F hR => ?_)
  subst hl; subst hA
  exact w_X1_slotOf B sa h lk hw K F hn S a1 a2 q hf hR

set_option maxHeartbeats 4000000 in
set_option maxRecDepth 100000 in
theorem w_X0_noteLateChange (B : CB) (sa : Nat → Nat) (h : Nat → Bool) (lk : Nat × Nat) (hw : cWf h lk) (K : Ctx) (F : Fx K cX0_noteLateChange RX0 (cKf B (kA K)) 1 22) (hn : kn K = 2) (S : CS) (r : Nat) (j : Nat) (hr : r < 2) (hj : h j = true) (q : CS) (hf : f_X0_noteLateChange S r j = some q) (hR : ∀ (pc : Nat) (lv : List (Nat × Value)), decode cX0_noteLateChange pc = .ok (.return_, 1) → G K (cX B (kA K) sa h lk) 0 0 pc q lv []) : G K (cX B (kA K) sa h lk) 0 0 0 S [(0, .ref (cAf B (1 + r))), (1, .ref (sa (5 * j)))] [] := by
  have hok := cKf_ok B (kA K)
  unfold f_X0_noteLateChange at hf
  refine g_aload_n 1 1 F dX0_noteLateChange_0 rfl rfl ?_
  refine g_dup 2 F dX0_noteLateChange_1 rfl rfl ?_
  refine cg_X1_late 5 F hw hj fl_X0_86 dX0_noteLateChange_2 rfl ?_
  refine g_iconst 6 (v := 1) F dX0_noteLateChange_5 (by decide) rfl ?_
  refine g_iadd 7 F dX0_noteLateChange_6 rfl ?_
  refine cp_X1_late 10 F hw hj fl_X0_86 dX0_noteLateChange_7 rfl ?_
  refine g_aload_n 11 1 F dX0_noteLateChange_10 rfl rfl ?_
  refine cg_X1_late 14 F hw hj fl_X0_86 dX0_noteLateChange_11 rfl ?_
  refine g_aload_n 15 0 F dX0_noteLateChange_14 rfl rfl ?_
  refine cg_X0_settings 18 F hr fl_X0_18 dX0_noteLateChange_15 rfl ?_
  refine g_iconst 19 (v := 4) F dX0_noteLateChange_18 (by decide) rfl ?_
  refine clK_As 20 4 F hr (by decide) (by decide) dX0_noteLateChange_19 rfl ?_
  refine g_icmp_le 33 23 F dX0_noteLateChange_20 rfl rfl hf (fun _ hf => ?_) (fun _ hf => ?_)
  · obtain rfl := Option.some.inj hf
    exact hR _ _ dX0_noteLateChange_33
  · refine g_aload_n 24 1 F dX0_noteLateChange_23 rfl rfl ?_
    refine g_aload_n 25 0 F dX0_noteLateChange_24 rfl rfl ?_
    refine cg_X0_day 28 F hr fl_X0_34 dX0_noteLateChange_25 rfl ?_
    refine g_iconst 29 (v := 1) F dX0_noteLateChange_28 (by decide) rfl ?_
    obtain ⟨q1, e2, hf⟩ := op_bd hf
    refine g_cVi 32 (st := []) F hok (c_X1_note (kl K) B sa h lk hw (kA K) (sP S j 2 ((cP S j 2) + 1)) j (cR (sP S j 2 ((cP S j 2) + 1)) r 0) 1 hj q1 e2) wy_X1_note ml_X0_92 (c_rc_X1 F hw hj) ⟨Nat.le_of_ble_eq_true rfl, Nat.le_of_ble_eq_true rfl⟩ rfl rfl (Nat.le_of_ble_eq_true rfl) ⟨Nat.zero_le _, Nat.zero_le _⟩ dX0_noteLateChange_29 rfl ?_
    refine g_pop 33 F dX0_noteLateChange_32 rfl rfl ?_
    obtain rfl := Option.some.inj hf
    exact hR _ _ dX0_noteLateChange_33
theorem c_X0_noteLateChange (l : Launch) (B : CB) (sa : Nat → Nat) (h : Nat → Bool) (lk : Nat × Nat) (hw : cWf h lk) (A : Nat → Prop) (S : CS) (r : Nat) (j : Nat) (hr : r < 2) (hj : h j = true) (q : CS) (hf : f_X0_noteLateChange S r j = some q) : Cv l yX0_noteLateChange cX0_noteLateChange 2 none 1 22 (cX B A sa h lk) (cKf B A) A S [.ref (cAf B (1 + r)), .ref (sa (5 * j))] q := by
  refine met_v (by decide +kernel) (Nat.le_of_ble_eq_true rfl) (fun K hl hA hn F hR => ?_)
  subst hl; subst hA
  exact w_X0_noteLateChange B sa h lk hw K F hn S r j hr hj q hf hR
set_option maxHeartbeats 4000000 in
set_option maxRecDepth 100000 in
theorem w_X0_enterSpan (B : CB) (sa : Nat → Nat) (h : Nat → Bool) (lk : Nat × Nat) (hw : cWf h lk) (K : Ctx) (F : Fx K cX0_enterSpan RX0 (cKf B (kA K)) 2 44) (hn : kn K = 12) (S : CS) (r : Nat) (a1 : Int32) (a2 : Int32) (a3 : Int32) (a4 : Int32) (a5 : Int32) (hr : r < 2) (q : Int32 × CS) (hf : f_X0_enterSpan h S r a1 a2 a3 a4 a5 = some q) (hR : ∀ (pc : Nat) (lv : List (Nat × Value)), decode cX0_enterSpan pc = .ok (.ireturn, 1) → G K (cX B (kA K) sa h lk) 0 0 pc q.2 lv [.int q.1]) : G K (cX B (kA K) sa h lk) 0 0 0 S [(0, .ref (cAf B (1 + r))), (1, .int a1), (2, .int a2), (3, .int a3), (4, .int a4), (5, .int a5)] [] := by
  have hok := cKf_ok B (kA K)
  have L_67 : ∀ (n : Nat) (S : CS) (x3 : Int32) (x4 : Int32) (x6 : Nat) (hx6 : h x6 = true) (x7 : Int32) (x8 : Int32) (x9 : Int32), l_X0_enterSpan_67 h r n S x3 x4 x6 x7 x8 x9 = some q → G K (cX B (kA K) sa h lk) 0 0 67 S [(0, .ref (cAf B (1 + r))), (3, .int x3), (4, .int x4), (6, .ref (sa (5 * x6))), (7, .int x7), (8, .int x8), (9, .int x9)] [] := by
    intro n
    induction n with
    | zero =>
      intro S x3 x4 x6 hx6 x7 x8 x9 hf
      rw [l_X0_enterSpan_67] at hf
      cases hf
    | succ n ih =>
      intro S x3 x4 x6 hx6 x7 x8 x9 hf
      rw [l_X0_enterSpan_67] at hf
      refine g_iload 69 6 F dX0_enterSpan_67 rfl rfl ?_
      refine g_iload_n 70 1 F dX0_enterSpan_69 rfl rfl ?_
      refine g_icmp_gt 149 73 F dX0_enterSpan_70 rfl rfl hf (fun _ hf => ?_) (fun _ hf => ?_)
      · refine g_iload 151 5 F dX0_enterSpan_149 rfl rfl ?_
        obtain rfl := Option.some.inj hf
        exact hR _ _ dX0_enterSpan_151
      · refine g_aload 75 3 F dX0_enterSpan_73 rfl rfl ?_
        refine cg_X1_slots 78 F hw hx6 fl_X0_111 dX0_enterSpan_75 rfl ?_
        refine g_iload 80 6 F dX0_enterSpan_78 rfl rfl ?_
        obtain ⟨h7, hf⟩ := op_ok hf
        refine cl_Q3 81 F hw hx6 h7 dX0_enterSpan_80 rfl ?_
        refine g_istore 83 [(10, .int (cQ S x6 3 x9.toNatClampNeg)), (0, .ref (cAf B (1 + r))), (3, .int x3), (4, .int x4), (6, .ref (sa (5 * x6))), (7, .int x7), (8, .int x8), (9, .int x9)] F dX0_enterSpan_81 (lt_kn hn (by decide)) rfl rfl ?_
        refine g_aload 85 4 F dX0_enterSpan_83 rfl rfl ?_
        refine cg_X1_slots 88 F hw hx6 fl_X0_111 dX0_enterSpan_85 rfl ?_
        refine g_iload 90 7 F dX0_enterSpan_88 rfl rfl ?_
        refine g_iload 92 5 F dX0_enterSpan_90 rfl rfl ?_
        obtain ⟨h8, hf⟩ := op_ok hf
        refine cs_Q3 93 F hw hx6 h8 dX0_enterSpan_92 rfl ?_
        refine g_iload 95 0 F dX0_enterSpan_93 rfl rfl ?_
        refine g_if_eq 143 98 F dX0_enterSpan_95 rfl rfl hf (fun _ hf => ?_) (fun _ hf => ?_)
        · refine g_iinc 146 7 (x9 + 1) [(9, .int (x9 + 1)), (10, .int (cQ S x6 3 x9.toNatClampNeg)), (0, .ref (cAf B (1 + r))), (3, .int x3), (4, .int x4), (6, .ref (sa (5 * x6))), (7, .int x7), (8, .int x8)] F dX0_enterSpan_143 rfl rfl (lt_kn hn (by decide)) rfl rfl ?_
          refine g_goto 67 F dX0_enterSpan_146 rfl ?_
          exact G.lvs [2, 3, 4, 5, 6, 7, 0] rfl (ih (sQ S x6 3 x9.toNatClampNeg x7) x3 x4 x6 hx6 x7 x8 (x9 + 1) hf)
        · refine g_iload 100 0 F dX0_enterSpan_98 rfl rfl ?_
          refine g_iload 102 5 F dX0_enterSpan_100 rfl rfl ?_
          refine g_icmp_eq 143 105 F dX0_enterSpan_102 rfl rfl hf (fun _ hf => ?_) (fun _ hf => ?_)
          · refine g_iinc 146 7 (x9 + 1) [(9, .int (x9 + 1)), (10, .int (cQ S x6 3 x9.toNatClampNeg)), (0, .ref (cAf B (1 + r))), (3, .int x3), (4, .int x4), (6, .ref (sa (5 * x6))), (7, .int x7), (8, .int x8)] F dX0_enterSpan_143 rfl rfl (lt_kn hn (by decide)) rfl rfl ?_
            refine g_goto 67 F dX0_enterSpan_146 rfl ?_
            exact G.lvs [2, 3, 4, 5, 6, 7, 0] rfl (ih (sQ S x6 3 x9.toNatClampNeg x7) x3 x4 x6 hx6 x7 x8 (x9 + 1) hf)
          · refine g_iinc 108 6 (x8 + 1) [(8, .int (x8 + 1)), (10, .int (cQ S x6 3 x9.toNatClampNeg)), (0, .ref (cAf B (1 + r))), (3, .int x3), (4, .int x4), (6, .ref (sa (5 * x6))), (7, .int x7), (9, .int x9)] F dX0_enterSpan_105 rfl rfl (lt_kn hn (by decide)) rfl rfl ?_
            refine g_iload 110 1 F dX0_enterSpan_108 rfl rfl ?_
            refine g_cSi 113 (st := []) F hok (c_X1_hourOf (kl K) B sa h lk hw (kA K) (sQ S x6 3 x9.toNatClampNeg x7) (cQ S x6 3 x9.toNatClampNeg) _ rfl) ws_X1_hourOf ml_X0_114 ⟨Nat.le_of_ble_eq_true rfl, Nat.le_of_ble_eq_true rfl⟩ rfl rfl (Nat.le_of_ble_eq_true rfl) ⟨Nat.zero_le _, Nat.zero_le _⟩ dX0_enterSpan_110 rfl ?_
            refine g_iload 115 4 F dX0_enterSpan_113 rfl rfl ?_
            refine c_min 118 (st := []) F ml_X0_117 (Nat.le_of_ble_eq_true rfl) (Nat.le_of_ble_eq_true rfl) ⟨Nat.zero_le _, Nat.zero_le _⟩ dX0_enterSpan_115 rfl ?_
            refine g_istore 120 [(11, .int (if x4 < (f_X1_hourOf (cQ S x6 3 x9.toNatClampNeg)) then x4 else (f_X1_hourOf (cQ S x6 3 x9.toNatClampNeg)))), (8, .int (x8 + 1)), (10, .int (cQ S x6 3 x9.toNatClampNeg)), (0, .ref (cAf B (1 + r))), (3, .int x3), (4, .int x4), (6, .ref (sa (5 * x6))), (7, .int x7), (9, .int x9)] F dX0_enterSpan_118 (lt_kn hn (by decide)) rfl rfl ?_
            refine g_aload_n 121 3 F dX0_enterSpan_120 rfl rfl ?_
            refine g_iload 123 8 F dX0_enterSpan_121 rfl rfl ?_
            refine g_iload 125 0 F dX0_enterSpan_123 rfl rfl ?_
            refine g_cVi 128 (st := []) F hok (c_X0_hoursTo (kl K) B sa h lk hw (kA K) (sQ S x6 3 x9.toNatClampNeg x7) r x9 (if x4 < (f_X1_hourOf (cQ S x6 3 x9.toNatClampNeg)) then x4 else (f_X1_hourOf (cQ S x6 3 x9.toNatClampNeg))) hr _ rfl) wy_X0_hoursTo ml_X0_78 (c_rc_X0 F hr) ⟨Nat.le_of_ble_eq_true rfl, Nat.le_of_ble_eq_true rfl⟩ rfl rfl (Nat.le_of_ble_eq_true rfl) ⟨Nat.zero_le _, Nat.zero_le _⟩ dX0_enterSpan_125 rfl ?_
            refine g_aload_n 129 3 F dX0_enterSpan_128 rfl rfl ?_
            refine cg_X0_settings 132 F hr fl_X0_18 dX0_enterSpan_129 rfl ?_
            refine g_iconst 133 (v := 3) F dX0_enterSpan_132 (by decide) rfl ?_
            refine clK_As 134 3 F hr (by decide) (by decide) dX0_enterSpan_133 rfl ?_
            refine g_icmp_ge 143 137 F dX0_enterSpan_134 rfl rfl hf (fun _ hf => ?_) (fun _ hf => ?_)
            · refine g_iinc 146 8 (x9 + 1) [(9, .int (x9 + 1)), (11, .int (if x4 < (f_X1_hourOf (cQ S x6 3 x9.toNatClampNeg)) then x4 else (f_X1_hourOf (cQ S x6 3 x9.toNatClampNeg)))), (8, .int (x8 + 1)), (10, .int (cQ S x6 3 x9.toNatClampNeg)), (0, .ref (cAf B (1 + r))), (3, .int x3), (4, .int x4), (6, .ref (sa (5 * x6))), (7, .int x7)] F dX0_enterSpan_143 rfl rfl (lt_kn hn (by decide)) rfl rfl ?_
              refine g_goto 67 F dX0_enterSpan_146 rfl ?_
              exact G.lvs [4, 5, 6, 7, 8, 2, 0] rfl (ih (sQ S x6 3 x9.toNatClampNeg x7) x3 x4 x6 hx6 x7 (x8 + 1) (x9 + 1) hf)
            · refine g_aload_n 138 3 F dX0_enterSpan_137 rfl rfl ?_
              refine g_aload 140 6 F dX0_enterSpan_138 rfl rfl ?_
              obtain ⟨q9, e10, hf⟩ := op_bd hf
              refine g_cVv 143 (st := []) F hok (c_X0_noteLateChange (kl K) B sa h lk hw (kA K) (sQ S x6 3 x9.toNatClampNeg x7) r x6 hr hx6 q9 e10) wy_X0_noteLateChange ml_X0_122 (c_rc_X0 F hr) ⟨Nat.le_of_ble_eq_true rfl, Nat.le_of_ble_eq_true rfl⟩ rfl rfl (Nat.le_of_ble_eq_true rfl) ⟨Nat.zero_le _, Nat.zero_le _⟩ dX0_enterSpan_140 rfl ?_
              refine g_iinc 146 8 (x9 + 1) [(9, .int (x9 + 1)), (11, .int (if x4 < (f_X1_hourOf (cQ S x6 3 x9.toNatClampNeg)) then x4 else (f_X1_hourOf (cQ S x6 3 x9.toNatClampNeg)))), (8, .int (x8 + 1)), (10, .int (cQ S x6 3 x9.toNatClampNeg)), (0, .ref (cAf B (1 + r))), (3, .int x3), (4, .int x4), (6, .ref (sa (5 * x6))), (7, .int x7)] F dX0_enterSpan_143 rfl rfl (lt_kn hn (by decide)) rfl rfl ?_
              refine g_goto 67 F dX0_enterSpan_146 rfl ?_
              exact G.lvs [4, 5, 6, 7, 8, 2, 0] rfl (ih q9 x3 x4 x6 hx6 x7 (x8 + 1) (x9 + 1) hf)
  unfold f_X0_enterSpan at hf
  refine g_aload_n 1 0 F dX0_enterSpan_0 rfl rfl ?_
  refine g_iload_n 2 1 F dX0_enterSpan_1 rfl rfl ?_
  obtain ⟨q1, e2, hf⟩ := op_bd hf
  refine g_cVq 5 (st := []) F hok (c_X0_find (kl K) B sa h lk hw (kA K) S r a1 hr q1 e2) wy_X0_find ml_X0_46 (c_rc_X0 F hr) ⟨Nat.le_of_ble_eq_true rfl, Nat.le_of_ble_eq_true rfl⟩ rfl rfl (Nat.le_of_ble_eq_true rfl) ⟨Nat.zero_le _, Nat.zero_le _⟩ dX0_enterSpan_2 rfl ?_
  rcases op_oc hf with ⟨e4, hf⟩ | ⟨j3, e4, hf⟩
  · subst e4
    change G K (cX B (kA K) sa h lk) 0 0 5 S [(0, .ref (cAf B (1 + r))), (1, .int a1), (2, .int a2), (3, .int a3), (4, .int a4), (5, .int a5)] [.null]
    refine g_astoreN 7 [(6, .null), (0, .ref (cAf B (1 + r))), (1, .int a1), (2, .int a2), (3, .int a3), (4, .int a4), (5, .int a5)] F dX0_enterSpan_5 (lt_kn hn (by decide)) rfl rfl ?_
    refine g_aloadN 9 0 F dX0_enterSpan_7 rfl rfl ?_
    refine g_ifnullN 20 F dX0_enterSpan_9 rfl ?_
    refine g_iconst 21 (v := (-1)) F dX0_enterSpan_20 (by decide) rfl ?_
    obtain rfl := Option.some.inj hf
    exact hR _ _ dX0_enterSpan_21
  · subst e4
    have hj3 : h j3 = true := find_has e2
    change G K (cX B (kA K) sa h lk) 0 0 5 S [(0, .ref (cAf B (1 + r))), (1, .int a1), (2, .int a2), (3, .int a3), (4, .int a4), (5, .int a5)] [.ref (sa (5 * j3))]
    refine g_astore 7 [(6, .ref (sa (5 * j3))), (0, .ref (cAf B (1 + r))), (1, .int a1), (2, .int a2), (3, .int a3), (4, .int a4), (5, .int a5)] F dX0_enterSpan_5 (lt_kn hn (by decide)) rfl rfl ?_
    refine g_aload 9 0 F dX0_enterSpan_7 rfl rfl ?_
    refine g_ifnull 12 F dX0_enterSpan_9 rfl ?_
    refine g_iload_n 13 3 F dX0_enterSpan_12 rfl rfl ?_
    refine g_iload_n 14 4 F dX0_enterSpan_13 rfl rfl ?_
    refine g_cSNi 17 (st := []) F hok (c_X5_canBeSpan (kl K) B sa h lk hw (kA K) S a2 a3 _ rfl) ws_X5_canBeSpan (F.2.2.2.2.2.1.2.1 _ nl_X0_95) ⟨Nat.le_of_ble_eq_true rfl, Nat.le_of_ble_eq_true rfl⟩ rfl rfl (Nat.le_of_ble_eq_true rfl) ⟨Nat.zero_le _, Nat.zero_le _⟩ dX0_enterSpan_14 rfl ?_
    refine g_ifne_b 22 20 F dX0_enterSpan_17 rfl rfl hf (fun _ hf => ?_) (fun _ hf => ?_)
    · refine g_iload 24 5 F dX0_enterSpan_22 rfl rfl ?_
      refine g_cSNi 27 (st := []) F hok (c_X5_canBeFiledHour (kl K) B sa h lk hw (kA K) S a4 _ rfl) ws_X5_canBeFiledHour (F.2.2.2.2.2.1.2.1 _ nl_X0_98) ⟨Nat.le_of_ble_eq_true rfl, Nat.le_of_ble_eq_true rfl⟩ rfl rfl (Nat.le_of_ble_eq_true rfl) ⟨Nat.zero_le _, Nat.zero_le _⟩ dX0_enterSpan_24 rfl ?_
      refine g_ifeq_b 50 30 F dX0_enterSpan_27 rfl rfl hf (fun _ hf => ?_) (fun _ hf => ?_)
      · refine g_iconst 51 (v := (-1)) F dX0_enterSpan_50 (by decide) rfl ?_
        obtain rfl := Option.some.inj hf
        exact hR _ _ dX0_enterSpan_51
      · refine g_iload 32 6 F dX0_enterSpan_30 rfl rfl ?_
        refine g_cSNi 35 (st := []) F hok (c_X5_canBePlace (kl K) B sa h lk hw (kA K) S a5 _ rfl) ws_X5_canBePlace (F.2.2.2.2.2.1.2.1 _ nl_X0_101) ⟨Nat.le_of_ble_eq_true rfl, Nat.le_of_ble_eq_true rfl⟩ rfl rfl (Nat.le_of_ble_eq_true rfl) ⟨Nat.zero_le _, Nat.zero_le _⟩ dX0_enterSpan_32 rfl ?_
        refine g_ifeq_b 50 38 F dX0_enterSpan_35 rfl rfl hf (fun _ hf => ?_) (fun _ hf => ?_)
        · refine g_iconst 51 (v := (-1)) F dX0_enterSpan_50 (by decide) rfl ?_
          obtain rfl := Option.some.inj hf
          exact hR _ _ dX0_enterSpan_51
        · refine g_aload_n 39 1 F dX0_enterSpan_38 rfl rfl ?_
          refine g_aload 41 0 F dX0_enterSpan_39 rfl rfl ?_
          refine g_iload_n 42 3 F dX0_enterSpan_41 rfl rfl ?_
          refine g_iload 44 5 F dX0_enterSpan_42 rfl rfl ?_
          obtain ⟨q5, e6, hf⟩ := op_bd hf
          refine g_cVi 47 (st := []) F hok (c_X0_mayStart (kl K) B sa h lk hw (kA K) S r j3 a2 a4 hr hj3 q5 e6) wy_X0_mayStart ml_X0_104 (c_rc_X0 F hr) ⟨Nat.le_of_ble_eq_true rfl, Nat.le_of_ble_eq_true rfl⟩ rfl rfl (Nat.le_of_ble_eq_true rfl) ⟨Nat.zero_le _, Nat.zero_le _⟩ dX0_enterSpan_44 rfl ?_
          refine g_ifne_b 52 50 F dX0_enterSpan_47 rfl rfl hf (fun _ hf => ?_) (fun _ hf => ?_)
          · refine g_iload 54 5 F dX0_enterSpan_52 rfl rfl ?_
            refine g_iload 56 6 F dX0_enterSpan_54 rfl rfl ?_
            refine g_cSi 59 (st := []) F hok (c_X1_slotOf (kl K) B sa h lk hw (kA K) S a4 a5 _ rfl) ws_X1_slotOf ml_X0_108 ⟨Nat.le_of_ble_eq_true rfl, Nat.le_of_ble_eq_true rfl⟩ rfl rfl (Nat.le_of_ble_eq_true rfl) ⟨Nat.zero_le _, Nat.zero_le _⟩ dX0_enterSpan_56 rfl ?_
            refine g_istore 61 [(7, .int (f_X1_slotOf a4 a5)), (6, .ref (sa (5 * j3))), (0, .ref (cAf B (1 + r))), (1, .int a1), (2, .int a2), (3, .int a3), (4, .int a4), (5, .int a5)] F dX0_enterSpan_59 (lt_kn hn (by decide)) rfl rfl ?_
            refine g_iconst 62 (v := 0) F dX0_enterSpan_61 (by decide) rfl ?_
            refine g_istore 64 [(8, .int 0), (7, .int (f_X1_slotOf a4 a5)), (6, .ref (sa (5 * j3))), (0, .ref (cAf B (1 + r))), (1, .int a1), (2, .int a2), (3, .int a3), (4, .int a4), (5, .int a5)] F dX0_enterSpan_62 (lt_kn hn (by decide)) rfl rfl ?_
            refine g_iload_n 65 5 F dX0_enterSpan_64 rfl rfl ?_
            refine g_istore 67 [(9, .int a2), (8, .int 0), (7, .int (f_X1_slotOf a4 a5)), (6, .ref (sa (5 * j3))), (0, .ref (cAf B (1 + r))), (1, .int a1), (2, .int a2), (3, .int a3), (4, .int a4), (5, .int a5)] F dX0_enterSpan_65 (lt_kn hn (by decide)) rfl rfl ?_
            exact G.lvs [4, 7, 8, 3, 2, 1, 0] rfl (L_67 fu S a3 a4 j3 hj3 (f_X1_slotOf a4 a5) 0 a2 hf)
          · refine g_iconst 51 (v := (-1)) F dX0_enterSpan_50 (by decide) rfl ?_
            obtain rfl := Option.some.inj hf
            exact hR _ _ dX0_enterSpan_51
    · refine g_iconst 21 (v := (-1)) F dX0_enterSpan_20 (by decide) rfl ?_
      obtain rfl := Option.some.inj hf
      exact hR _ _ dX0_enterSpan_21
theorem c_X0_enterSpan (l : Launch) (B : CB) (sa : Nat → Nat) (h : Nat → Bool) (lk : Nat × Nat) (hw : cWf h lk) (A : Nat → Prop) (S : CS) (r : Nat) (a1 : Int32) (a2 : Int32) (a3 : Int32) (a4 : Int32) (a5 : Int32) (hr : r < 2) (q : Int32 × CS) (hf : f_X0_enterSpan h S r a1 a2 a3 a4 a5 = some q) : Ci l yX0_enterSpan cX0_enterSpan 12 (some .int) 2 44 (cX B A sa h lk) (cKf B A) A S [.ref (cAf B (1 + r)), .int a1, .int a2, .int a3, .int a4, .int a5] q.1 q.2 := by
  refine met_i (by decide +kernel) (Nat.le_of_ble_eq_true rfl) (fun K hl hA hn F hR => ?_)
  subst hl; subst hA
  exact w_X0_enterSpan B sa h lk hw K F hn S r a1 a2 a3 a4 a5 hr q hf hR
set_option maxHeartbeats 4000000 in
set_option maxRecDepth 100000 in
theorem w_X5_canBeFiledDay (B : CB) (sa : Nat → Nat) (h : Nat → Bool) (lk : Nat × Nat) (hw : cWf h lk) (K : Ctx) (F : Fx K cX5_canBeFiledDay RX5 (cKf B (kA K)) 0 0) (hn : kn K = 1) (S : CS) (a1 : Int32) (q : Bool) (hf : f_X5_canBeFiledDay a1 = q) (hR : ∀ (pc : Nat) (lv : List (Nat × Value)), decode cX5_canBeFiledDay pc = .ok (.ireturn, 1) → G K (cX B (kA K) sa h lk) 0 0 pc S lv [.int (bI q)]) : G K (cX B (kA K) sa h lk) 0 0 0 S [(0, .int a1)] [] := by
  have hok := cKf_ok B (kA K)
  unfold f_X5_canBeFiledDay at hf
  refine g_iload_n 1 0 F dX5_canBeFiledDay_0 rfl rfl ?_
  refine g_if_lt 15 4 F dX5_canBeFiledDay_1 rfl rfl hf (fun _ hf => ?_) (fun _ hf => ?_)
  · refine g_iconst 16 (v := 0) F dX5_canBeFiledDay_15 (by decide) rfl ?_
    subst hf
    exact hR _ _ dX5_canBeFiledDay_16
  · refine g_iload_n 5 0 F dX5_canBeFiledDay_4 rfl rfl ?_
    refine g_sipush 8 (v := 1100) F dX5_canBeFiledDay_5 (by decide) rfl ?_
    refine g_icmp_ge 15 11 F dX5_canBeFiledDay_8 rfl rfl hf (fun _ hf => ?_) (fun _ hf => ?_)
    · refine g_iconst 16 (v := 0) F dX5_canBeFiledDay_15 (by decide) rfl ?_
      subst hf
      exact hR _ _ dX5_canBeFiledDay_16
    · refine g_iconst 12 (v := 1) F dX5_canBeFiledDay_11 (by decide) rfl ?_
      refine g_goto 16 F dX5_canBeFiledDay_12 rfl ?_
      subst hf
      exact hR _ _ dX5_canBeFiledDay_16
theorem c_X5_canBeFiledDay (l : Launch) (B : CB) (sa : Nat → Nat) (h : Nat → Bool) (lk : Nat × Nat) (hw : cWf h lk) (A : Nat → Prop) (S : CS) (a1 : Int32) (q : Bool) (hf : f_X5_canBeFiledDay a1 = q) : Ci l yX5_canBeFiledDay cX5_canBeFiledDay 1 (some .boolean) 0 0 (cX B A sa h lk) (cKf B A) A S [.int a1] (bI q) S := by
  refine met_z (by decide +kernel) (Nat.le_of_ble_eq_true rfl) (fun K hl hA hn F hR => ?_)
  subst hl; subst hA
  exact w_X5_canBeFiledDay B sa h lk hw K F hn S a1 q hf hR
set_option maxHeartbeats 4000000 in
set_option maxRecDepth 100000 in
theorem w_X0_visit (B : CB) (sa : Nat → Nat) (h : Nat → Bool) (lk : Nat × Nat) (hw : cWf h lk) (K : Ctx) (F : Fx K cX0_visit RX0 (cKf B (kA K)) 1 22) (hn : kn K = 5) (S : CS) (r : Nat) (a1 : Int32) (a2 : Int32) (a3 : Bool) (hr : r < 2) (q : Int32 × CS) (hf : f_X0_visit h S r a1 a2 a3 = some q) (hR : ∀ (pc : Nat) (lv : List (Nat × Value)), decode cX0_visit pc = .ok (.ireturn, 1) → G K (cX B (kA K) sa h lk) 0 0 pc q.2 lv [.int q.1]) : G K (cX B (kA K) sa h lk) 0 0 0 S [(0, .ref (cAf B (1 + r))), (1, .int a1), (2, .int a2), (3, .int (bI a3))] [] := by
  have hok := cKf_ok B (kA K)
  unfold f_X0_visit at hf
  refine g_aload_n 1 0 F dX0_visit_0 rfl rfl ?_
  refine g_iload_n 2 1 F dX0_visit_1 rfl rfl ?_
  obtain ⟨q1, e2, hf⟩ := op_bd hf
  refine g_cVq 5 (st := []) F hok (c_X0_find (kl K) B sa h lk hw (kA K) S r a1 hr q1 e2) wy_X0_find ml_X0_46 (c_rc_X0 F hr) ⟨Nat.le_of_ble_eq_true rfl, Nat.le_of_ble_eq_true rfl⟩ rfl rfl (Nat.le_of_ble_eq_true rfl) ⟨Nat.zero_le _, Nat.zero_le _⟩ dX0_visit_2 rfl ?_
  rcases op_oc hf with ⟨e4, hf⟩ | ⟨j3, e4, hf⟩
  · subst e4
    change G K (cX B (kA K) sa h lk) 0 0 5 S [(0, .ref (cAf B (1 + r))), (1, .int a1), (2, .int a2), (3, .int (bI a3))] [.null]
    refine g_astoreN 7 [(4, .null), (0, .ref (cAf B (1 + r))), (1, .int a1), (2, .int a2), (3, .int (bI a3))] F dX0_visit_5 (lt_kn hn (by decide)) rfl rfl ?_
    refine g_aloadN 9 0 F dX0_visit_7 rfl rfl ?_
    refine g_ifnullN 19 F dX0_visit_9 rfl ?_
    refine g_iconst 20 (v := (-1)) F dX0_visit_19 (by decide) rfl ?_
    obtain rfl := Option.some.inj hf
    exact hR _ _ dX0_visit_20
  · subst e4
    have hj3 : h j3 = true := find_has e2
    change G K (cX B (kA K) sa h lk) 0 0 5 S [(0, .ref (cAf B (1 + r))), (1, .int a1), (2, .int a2), (3, .int (bI a3))] [.ref (sa (5 * j3))]
    refine g_astore 7 [(4, .ref (sa (5 * j3))), (0, .ref (cAf B (1 + r))), (1, .int a1), (2, .int a2), (3, .int (bI a3))] F dX0_visit_5 (lt_kn hn (by decide)) rfl rfl ?_
    refine g_aload 9 0 F dX0_visit_7 rfl rfl ?_
    refine g_ifnull 12 F dX0_visit_9 rfl ?_
    refine g_iload_n 13 3 F dX0_visit_12 rfl rfl ?_
    refine g_cSNi 16 (st := []) F hok (c_X5_canBePlace (kl K) B sa h lk hw (kA K) S a2 _ rfl) ws_X5_canBePlace (F.2.2.2.2.2.1.2.1 _ nl_X0_101) ⟨Nat.le_of_ble_eq_true rfl, Nat.le_of_ble_eq_true rfl⟩ rfl rfl (Nat.le_of_ble_eq_true rfl) ⟨Nat.zero_le _, Nat.zero_le _⟩ dX0_visit_13 rfl ?_
    refine g_ifne_b 21 19 F dX0_visit_16 rfl rfl hf (fun _ hf => ?_) (fun _ hf => ?_)
    · refine g_aload 23 0 F dX0_visit_21 rfl rfl ?_
      refine g_dup 24 F dX0_visit_23 rfl rfl ?_
      refine cg_X1_tests 27 F hw hj3 fl_X0_125 dX0_visit_24 rfl ?_
      refine g_iconst 28 (v := 1) F dX0_visit_27 (by decide) rfl ?_
      refine g_iadd 29 F dX0_visit_28 rfl ?_
      refine cp_X1_tests 32 F hw hj3 fl_X0_125 dX0_visit_29 rfl ?_
      refine g_aload 34 0 F dX0_visit_32 rfl rfl ?_
      refine g_aload_n 35 1 F dX0_visit_34 rfl rfl ?_
      refine cg_X0_day 38 F hr fl_X0_34 dX0_visit_35 rfl ?_
      refine cp_X1_lastTest 41 F hw hj3 fl_X0_128 dX0_visit_38 rfl ?_
      refine g_iload_n 42 4 F dX0_visit_41 rfl rfl ?_
      refine g_ifeq_b 47 45 F dX0_visit_42 rfl rfl hf (fun _ hf => ?_) (fun _ hf => ?_)
      · refine g_aload_n 48 1 F dX0_visit_47 rfl rfl ?_
        refine cg_X0_day 51 F hr fl_X0_34 dX0_visit_48 rfl ?_
        refine g_cSNi 54 (st := []) F hok (c_X5_canBeFiledDay (kl K) B sa h lk hw (kA K) (sP (sP S j3 3 ((cP S j3 3) + 1)) j3 5 (cR (sP S j3 3 ((cP S j3 3) + 1)) r 0)) (cR (sP (sP S j3 3 ((cP S j3 3) + 1)) j3 5 (cR (sP S j3 3 ((cP S j3 3) + 1)) r 0)) r 0) _ rfl) ws_X5_canBeFiledDay (F.2.2.2.2.2.1.2.1 _ nl_X0_131) ⟨Nat.le_of_ble_eq_true rfl, Nat.le_of_ble_eq_true rfl⟩ rfl rfl (Nat.le_of_ble_eq_true rfl) ⟨Nat.zero_le _, Nat.zero_le _⟩ dX0_visit_51 rfl ?_
        refine g_ifeq_b 78 57 F dX0_visit_54 rfl rfl hf (fun _ hf => ?_) (fun _ hf => ?_)
        · refine g_iconst 79 (v := 2) F dX0_visit_78 (by decide) rfl ?_
          obtain rfl := Option.some.inj hf
          exact hR _ _ dX0_visit_79
        · refine g_aload 59 0 F dX0_visit_57 rfl rfl ?_
          refine cg_X1_slots 62 F hw hj3 fl_X0_111 dX0_visit_59 rfl ?_
          refine g_aload_n 63 1 F dX0_visit_62 rfl rfl ?_
          refine cg_X0_day 66 F hr fl_X0_34 dX0_visit_63 rfl ?_
          obtain ⟨h5, hf⟩ := op_ok hf
          refine cl_Q3 67 F hw hj3 h5 dX0_visit_66 rfl ?_
          refine g_aload_n 68 1 F dX0_visit_67 rfl rfl ?_
          refine cg_X0_hour 71 F hr fl_X0_37 dX0_visit_68 rfl ?_
          refine g_iload_n 72 3 F dX0_visit_71 rfl rfl ?_
          refine g_cSi 75 (st := [.int (cQ (sP (sP S j3 3 ((cP S j3 3) + 1)) j3 5 (cR (sP S j3 3 ((cP S j3 3) + 1)) r 0)) j3 3 (cR (sP (sP S j3 3 ((cP S j3 3) + 1)) j3 5 (cR (sP S j3 3 ((cP S j3 3) + 1)) r 0)) r 0).toNatClampNeg)]) F hok (c_X1_slotOf (kl K) B sa h lk hw (kA K) (sP (sP S j3 3 ((cP S j3 3) + 1)) j3 5 (cR (sP S j3 3 ((cP S j3 3) + 1)) r 0)) (cR (sP (sP S j3 3 ((cP S j3 3) + 1)) j3 5 (cR (sP S j3 3 ((cP S j3 3) + 1)) r 0)) r 1) a2 _ rfl) ws_X1_slotOf ml_X0_108 ⟨Nat.le_of_ble_eq_true rfl, Nat.le_of_ble_eq_true rfl⟩ rfl rfl (Nat.le_of_ble_eq_true rfl) ⟨Nat.zero_le _, Nat.zero_le _⟩ dX0_visit_72 rfl ?_
          refine g_icmp_eq 80 78 F dX0_visit_75 rfl rfl hf (fun _ hf => ?_) (fun _ hf => ?_)
          · refine g_aload 82 0 F dX0_visit_80 rfl rfl ?_
            refine g_dup 83 F dX0_visit_82 rfl rfl ?_
            refine cg_X1_missed 86 F hw hj3 fl_X0_134 dX0_visit_83 rfl ?_
            refine g_iconst 87 (v := 1) F dX0_visit_86 (by decide) rfl ?_
            refine g_iadd 88 F dX0_visit_87 rfl ?_
            refine cp_X1_missed 91 F hw hj3 fl_X0_134 dX0_visit_88 rfl ?_
            refine g_aload 93 0 F dX0_visit_91 rfl rfl ?_
            refine g_aload_n 94 1 F dX0_visit_93 rfl rfl ?_
            refine cg_X0_day 97 F hr fl_X0_34 dX0_visit_94 rfl ?_
            refine g_iconst 98 (v := 2) F dX0_visit_97 (by decide) rfl ?_
            obtain ⟨q6, e7, hf⟩ := op_bd hf
            refine g_cVi 101 (st := []) F hok (c_X1_note (kl K) B sa h lk hw (kA K) (sP (sP (sP S j3 3 ((cP S j3 3) + 1)) j3 5 (cR (sP S j3 3 ((cP S j3 3) + 1)) r 0)) j3 4 ((cP (sP (sP S j3 3 ((cP S j3 3) + 1)) j3 5 (cR (sP S j3 3 ((cP S j3 3) + 1)) r 0)) j3 4) + 1)) j3 (cR (sP (sP (sP S j3 3 ((cP S j3 3) + 1)) j3 5 (cR (sP S j3 3 ((cP S j3 3) + 1)) r 0)) j3 4 ((cP (sP (sP S j3 3 ((cP S j3 3) + 1)) j3 5 (cR (sP S j3 3 ((cP S j3 3) + 1)) r 0)) j3 4) + 1)) r 0) 2 hj3 q6 e7) wy_X1_note ml_X0_92 (c_rc_X1 F hw hj3) ⟨Nat.le_of_ble_eq_true rfl, Nat.le_of_ble_eq_true rfl⟩ rfl rfl (Nat.le_of_ble_eq_true rfl) ⟨Nat.zero_le _, Nat.zero_le _⟩ dX0_visit_98 rfl ?_
            refine g_pop 102 F dX0_visit_101 rfl rfl ?_
            refine g_iconst 103 (v := 1) F dX0_visit_102 (by decide) rfl ?_
            obtain rfl := Option.some.inj hf
            exact hR _ _ dX0_visit_103
          · refine g_iconst 79 (v := 2) F dX0_visit_78 (by decide) rfl ?_
            obtain rfl := Option.some.inj hf
            exact hR _ _ dX0_visit_79
      · refine g_iconst 46 (v := 0) F dX0_visit_45 (by decide) rfl ?_
        obtain rfl := Option.some.inj hf
        exact hR _ _ dX0_visit_46
    · refine g_iconst 20 (v := (-1)) F dX0_visit_19 (by decide) rfl ?_
      obtain rfl := Option.some.inj hf
      exact hR _ _ dX0_visit_20
theorem c_X0_visit (l : Launch) (B : CB) (sa : Nat → Nat) (h : Nat → Bool) (lk : Nat × Nat) (hw : cWf h lk) (A : Nat → Prop) (S : CS) (r : Nat) (a1 : Int32) (a2 : Int32) (a3 : Bool) (hr : r < 2) (q : Int32 × CS) (hf : f_X0_visit h S r a1 a2 a3 = some q) : Ci l yX0_visit cX0_visit 5 (some .int) 1 22 (cX B A sa h lk) (cKf B A) A S [.ref (cAf B (1 + r)), .int a1, .int a2, .int (bI a3)] q.1 q.2 := by
  refine met_i (by decide +kernel) (Nat.le_of_ble_eq_true rfl) (fun K hl hA hn F hR => ?_)
  subst hl; subst hA
  exact w_X0_visit B sa h lk hw K F hn S r a1 a2 a3 hr q hf hR
set_option maxHeartbeats 4000000 in
set_option maxRecDepth 100000 in
theorem w_X1_hasFailure (B : CB) (sa : Nat → Nat) (h : Nat → Bool) (lk : Nat × Nat) (hw : cWf h lk) (K : Ctx) (F : Fx K cX1_hasFailure RX1 (cKf B (kA K)) 0 0) (hn : kn K = 2) (S : CS) (j : Nat) (a1 : Int32) (hj : h j = true) (q : Bool) (hf : f_X1_hasFailure S j a1 = q) (hR : ∀ (pc : Nat) (lv : List (Nat × Value)), decode cX1_hasFailure pc = .ok (.ireturn, 1) → G K (cX B (kA K) sa h lk) 0 0 pc S lv [.int (bI q)]) : G K (cX B (kA K) sa h lk) 0 0 0 S [(0, .ref (sa (5 * j))), (1, .int a1)] [] := by
  have hok := cKf_ok B (kA K)
  unfold f_X1_hasFailure at hf
  refine g_iload_n 1 1 F dX1_hasFailure_0 rfl rfl ?_
  refine g_if_lt 22 4 F dX1_hasFailure_1 rfl rfl hf (fun _ hf => ?_) (fun _ hf => ?_)
  · refine g_iconst 23 (v := 0) F dX1_hasFailure_22 (by decide) rfl ?_
    subst hf
    exact hR _ _ dX1_hasFailure_23
  · refine g_iload_n 5 1 F dX1_hasFailure_4 rfl rfl ?_
    refine g_aload_n 6 0 F dX1_hasFailure_5 rfl rfl ?_
    refine cg_X1_failures 9 F hw hj fl_X1_43 dX1_hasFailure_6 rfl ?_
    refine g_icmp_ge 22 12 F dX1_hasFailure_9 rfl rfl hf (fun _ hf => ?_) (fun _ hf => ?_)
    · refine g_iconst 23 (v := 0) F dX1_hasFailure_22 (by decide) rfl ?_
      subst hf
      exact hR _ _ dX1_hasFailure_23
    · refine g_iload_n 13 1 F dX1_hasFailure_12 rfl rfl ?_
      refine g_bipush 15 (v := 60) F dX1_hasFailure_13 (by decide) rfl ?_
      refine g_icmp_ge 22 18 F dX1_hasFailure_15 rfl rfl hf (fun _ hf => ?_) (fun _ hf => ?_)
      · refine g_iconst 23 (v := 0) F dX1_hasFailure_22 (by decide) rfl ?_
        subst hf
        exact hR _ _ dX1_hasFailure_23
      · refine g_iconst 19 (v := 1) F dX1_hasFailure_18 (by decide) rfl ?_
        refine g_goto 23 F dX1_hasFailure_19 rfl ?_
        subst hf
        exact hR _ _ dX1_hasFailure_23
theorem c_X1_hasFailure (l : Launch) (B : CB) (sa : Nat → Nat) (h : Nat → Bool) (lk : Nat × Nat) (hw : cWf h lk) (A : Nat → Prop) (S : CS) (j : Nat) (a1 : Int32) (hj : h j = true) (q : Bool) (hf : f_X1_hasFailure S j a1 = q) : Ci l yX1_hasFailure cX1_hasFailure 2 (some .boolean) 0 0 (cX B A sa h lk) (cKf B A) A S [.ref (sa (5 * j)), .int a1] (bI q) S := by
  refine met_z (by decide +kernel) (Nat.le_of_ble_eq_true rfl) (fun K hl hA hn F hR => ?_)
  subst hl; subst hA
  exact w_X1_hasFailure B sa h lk hw K F hn S j a1 hj q hf hR
set_option maxHeartbeats 4000000 in
set_option maxRecDepth 100000 in
theorem w_X0_strike (B : CB) (sa : Nat → Nat) (h : Nat → Bool) (lk : Nat × Nat) (hw : cWf h lk) (K : Ctx) (F : Fx K cX0_strike RX0 (cKf B (kA K)) 1 21) (hn : kn K = 4) (S : CS) (r : Nat) (a1 : Int32) (a2 : Int32) (hr : r < 2) (q : Bool × CS) (hf : f_X0_strike h S r a1 a2 = some q) (hR : ∀ (pc : Nat) (lv : List (Nat × Value)), decode cX0_strike pc = .ok (.ireturn, 1) → G K (cX B (kA K) sa h lk) 0 0 pc q.2 lv [.int (bI q.1)]) : G K (cX B (kA K) sa h lk) 0 0 0 S [(0, .ref (cAf B (1 + r))), (1, .int a1), (2, .int a2)] [] := by
  have hok := cKf_ok B (kA K)
  unfold f_X0_strike at hf
  refine g_aload_n 1 0 F dX0_strike_0 rfl rfl ?_
  refine g_iload_n 2 1 F dX0_strike_1 rfl rfl ?_
  obtain ⟨q1, e2, hf⟩ := op_bd hf
  refine g_cVq 5 (st := []) F hok (c_X0_find (kl K) B sa h lk hw (kA K) S r a1 hr q1 e2) wy_X0_find ml_X0_46 (c_rc_X0 F hr) ⟨Nat.le_of_ble_eq_true rfl, Nat.le_of_ble_eq_true rfl⟩ rfl rfl (Nat.le_of_ble_eq_true rfl) ⟨Nat.zero_le _, Nat.zero_le _⟩ dX0_strike_2 rfl ?_
  rcases op_oc hf with ⟨e4, hf⟩ | ⟨j3, e4, hf⟩
  · subst e4
    change G K (cX B (kA K) sa h lk) 0 0 5 S [(0, .ref (cAf B (1 + r))), (1, .int a1), (2, .int a2)] [.null]
    refine g_astore_nN 6 [(3, .null), (0, .ref (cAf B (1 + r))), (1, .int a1), (2, .int a2)] F dX0_strike_5 (lt_kn hn (by decide)) rfl rfl ?_
    refine g_aload_nN 7 0 F dX0_strike_6 rfl rfl ?_
    refine g_ifnullN 28 F dX0_strike_7 rfl ?_
    refine g_iconst 29 (v := 0) F dX0_strike_28 (by decide) rfl ?_
    obtain rfl := Option.some.inj hf
    exact hR _ _ dX0_strike_29
  · subst e4
    have hj3 : h j3 = true := find_has e2
    change G K (cX B (kA K) sa h lk) 0 0 5 S [(0, .ref (cAf B (1 + r))), (1, .int a1), (2, .int a2)] [.ref (sa (5 * j3))]
    refine g_astore_n 6 [(3, .ref (sa (5 * j3))), (0, .ref (cAf B (1 + r))), (1, .int a1), (2, .int a2)] F dX0_strike_5 (lt_kn hn (by decide)) rfl rfl ?_
    refine g_aload_n 7 0 F dX0_strike_6 rfl rfl ?_
    refine g_ifnull 10 F dX0_strike_7 rfl ?_
    refine g_aload_n 11 0 F dX0_strike_10 rfl rfl ?_
    refine g_iload_n 12 3 F dX0_strike_11 rfl rfl ?_
    refine g_cVi 15 (st := []) F hok (c_X1_hasFailure (kl K) B sa h lk hw (kA K) S j3 a2 hj3 _ rfl) wy_X1_hasFailure ml_X0_137 (c_rc_X1 F hw hj3) ⟨Nat.le_of_ble_eq_true rfl, Nat.le_of_ble_eq_true rfl⟩ rfl rfl (Nat.le_of_ble_eq_true rfl) ⟨Nat.zero_le _, Nat.zero_le _⟩ dX0_strike_12 rfl ?_
    refine g_ifeq_b 28 18 F dX0_strike_15 rfl rfl hf (fun _ hf => ?_) (fun _ hf => ?_)
    · refine g_iconst 29 (v := 0) F dX0_strike_28 (by decide) rfl ?_
      obtain rfl := Option.some.inj hf
      exact hR _ _ dX0_strike_29
    · refine g_aload_n 19 0 F dX0_strike_18 rfl rfl ?_
      refine cg_X1_struck 22 F hw hj3 fl_X0_140 dX0_strike_19 rfl ?_
      refine g_iload_n 23 3 F dX0_strike_22 rfl rfl ?_
      obtain ⟨h5, hf⟩ := op_ok hf
      refine cl_Q2 24 F hw hj3 h5 dX0_strike_23 rfl ?_
      refine g_iconst 25 (v := 1) F dX0_strike_24 (by decide) rfl ?_
      refine g_icmp_ne 30 28 F dX0_strike_25 rfl rfl hf (fun _ hf => ?_) (fun _ hf => ?_)
      · refine g_aload_n 31 1 F dX0_strike_30 rfl rfl ?_
        refine cg_X0_day 34 F hr fl_X0_34 dX0_strike_31 rfl ?_
        refine g_aload_n 35 0 F dX0_strike_34 rfl rfl ?_
        refine cg_X1_failureDay 38 F hw hj3 fl_X0_143 dX0_strike_35 rfl ?_
        refine g_iload_n 39 3 F dX0_strike_38 rfl rfl ?_
        obtain ⟨h6, hf⟩ := op_ok hf
        refine cl_Q0 40 F hw hj3 h6 dX0_strike_39 rfl ?_
        refine g_aload_n 41 1 F dX0_strike_40 rfl rfl ?_
        refine cg_X0_settings 44 F hr fl_X0_18 dX0_strike_41 rfl ?_
        refine g_iconst 45 (v := 5) F dX0_strike_44 (by decide) rfl ?_
        refine clK_As 46 5 F hr (by decide) (by decide) dX0_strike_45 rfl ?_
        refine g_iadd 47 F dX0_strike_46 rfl ?_
        refine g_icmp_le 52 50 F dX0_strike_47 rfl rfl hf (fun _ hf => ?_) (fun _ hf => ?_)
        · refine g_aload_n 53 0 F dX0_strike_52 rfl rfl ?_
          refine cg_X1_struck 56 F hw hj3 fl_X0_140 dX0_strike_53 rfl ?_
          refine g_iload_n 57 3 F dX0_strike_56 rfl rfl ?_
          refine g_iconst 58 (v := 1) F dX0_strike_57 (by decide) rfl ?_
          obtain ⟨h7, hf⟩ := op_ok hf
          refine cs_Q2 59 F hw hj3 h7 dX0_strike_58 rfl ?_
          refine g_iconst 60 (v := 1) F dX0_strike_59 (by decide) rfl ?_
          obtain rfl := Option.some.inj hf
          exact hR _ _ dX0_strike_60
        · refine g_iconst 51 (v := 0) F dX0_strike_50 (by decide) rfl ?_
          obtain rfl := Option.some.inj hf
          exact hR _ _ dX0_strike_51
      · refine g_iconst 29 (v := 0) F dX0_strike_28 (by decide) rfl ?_
        obtain rfl := Option.some.inj hf
        exact hR _ _ dX0_strike_29
theorem c_X0_strike (l : Launch) (B : CB) (sa : Nat → Nat) (h : Nat → Bool) (lk : Nat × Nat) (hw : cWf h lk) (A : Nat → Prop) (S : CS) (r : Nat) (a1 : Int32) (a2 : Int32) (hr : r < 2) (q : Bool × CS) (hf : f_X0_strike h S r a1 a2 = some q) : Ci l yX0_strike cX0_strike 4 (some .boolean) 1 21 (cX B A sa h lk) (cKf B A) A S [.ref (cAf B (1 + r)), .int a1, .int a2] (bI q.1) q.2 := by
  refine met_z (by decide +kernel) (Nat.le_of_ble_eq_true rfl) (fun K hl hA hn F hR => ?_)
  subst hl; subst hA
  exact w_X0_strike B sa h lk hw K F hn S r a1 a2 hr q hf hR
set_option maxHeartbeats 4000000 in
set_option maxRecDepth 100000 in
theorem w_X0_bitsOfThose (B : CB) (sa : Nat → Nat) (h : Nat → Bool) (lk : Nat × Nat) (hw : cWf h lk) (K : Ctx) (F : Fx K cX0_bitsOfThose RX0 (cKf B (kA K)) 1 21) (hn : kn K = 8) (S : CS) (r : Nat) (a1 : Int32) (a2 : Int32) (a3 : Int32) (hr : r < 2) (q : Int32) (hf : f_X0_bitsOfThose h S r a1 a2 a3 = some q) (hR : ∀ (pc : Nat) (lv : List (Nat × Value)), decode cX0_bitsOfThose pc = .ok (.ireturn, 1) → G K (cX B (kA K) sa h lk) 0 0 pc S lv [.int q]) : G K (cX B (kA K) sa h lk) 0 0 0 S [(0, .ref (cAf B (1 + r))), (1, .int a1), (2, .int a2), (3, .int a3)] [] := by
  have hok := cKf_ok B (kA K)
  have L_22 : ∀ (n : Nat) (x1 : Int32) (x4 : Int32) (x5 : Int32) (x6 : Int32), l_X0_bitsOfThose_22 h r S n x1 x4 x5 x6 = some q → G K (cX B (kA K) sa h lk) 0 0 22 S [(0, .ref (cAf B (1 + r))), (1, .int x1), (4, .int x4), (5, .int x5), (6, .int x6)] [] := by
    intro n
    induction n with
    | zero =>
      intro x1 x4 x5 x6 hf
      rw [l_X0_bitsOfThose_22] at hf
      cases hf
    | succ n ih =>
      intro x1 x4 x5 x6 hf
      rw [l_X0_bitsOfThose_22] at hf
      refine g_iload 24 4 F dX0_bitsOfThose_22 rfl rfl ?_
      refine g_aload_n 25 0 F dX0_bitsOfThose_24 rfl rfl ?_
      refine cg_X0_athletes 28 F hr fl_X0_29 dX0_bitsOfThose_25 rfl ?_
      refine g_icmp_ge 71 31 F dX0_bitsOfThose_28 rfl rfl hf (fun _ hf => ?_) (fun _ hf => ?_)
      · refine g_iload 73 3 F dX0_bitsOfThose_71 rfl rfl ?_
        obtain rfl := Option.some.inj hf
        exact hR _ _ dX0_bitsOfThose_73
      · refine g_aload_n 32 0 F dX0_bitsOfThose_31 rfl rfl ?_
        refine g_iload 34 4 F dX0_bitsOfThose_32 rfl rfl ?_
        obtain ⟨q1, e2, hf⟩ := op_bd hf
        refine g_cVq 37 (st := []) F hok (c_X0_find (kl K) B sa h lk hw (kA K) S r x6 hr q1 e2) wy_X0_find ml_X0_46 (c_rc_X0 F hr) ⟨Nat.le_of_ble_eq_true rfl, Nat.le_of_ble_eq_true rfl⟩ rfl rfl (Nat.le_of_ble_eq_true rfl) ⟨Nat.zero_le _, Nat.zero_le _⟩ dX0_bitsOfThose_34 rfl ?_
        rcases op_oc hf with ⟨e4, hf⟩ | ⟨j3, e4, hf⟩
        · subst e4
          change G K (cX B (kA K) sa h lk) 0 0 37 S [(0, .ref (cAf B (1 + r))), (1, .int x1), (4, .int x4), (5, .int x5), (6, .int x6)] [.null]
          refine g_astoreN 39 [(7, .null), (0, .ref (cAf B (1 + r))), (1, .int x1), (4, .int x4), (5, .int x5), (6, .int x6)] F dX0_bitsOfThose_37 (lt_kn hn (by decide)) rfl rfl ?_
          refine g_aloadN 41 0 F dX0_bitsOfThose_39 rfl rfl ?_
          refine g_ifnullN 65 F dX0_bitsOfThose_41 rfl ?_
          refine g_iinc 68 5 (x6 + 1) [(6, .int (x6 + 1)), (7, .null), (0, .ref (cAf B (1 + r))), (1, .int x1), (4, .int x4), (5, .int x5)] F dX0_bitsOfThose_65 rfl rfl (lt_kn hn (by decide)) rfl rfl ?_
          refine g_goto 22 F dX0_bitsOfThose_68 rfl ?_
          exact G.lvs [2, 3, 4, 5, 0] rfl (ih x1 x4 x5 (x6 + 1) hf)
        · subst e4
          have hj3 : h j3 = true := find_has e2
          change G K (cX B (kA K) sa h lk) 0 0 37 S [(0, .ref (cAf B (1 + r))), (1, .int x1), (4, .int x4), (5, .int x5), (6, .int x6)] [.ref (sa (5 * j3))]
          refine g_astore 39 [(7, .ref (sa (5 * j3))), (0, .ref (cAf B (1 + r))), (1, .int x1), (4, .int x4), (5, .int x5), (6, .int x6)] F dX0_bitsOfThose_37 (lt_kn hn (by decide)) rfl rfl ?_
          refine g_aload 41 0 F dX0_bitsOfThose_39 rfl rfl ?_
          refine g_ifnull 44 F dX0_bitsOfThose_41 rfl ?_
          refine g_aload 46 0 F dX0_bitsOfThose_44 rfl rfl ?_
          refine cg_X1_slots 49 F hw hj3 fl_X0_111 dX0_bitsOfThose_46 rfl ?_
          refine g_iload_n 50 2 F dX0_bitsOfThose_49 rfl rfl ?_
          obtain ⟨h5, hf⟩ := op_ok hf
          refine cl_Q3 51 F hw hj3 h5 dX0_bitsOfThose_50 rfl ?_
          refine g_iload 53 3 F dX0_bitsOfThose_51 rfl rfl ?_
          refine g_icmp_ne 65 56 F dX0_bitsOfThose_53 rfl rfl hf (fun _ hf => ?_) (fun _ hf => ?_)
          · refine g_iinc 68 5 (x6 + 1) [(6, .int (x6 + 1)), (7, .ref (sa (5 * j3))), (0, .ref (cAf B (1 + r))), (1, .int x1), (4, .int x4), (5, .int x5)] F dX0_bitsOfThose_65 rfl rfl (lt_kn hn (by decide)) rfl rfl ?_
            refine g_goto 22 F dX0_bitsOfThose_68 rfl ?_
            exact G.lvs [2, 3, 4, 5, 0] rfl (ih x1 x4 x5 (x6 + 1) hf)
          · refine g_iload 58 4 F dX0_bitsOfThose_56 rfl rfl ?_
            refine g_iconst 59 (v := 1) F dX0_bitsOfThose_58 (by decide) rfl ?_
            refine g_iload 61 5 F dX0_bitsOfThose_59 rfl rfl ?_
            refine g_ishl 62 F dX0_bitsOfThose_61 rfl ?_
            refine g_ior 63 F dX0_bitsOfThose_62 rfl ?_
            refine g_istore 65 [(5, .int (x5 ||| (1 <<< (x6 &&& 31)))), (7, .ref (sa (5 * j3))), (0, .ref (cAf B (1 + r))), (1, .int x1), (4, .int x4), (6, .int x6)] F dX0_bitsOfThose_63 (lt_kn hn (by decide)) rfl rfl ?_
            refine g_iinc 68 5 (x6 + 1) [(6, .int (x6 + 1)), (5, .int (x5 ||| (1 <<< (x6 &&& 31)))), (7, .ref (sa (5 * j3))), (0, .ref (cAf B (1 + r))), (1, .int x1), (4, .int x4)] F dX0_bitsOfThose_65 rfl rfl (lt_kn hn (by decide)) rfl rfl ?_
            refine g_goto 22 F dX0_bitsOfThose_68 rfl ?_
            exact G.lvs [3, 4, 5, 1, 0] rfl (ih x1 x4 (x5 ||| (1 <<< (x6 &&& 31))) (x6 + 1) hf)
  unfold f_X0_bitsOfThose at hf
  refine g_iload_n 1 1 F dX0_bitsOfThose_0 rfl rfl ?_
  refine g_cSNi 4 (st := []) F hok (c_X5_canBeFiledDay (kl K) B sa h lk hw (kA K) S a1 _ rfl) ws_X5_canBeFiledDay (F.2.2.2.2.2.1.2.1 _ nl_X0_131) ⟨Nat.le_of_ble_eq_true rfl, Nat.le_of_ble_eq_true rfl⟩ rfl rfl (Nat.le_of_ble_eq_true rfl) ⟨Nat.zero_le _, Nat.zero_le _⟩ dX0_bitsOfThose_1 rfl ?_
  refine g_ifne_b 9 7 F dX0_bitsOfThose_4 rfl rfl hf (fun _ hf => ?_) (fun _ hf => ?_)
  · refine g_iload_n 10 2 F dX0_bitsOfThose_9 rfl rfl ?_
    refine g_iload_n 11 3 F dX0_bitsOfThose_10 rfl rfl ?_
    refine g_cSi 14 (st := []) F hok (c_X1_slotOf (kl K) B sa h lk hw (kA K) S a2 a3 _ rfl) ws_X1_slotOf ml_X0_108 ⟨Nat.le_of_ble_eq_true rfl, Nat.le_of_ble_eq_true rfl⟩ rfl rfl (Nat.le_of_ble_eq_true rfl) ⟨Nat.zero_le _, Nat.zero_le _⟩ dX0_bitsOfThose_11 rfl ?_
    refine g_istore 16 [(4, .int (f_X1_slotOf a2 a3)), (0, .ref (cAf B (1 + r))), (1, .int a1), (2, .int a2), (3, .int a3)] F dX0_bitsOfThose_14 (lt_kn hn (by decide)) rfl rfl ?_
    refine g_iconst 17 (v := 0) F dX0_bitsOfThose_16 (by decide) rfl ?_
    refine g_istore 19 [(5, .int 0), (4, .int (f_X1_slotOf a2 a3)), (0, .ref (cAf B (1 + r))), (1, .int a1), (2, .int a2), (3, .int a3)] F dX0_bitsOfThose_17 (lt_kn hn (by decide)) rfl rfl ?_
    refine g_iconst 20 (v := 0) F dX0_bitsOfThose_19 (by decide) rfl ?_
    refine g_istore 22 [(6, .int 0), (5, .int 0), (4, .int (f_X1_slotOf a2 a3)), (0, .ref (cAf B (1 + r))), (1, .int a1), (2, .int a2), (3, .int a3)] F dX0_bitsOfThose_20 (lt_kn hn (by decide)) rfl rfl ?_
    exact G.lvs [3, 4, 2, 1, 0] rfl (L_22 fu a1 (f_X1_slotOf a2 a3) 0 0 hf)
  · refine g_iconst 8 (v := 0) F dX0_bitsOfThose_7 (by decide) rfl ?_
    obtain rfl := Option.some.inj hf
    exact hR _ _ dX0_bitsOfThose_8
theorem c_X0_bitsOfThose (l : Launch) (B : CB) (sa : Nat → Nat) (h : Nat → Bool) (lk : Nat × Nat) (hw : cWf h lk) (A : Nat → Prop) (S : CS) (r : Nat) (a1 : Int32) (a2 : Int32) (a3 : Int32) (hr : r < 2) (q : Int32) (hf : f_X0_bitsOfThose h S r a1 a2 a3 = some q) : Ci l yX0_bitsOfThose cX0_bitsOfThose 8 (some .int) 1 21 (cX B A sa h lk) (cKf B A) A S [.ref (cAf B (1 + r)), .int a1, .int a2, .int a3] q S := by
  refine met_i (by decide +kernel) (Nat.le_of_ble_eq_true rfl) (fun K hl hA hn F hR => ?_)
  subst hl; subst hA
  exact w_X0_bitsOfThose B sa h lk hw K F hn S r a1 a2 a3 hr q hf hR
