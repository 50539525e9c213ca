set_option maxHeartbeats 4000000 in
set_option maxRecDepth 100000 in
theorem w_X5_violation (B : CB) (sa : Nat → Nat) (h : Nat → Bool) (lk : Nat × Nat) (hw : cWf h lk) (K : Ctx) (F : Fx K cX5_violation RX5 (cKf B (kA K)) 3 70) (hn : kn K = 4) (S : CS) (a1 : Int32) (a2 : Int32) (q : Int32 × CS) (hf : f_X5_violation h lk S a1 a2 = some q) (hR : ∀ (pc : Nat) (lv : List (Nat × Value)), decode cX5_violation pc = .ok (.ireturn, 1) → G K (cX B (kA K) sa h lk) 0 0 pc q.2 lv [.int q.1]) : G K (cX B (kA K) sa h lk) 0 0 0 S [(0, .ref (cAf B 0)), (1, .int a1), (2, .int a2)] [] := by
  have hok := cKf_ok B (kA K)
  unfold f_X5_violation at hf
  refine g_aload_n 1 0 F dX5_violation_0 rfl rfl ?_
  refine cg_X5_live 4 F fl_X5_10 dX5_violation_1 rfl ?_
  refine g_iload_n 5 1 F dX5_violation_4 rfl rfl ?_
  obtain ⟨q1, e2, hf⟩ := op_bd hf
  refine g_cVq 8 (st := []) F hok (c_X0_find (kl K) B sa h lk hw (kA K) S lk.1 a1 hw.1 q1 e2) wy_X0_find ml_X5_107 (c_rc_X0 F hw.1) ⟨Nat.le_of_ble_eq_true rfl, Nat.le_of_ble_eq_true rfl⟩ rfl rfl (Nat.le_of_ble_eq_true rfl) ⟨Nat.zero_le _, Nat.zero_le _⟩ dX5_violation_5 rfl ?_
  rcases op_oc hf with ⟨e4, hf⟩ | ⟨j3, e4, hf⟩
  · subst e4
    change G K (cX B (kA K) sa h lk) 0 0 8 S [(0, .ref (cAf B 0)), (1, .int a1), (2, .int a2)] [.null]
    refine g_astore_nN 9 [(3, .null), (0, .ref (cAf B 0)), (1, .int a1), (2, .int a2)] F dX5_violation_8 (lt_kn hn (by decide)) rfl rfl ?_
    refine g_aload_nN 10 0 F dX5_violation_9 rfl rfl ?_
    refine g_ifnonnullN 13 F dX5_violation_10 rfl ?_
    refine g_iconst 14 (v := (-1)) F dX5_violation_13 (by decide) rfl ?_
    obtain rfl := Option.some.inj hf
    exact hR _ _ dX5_violation_14
  · subst e4
    have hj3 : h j3 = true := find_has e2
    change G K (cX B (kA K) sa h lk) 0 0 8 S [(0, .ref (cAf B 0)), (1, .int a1), (2, .int a2)] [.ref (sa (5 * j3))]
    refine g_astore_n 9 [(3, .ref (sa (5 * j3))), (0, .ref (cAf B 0)), (1, .int a1), (2, .int a2)] F dX5_violation_8 (lt_kn hn (by decide)) rfl rfl ?_
    refine g_aload_n 10 0 F dX5_violation_9 rfl rfl ?_
    refine g_ifnonnull 15 F dX5_violation_10 rfl ?_
    refine g_aload_n 16 1 F dX5_violation_15 rfl rfl ?_
    refine cg_X5_tally 19 F fl_X5_22 dX5_violation_16 rfl ?_
    refine g_aload_n 20 0 F dX5_violation_19 rfl rfl ?_
    refine g_aload_n 21 1 F dX5_violation_20 rfl rfl ?_
    refine cg_X5_live 24 F fl_X5_10 dX5_violation_21 rfl ?_
    refine cg_X0_settings 27 F hw.1 fl_X5_169 dX5_violation_24 rfl ?_
    refine g_iconst 28 (v := (-1)) F dX5_violation_27 (by decide) rfl ?_
    obtain ⟨q5, e6, hf⟩ := op_bd hf
    refine g_cVv 31 (st := []) F hok (c_X2_goThrough (kl K) B sa h lk hw (kA K) S j3 lk.1 (-1) hj3 hw.1 q5 e6) wy_X2_goThrough ml_X5_172 (c_rc_X2 F) ⟨Nat.le_of_ble_eq_true rfl, Nat.le_of_ble_eq_true rfl⟩ rfl rfl (Nat.le_of_ble_eq_true rfl) ⟨Nat.zero_le _, Nat.zero_le _⟩ dX5_violation_28 rfl ?_
    refine g_aload_n 32 1 F dX5_violation_31 rfl rfl ?_
    refine cg_X5_tally 35 F fl_X5_22 dX5_violation_32 rfl ?_
    refine g_iload_n 36 3 F dX5_violation_35 rfl rfl ?_
    obtain ⟨q7, e8, hf⟩ := op_bd hf
    refine g_cVi 39 (st := []) F hok (c_X2_dayOfViolation (kl K) B sa h lk hw (kA K) q5 a2 q7 e8) wy_X2_dayOfViolation ml_X5_191 (c_rc_X2 F) ⟨Nat.le_of_ble_eq_true rfl, Nat.le_of_ble_eq_true rfl⟩ rfl rfl (Nat.le_of_ble_eq_true rfl) ⟨Nat.zero_le _, Nat.zero_le _⟩ dX5_violation_36 rfl ?_
    obtain rfl := Option.some.inj hf
    exact hR _ _ dX5_violation_39
theorem c_X5_violation (l : Launch) (B : CB) (sa : Nat → Nat) (h : Nat → Bool) (lk : Nat × Nat) (hw : cWf h lk) (A : Nat → Prop) (S : CS) (a1 : Int32) (a2 : Int32) (q : Int32 × CS) (hf : f_X5_violation h lk S a1 a2 = some q) : Ci l yX5_violation cX5_violation 4 (some .int) 3 70 (cX B A sa h lk) (cKf B A) A S [.ref (cAf B 0), .int a1, .int a2] q.1 q.2 := by
  refine met_i (by decide +kernel) (Nat.le_of_ble_eq_true rfl) (fun K hl hA hn F hR => ?_)
  subst hl; subst hA
  exact w_X5_violation B sa h lk hw K F hn S a1 a2 q hf hR
set_option maxHeartbeats 4000000 in
set_option maxRecDepth 100000 in
theorem w_X5_hole (B : CB) (sa : Nat → Nat) (h : Nat → Bool) (lk : Nat × Nat) (hw : cWf h lk) (K : Ctx) (F : Fx K cX5_hole RX5 (cKf B (kA K)) 1 23) (hn : kn K = 4) (S : CS) (a1 : Int32) (a2 : Int32) (q : Int32) (hf : f_X5_hole h lk S a1 a2 = some q) (hR : ∀ (pc : Nat) (lv : List (Nat × Value)), decode cX5_hole pc = .ok (.ireturn, 1) → G K (cX B (kA K) sa h lk) 0 0 pc S lv [.int q]) : G K (cX B (kA K) sa h lk) 0 0 0 S [(0, .ref (cAf B 0)), (1, .int a1), (2, .int a2)] [] := by
  have hok := cKf_ok B (kA K)
  unfold f_X5_hole at hf
  refine g_aload_n 1 0 F dX5_hole_0 rfl rfl ?_
  refine cg_X5_live 4 F fl_X5_10 dX5_hole_1 rfl ?_
  refine g_iload_n 5 1 F dX5_hole_4 rfl rfl ?_
  obtain ⟨q1, e2, hf⟩ := op_bd hf
  refine g_cVq 8 (st := []) F hok (c_X0_find (kl K) B sa h lk hw (kA K) S lk.1 a1 hw.1 q1 e2) wy_X0_find ml_X5_107 (c_rc_X0 F hw.1) ⟨Nat.le_of_ble_eq_true rfl, Nat.le_of_ble_eq_true rfl⟩ rfl rfl (Nat.le_of_ble_eq_true rfl) ⟨Nat.zero_le _, Nat.zero_le _⟩ dX5_hole_5 rfl ?_
  rcases op_oc hf with ⟨e4, hf⟩ | ⟨j3, e4, hf⟩
  · subst e4
    change G K (cX B (kA K) sa h lk) 0 0 8 S [(0, .ref (cAf B 0)), (1, .int a1), (2, .int a2)] [.null]
    refine g_astore_nN 9 [(3, .null), (0, .ref (cAf B 0)), (1, .int a1), (2, .int a2)] F dX5_hole_8 (lt_kn hn (by decide)) rfl rfl ?_
    refine g_aload_nN 10 0 F dX5_hole_9 rfl rfl ?_
    refine g_ifnonnullN 13 F dX5_hole_10 rfl ?_
    refine g_iconst 14 (v := (-1)) F dX5_hole_13 (by decide) rfl ?_
    refine g_goto 22 F dX5_hole_14 rfl ?_
    obtain rfl := Option.some.inj hf
    exact hR _ _ dX5_hole_22
  · subst e4
    have hj3 : h j3 = true := find_has e2
    change G K (cX B (kA K) sa h lk) 0 0 8 S [(0, .ref (cAf B 0)), (1, .int a1), (2, .int a2)] [.ref (sa (5 * j3))]
    refine g_astore_n 9 [(3, .ref (sa (5 * j3))), (0, .ref (cAf B 0)), (1, .int a1), (2, .int a2)] F dX5_hole_8 (lt_kn hn (by decide)) rfl rfl ?_
    refine g_aload_n 10 0 F dX5_hole_9 rfl rfl ?_
    refine g_ifnonnull 17 F dX5_hole_10 rfl ?_
    refine g_aload_n 18 0 F dX5_hole_17 rfl rfl ?_
    refine g_iload_n 19 3 F dX5_hole_18 rfl rfl ?_
    obtain ⟨q5, e6, hf⟩ := op_bd hf
    refine g_cVi 22 (st := []) F hok (c_X1_firstGap (kl K) B sa h lk hw (kA K) S j3 a2 hj3 q5 e6) wy_X1_firstGap ml_X5_194 (c_rc_X1 F hw hj3) ⟨Nat.le_of_ble_eq_true rfl, Nat.le_of_ble_eq_true rfl⟩ rfl rfl (Nat.le_of_ble_eq_true rfl) ⟨Nat.zero_le _, Nat.zero_le _⟩ dX5_hole_19 rfl ?_
    obtain rfl := Option.some.inj hf
    exact hR _ _ dX5_hole_22
theorem c_X5_hole (l : Launch) (B : CB) (sa : Nat → Nat) (h : Nat → Bool) (lk : Nat × Nat) (hw : cWf h lk) (A : Nat → Prop) (S : CS) (a1 : Int32) (a2 : Int32) (q : Int32) (hf : f_X5_hole h lk S a1 a2 = some q) : Ci l yX5_hole cX5_hole 4 (some .int) 1 23 (cX B A sa h lk) (cKf B A) A S [.ref (cAf B 0), .int a1, .int a2] q S := by
  refine met_i (by decide +kernel) (Nat.le_of_ble_eq_true rfl) (fun K hl hA hn F hR => ?_)
  subst hl; subst hA
  exact w_X5_hole B sa h lk hw K F hn S a1 a2 q hf hR
set_option maxHeartbeats 4000000 in
set_option maxRecDepth 100000 in
theorem w_X5_pointsOf (B : CB) (sa : Nat → Nat) (h : Nat → Bool) (lk : Nat × Nat) (hw : cWf h lk) (K : Ctx) (F : Fx K cX5_pointsOf RX5 (cKf B (kA K)) 3 70) (hn : kn K = 2) (S : CS) (j : Nat) (hj : h j = true) (q : Int32 × CS) (hf : f_X5_pointsOf lk S j = some q) (hR : ∀ (pc : Nat) (lv : List (Nat × Value)), decode cX5_pointsOf pc = .ok (.ireturn, 1) → G K (cX B (kA K) sa h lk) 0 0 pc q.2 lv [.int q.1]) : G K (cX B (kA K) sa h lk) 0 0 0 S [(0, .ref (cAf B 0)), (1, .ref (sa (5 * j)))] [] := by
  have hok := cKf_ok B (kA K)
  unfold f_X5_pointsOf at hf
  refine g_aload_n 1 0 F dX5_pointsOf_0 rfl rfl ?_
  refine cg_X5_tally 4 F fl_X5_22 dX5_pointsOf_1 rfl ?_
  refine g_aload_n 5 1 F dX5_pointsOf_4 rfl rfl ?_
  refine g_aload_n 6 0 F dX5_pointsOf_5 rfl rfl ?_
  refine cg_X5_live 9 F fl_X5_10 dX5_pointsOf_6 rfl ?_
  refine cg_X0_settings 12 F hw.1 fl_X5_169 dX5_pointsOf_9 rfl ?_
  refine g_iconst 13 (v := (-1)) F dX5_pointsOf_12 (by decide) rfl ?_
  obtain ⟨q1, e2, hf⟩ := op_bd hf
  refine g_cVv 16 (st := []) F hok (c_X2_goThrough (kl K) B sa h lk hw (kA K) S j lk.1 (-1) hj hw.1 q1 e2) wy_X2_goThrough ml_X5_172 (c_rc_X2 F) ⟨Nat.le_of_ble_eq_true rfl, Nat.le_of_ble_eq_true rfl⟩ rfl rfl (Nat.le_of_ble_eq_true rfl) ⟨Nat.zero_le _, Nat.zero_le _⟩ dX5_pointsOf_13 rfl ?_
  refine g_aload_n 17 0 F dX5_pointsOf_16 rfl rfl ?_
  refine cg_X5_tally 20 F fl_X5_22 dX5_pointsOf_17 rfl ?_
  refine g_aload_n 21 0 F dX5_pointsOf_20 rfl rfl ?_
  refine cg_X5_live 24 F fl_X5_10 dX5_pointsOf_21 rfl ?_
  refine cg_X0_day 27 F hw.1 fl_X5_98 dX5_pointsOf_24 rfl ?_
  obtain ⟨q3, e4, hf⟩ := op_bd hf
  refine g_cVi 30 (st := []) F hok (c_X2_pointsOn (kl K) B sa h lk hw (kA K) q1 (cR q1 lk.1 0) q3 e4) wy_X2_pointsOn ml_X5_251 (c_rc_X2 F) ⟨Nat.le_of_ble_eq_true rfl, Nat.le_of_ble_eq_true rfl⟩ rfl rfl (Nat.le_of_ble_eq_true rfl) ⟨Nat.zero_le _, Nat.zero_le _⟩ dX5_pointsOf_27 rfl ?_
  obtain rfl := Option.some.inj hf
  exact hR _ _ dX5_pointsOf_30
theorem c_X5_pointsOf (l : Launch) (B : CB) (sa : Nat → Nat) (h : Nat → Bool) (lk : Nat × Nat) (hw : cWf h lk) (A : Nat → Prop) (S : CS) (j : Nat) (hj : h j = true) (q : Int32 × CS) (hf : f_X5_pointsOf lk S j = some q) : Ci l yX5_pointsOf cX5_pointsOf 2 (some .int) 3 70 (cX B A sa h lk) (cKf B A) A S [.ref (cAf B 0), .ref (sa (5 * j))] q.1 q.2 := by
  refine met_i (by decide +kernel) (Nat.le_of_ble_eq_true rfl) (fun K hl hA hn F hR => ?_)
  subst hl; subst hA
  exact w_X5_pointsOf B sa h lk hw K F hn S j hj q hf hR
set_option maxHeartbeats 4000000 in
set_option maxRecDepth 100000 in
theorem w_X5_weightOf (B : CB) (sa : Nat → Nat) (h : Nat → Bool) (lk : Nat × Nat) (hw : cWf h lk) (K : Ctx) (F : Fx K cX5_weightOf RX5 (cKf B (kA K)) 4 91) (hn : kn K = 3) (S : CS) (j : Nat) (hj : h j = true) (q : Int32 × CS) (hf : f_X5_weightOf lk S j = some q) (hR : ∀ (pc : Nat) (lv : List (Nat × Value)), decode cX5_weightOf pc = .ok (.ireturn, 1) → G K (cX B (kA K) sa h lk) 0 0 pc q.2 lv [.int q.1]) : G K (cX B (kA K) sa h lk) 0 0 0 S [(0, .ref (cAf B 0)), (1, .ref (sa (5 * j)))] [] := by
  have hok := cKf_ok B (kA K)
  have J_19 : ∀ (S : CS) (t0 : Int32), j_X5_weightOf_19 lk j S t0 = some q → G K (cX B (kA K) sa h lk) 0 0 19 S [(0, .ref (cAf B 0)), (1, .ref (sa (5 * j)))] [.int t0] := by
    intro S t0 hf
    unfold j_X5_weightOf_19 at hf
    refine g_istore_n 20 [(2, .int t0), (0, .ref (cAf B 0)), (1, .ref (sa (5 * j)))] F dX5_weightOf_19 (lt_kn hn (by decide)) rfl rfl ?_
    refine g_aload_n 21 2 F dX5_weightOf_20 rfl rfl ?_
    refine cg_X1_risk 24 F hw hj fl_X5_118 dX5_weightOf_21 rfl ?_
    refine g_iconst 25 (v := 1) F dX5_weightOf_24 (by decide) rfl ?_
    refine g_aload_n 26 1 F dX5_weightOf_25 rfl rfl ?_
    refine cg_X5_live 29 F fl_X5_10 dX5_weightOf_26 rfl ?_
    refine cg_X0_day 32 F hw.1 fl_X5_98 dX5_weightOf_29 rfl ?_
    refine g_iadd 33 F dX5_weightOf_32 rfl ?_
    refine g_iload_n 34 0 F dX5_weightOf_33 rfl rfl ?_
    refine g_isub 35 F dX5_weightOf_34 rfl ?_
    refine g_imul 36 F dX5_weightOf_35 rfl ?_
    refine g_iconst 37 (v := 1) F dX5_weightOf_36 (by decide) rfl ?_
    refine g_aload_n 38 1 F dX5_weightOf_37 rfl rfl ?_
    refine g_aload_n 39 2 F dX5_weightOf_38 rfl rfl ?_
    obtain ⟨q1, e2, hf⟩ := op_bd hf
    refine g_cVi 42 (st := [.int 1, .int ((cP S j 0) * ((1 + (cR S lk.1 0)) - t0))]) F hok (c_X5_pointsOf (kl K) B sa h lk hw (kA K) S j hj q1 e2) wy_X5_pointsOf ml_X5_123 (c_rc_X5 F) ⟨Nat.le_of_ble_eq_true rfl, Nat.le_of_ble_eq_true rfl⟩ rfl rfl (Nat.le_of_ble_eq_true rfl) ⟨Nat.zero_le _, Nat.zero_le _⟩ dX5_weightOf_39 rfl ?_
    refine g_iadd 43 F dX5_weightOf_42 rfl ?_
    refine g_imul 44 F dX5_weightOf_43 rfl ?_
    obtain rfl := Option.some.inj hf
    exact hR _ _ dX5_weightOf_44
  unfold f_X5_weightOf at hf
  refine g_aload_n 1 1 F dX5_weightOf_0 rfl rfl ?_
  refine cg_X1_lastTest 4 F hw hj fl_X5_142 dX5_weightOf_1 rfl ?_
  refine g_iconst 5 (v := (-1)) F dX5_weightOf_4 (by decide) rfl ?_
  refine g_icmp_ne 15 8 F dX5_weightOf_5 rfl rfl hf (fun _ hf => ?_) (fun _ hf => ?_)
  · refine g_aload_n 16 1 F dX5_weightOf_15 rfl rfl ?_
    refine cg_X1_lastTest 19 F hw hj fl_X5_142 dX5_weightOf_16 rfl ?_
    exact G.lvs [0, 1] rfl (J_19 S (cP S j 5) hf)
  · refine g_aload_n 9 1 F dX5_weightOf_8 rfl rfl ?_
    refine cg_X1_came 12 F hw hj fl_X5_148 dX5_weightOf_9 rfl ?_
    refine g_goto 19 F dX5_weightOf_12 rfl ?_
    exact G.lvs [0, 1] rfl (J_19 S (cP S j 1) hf)
theorem c_X5_weightOf (l : Launch) (B : CB) (sa : Nat → Nat) (h : Nat → Bool) (lk : Nat × Nat) (hw : cWf h lk) (A : Nat → Prop) (S : CS) (j : Nat) (hj : h j = true) (q : Int32 × CS) (hf : f_X5_weightOf lk S j = some q) : Ci l yX5_weightOf cX5_weightOf 3 (some .int) 4 91 (cX B A sa h lk) (cKf B A) A S [.ref (cAf B 0), .ref (sa (5 * j))] q.1 q.2 := by
  refine met_i (by decide +kernel) (Nat.le_of_ble_eq_true rfl) (fun K hl hA hn F hR => ?_)
  subst hl; subst hA
  exact w_X5_weightOf B sa h lk hw K F hn S j hj q hf hR
set_option maxHeartbeats 4000000 in
set_option maxRecDepth 100000 in
theorem w_X5_weighAll (B : CB) (sa : Nat → Nat) (h : Nat → Bool) (lk : Nat × Nat) (hw : cWf h lk) (K : Ctx) (F : Fx K cX5_weighAll RX5 (cKf B (kA K)) 5 113) (hn : kn K = 4) (S : CS) (q : Int32 × CS) (hf : f_X5_weighAll h lk S = some q) (hR : ∀ (pc : Nat) (lv : List (Nat × Value)), decode cX5_weighAll pc = .ok (.ireturn, 1) → G K (cX B (kA K) sa h lk) 0 0 pc q.2 lv [.int q.1]) : G K (cX B (kA K) sa h lk) 0 0 0 S [(0, .ref (cAf B 0))] [] := by
  have hok := cKf_ok B (kA K)
  have J_37 : ∀ (r4 : CS → Int32 → Int32 → Option (Int32 × CS)) (h4 : ∀ (S : CS) (x1 : Int32) (x2 : Int32), r4 S x1 x2 = some q → G K (cX B (kA K) sa h lk) 0 0 4 S [(0, .ref (cAf B 0)), (1, .int x1), (2, .int x2)] []) (S : CS) (x1 : Int32) (x2 : Int32) (t0 : Int32) (t1 : Int32), j_X5_weighAll_37 h lk r4 S x1 x2 t0 t1 = some q → G K (cX B (kA K) sa h lk) 0 0 37 S [(0, .ref (cAf B 0)), (1, .int x1), (2, .int x2)] [.int t0, .int t1, .ref (cAf B 15)] := by
    intro r4 h4 S x1 x2 t0 t1 hf
    unfold j_X5_weighAll_37 at hf
    obtain ⟨h5, hf⟩ := op_ok hf
    refine cs_A7 38 F h5 dX5_weighAll_37 rfl ?_
    refine g_iload_n 39 1 F dX5_weighAll_38 rfl rfl ?_
    refine g_aload_n 40 0 F dX5_weighAll_39 rfl rfl ?_
    refine cg_X5_weights 43 F fl_X5_42 dX5_weighAll_40 rfl ?_
    refine g_iload_n 44 2 F dX5_weighAll_43 rfl rfl ?_
    obtain ⟨h6, hf⟩ := op_ok hf
    refine cl_A7 45 F h6 dX5_weighAll_44 rfl ?_
    refine g_iadd 46 F dX5_weighAll_45 rfl ?_
    refine g_istore_n 47 [(1, .int (x1 + (cA (sA S 7 t1.toNatClampNeg t0) 7 x2.toNatClampNeg))), (0, .ref (cAf B 0)), (2, .int x2)] F dX5_weighAll_46 (lt_kn hn (by decide)) rfl rfl ?_
    refine g_iinc 50 2 (x2 + 1) [(2, .int (x2 + 1)), (1, .int (x1 + (cA (sA S 7 t1.toNatClampNeg t0) 7 x2.toNatClampNeg))), (0, .ref (cAf B 0))] F dX5_weighAll_47 rfl rfl (lt_kn hn (by decide)) rfl rfl ?_
    refine g_goto 4 F dX5_weighAll_50 rfl ?_
    exact G.lvs [2, 1, 0] rfl (h4 (sA S 7 t1.toNatClampNeg t0) (x1 + (cA (sA S 7 t1.toNatClampNeg t0) 7 x2.toNatClampNeg)) (x2 + 1) hf)
  have L_4 : ∀ (n : Nat) (S : CS) (x1 : Int32) (x2 : Int32), l_X5_weighAll_4 h lk n S x1 x2 = some q → G K (cX B (kA K) sa h lk) 0 0 4 S [(0, .ref (cAf B 0)), (1, .int x1), (2, .int x2)] [] := by
    intro n
    induction n with
    | zero =>
      intro S x1 x2 hf
      rw [l_X5_weighAll_4] at hf
      cases hf
    | succ n ih =>
      intro S x1 x2 hf
      rw [l_X5_weighAll_4] at hf
      refine g_iload_n 5 2 F dX5_weighAll_4 rfl rfl ?_
      refine g_bipush 7 (v := 6) F dX5_weighAll_5 (by decide) rfl ?_
      refine g_icmp_ge 53 10 F dX5_weighAll_7 rfl rfl hf (fun _ hf => ?_) (fun _ hf => ?_)
      · refine g_iload_n 54 1 F dX5_weighAll_53 rfl rfl ?_
        obtain rfl := Option.some.inj hf
        exact hR _ _ dX5_weighAll_54
      · refine g_aload_n 11 0 F dX5_weighAll_10 rfl rfl ?_
        refine cg_X5_live 14 F fl_X5_10 dX5_weighAll_11 rfl ?_
        refine g_iload_n 15 2 F dX5_weighAll_14 rfl rfl ?_
        obtain ⟨q1, e2, hf⟩ := op_bd hf
        refine g_cVq 18 (st := []) F hok (c_X0_find (kl K) B sa h lk hw (kA K) S lk.1 x2 hw.1 q1 e2) wy_X0_find ml_X5_107 (c_rc_X0 F hw.1) ⟨Nat.le_of_ble_eq_true rfl, Nat.le_of_ble_eq_true rfl⟩ rfl rfl (Nat.le_of_ble_eq_true rfl) ⟨Nat.zero_le _, Nat.zero_le _⟩ dX5_weighAll_15 rfl ?_
        rcases op_oc hf with ⟨e4, hf⟩ | ⟨j3, e4, hf⟩
        · subst e4
          change G K (cX B (kA K) sa h lk) 0 0 18 S [(0, .ref (cAf B 0)), (1, .int x1), (2, .int x2)] [.null]
          refine g_astore_nN 19 [(3, .null), (0, .ref (cAf B 0)), (1, .int x1), (2, .int x2)] F dX5_weighAll_18 (lt_kn hn (by decide)) rfl rfl ?_
          refine g_aload_n 20 1 F dX5_weighAll_19 rfl rfl ?_
          refine cg_X5_weights 23 F fl_X5_42 dX5_weighAll_20 rfl ?_
          refine g_iload_n 24 3 F dX5_weighAll_23 rfl rfl ?_
          refine g_aload_nN 25 0 F dX5_weighAll_24 rfl rfl ?_
          refine g_ifnonnullN 28 F dX5_weighAll_25 rfl ?_
          refine g_iconst 29 (v := 0) F dX5_weighAll_28 (by decide) rfl ?_
          refine g_goto 37 F dX5_weighAll_29 rfl ?_
          exact G.lvs [1, 2, 3] rfl (J_37 (l_X5_weighAll_4 h lk n) ih S x1 x2 0 x2 hf)
        · subst e4
          have hj3 : h j3 = true := find_has e2
          change G K (cX B (kA K) sa h lk) 0 0 18 S [(0, .ref (cAf B 0)), (1, .int x1), (2, .int x2)] [.ref (sa (5 * j3))]
          refine g_astore_n 19 [(3, .ref (sa (5 * j3))), (0, .ref (cAf B 0)), (1, .int x1), (2, .int x2)] F dX5_weighAll_18 (lt_kn hn (by decide)) rfl rfl ?_
          refine g_aload_n 20 1 F dX5_weighAll_19 rfl rfl ?_
          refine cg_X5_weights 23 F fl_X5_42 dX5_weighAll_20 rfl ?_
          refine g_iload_n 24 3 F dX5_weighAll_23 rfl rfl ?_
          refine g_aload_n 25 0 F dX5_weighAll_24 rfl rfl ?_
          refine g_ifnonnull 32 F dX5_weighAll_25 rfl ?_
          refine g_aload_n 33 1 F dX5_weighAll_32 rfl rfl ?_
          refine g_aload_n 34 0 F dX5_weighAll_33 rfl rfl ?_
          obtain ⟨q7, e8, hf⟩ := op_bd hf
          refine g_cVi 37 (st := [.int x2, .ref (cAf B 15)]) F hok (c_X5_weightOf (kl K) B sa h lk hw (kA K) S j3 hj3 q7 e8) wy_X5_weightOf ml_X5_145 (c_rc_X5 F) ⟨Nat.le_of_ble_eq_true rfl, Nat.le_of_ble_eq_true rfl⟩ rfl rfl (Nat.le_of_ble_eq_true rfl) ⟨Nat.zero_le _, Nat.zero_le _⟩ dX5_weighAll_34 rfl ?_
          exact G.lvs [1, 2, 3] rfl (J_37 (l_X5_weighAll_4 h lk n) ih q7.2 x1 x2 q7.1 x2 hf)
  unfold f_X5_weighAll at hf
  refine g_iconst 1 (v := 0) F dX5_weighAll_0 (by decide) rfl ?_
  refine g_istore_n 2 [(1, .int 0), (0, .ref (cAf B 0))] F dX5_weighAll_1 (lt_kn hn (by decide)) rfl rfl ?_
  refine g_iconst 3 (v := 0) F dX5_weighAll_2 (by decide) rfl ?_
  refine g_istore_n 4 [(2, .int 0), (1, .int 0), (0, .ref (cAf B 0))] F dX5_weighAll_3 (lt_kn hn (by decide)) rfl rfl ?_
  exact G.lvs [2, 1, 0] rfl (L_4 fu S 0 0 hf)
theorem c_X5_weighAll (l : Launch) (B : CB) (sa : Nat → Nat) (h : Nat → Bool) (lk : Nat × Nat) (hw : cWf h lk) (A : Nat → Prop) (S : CS) (q : Int32 × CS) (hf : f_X5_weighAll h lk S = some q) : Ci l yX5_weighAll cX5_weighAll 4 (some .int) 5 113 (cX B A sa h lk) (cKf B A) A S [.ref (cAf B 0)] q.1 q.2 := by
  refine met_i (by decide +kernel) (Nat.le_of_ble_eq_true rfl) (fun K hl hA hn F hR => ?_)
  subst hl; subst hA
  exact w_X5_weighAll B sa h lk hw K F hn S q hf hR
set_option maxHeartbeats 4000000 in
set_option maxRecDepth 100000 in
theorem w_X5_firstAbove (B : CB) (sa : Nat → Nat) (h : Nat → Bool) (lk : Nat × Nat) (hw : cWf h lk) (K : Ctx) (F : Fx K cX5_firstAbove RX5 (cKf B (kA K)) 0 0) (hn : kn K = 6) (S : CS) (a1 : Int64) (q : Int32) (hf : f_X5_firstAbove S a1 = some q) (hR : ∀ (pc : Nat) (lv : List (Nat × Value)), decode cX5_firstAbove pc = .ok (.ireturn, 1) → G K (cX B (kA K) sa h lk) 0 0 pc S lv [.int q]) : G K (cX B (kA K) sa h lk) 0 0 0 S [(0, .ref (cAf B 0)), (1, .long a1)] [] := by
  have hok := cKf_ok B (kA K)
  have L_5 : ∀ (n : Nat) (x1 : Int64) (x3 : Int64) (x5 : Int32), l_X5_firstAbove_5 S n x1 x3 x5 = some q → G K (cX B (kA K) sa h lk) 0 0 5 S [(0, .ref (cAf B 0)), (1, .long x1), (3, .long x3), (5, .int x5)] [] := by
    intro n
    induction n with
    | zero =>
      intro x1 x3 x5 hf
      rw [l_X5_firstAbove_5] at hf
      cases hf
    | succ n ih =>
      intro x1 x3 x5 hf
      rw [l_X5_firstAbove_5] at hf
      refine g_iload 7 3 F dX5_firstAbove_5 rfl rfl ?_
      refine g_bipush 9 (v := 6) F dX5_firstAbove_7 (by decide) rfl ?_
      refine g_icmp_ge 38 12 F dX5_firstAbove_9 rfl rfl hf (fun _ hf => ?_) (fun _ hf => ?_)
      · refine g_iconst 39 (v := (-1)) F dX5_firstAbove_38 (by decide) rfl ?_
        obtain rfl := Option.some.inj hf
        exact hR _ _ dX5_firstAbove_39
      · refine g_lload_n 13 2 F dX5_firstAbove_12 rfl rfl ?_
        refine g_aload_n 14 0 F dX5_firstAbove_13 rfl rfl ?_
        refine cg_X5_weights 17 F fl_X5_42 dX5_firstAbove_14 rfl ?_
        refine g_iload 19 3 F dX5_firstAbove_17 rfl rfl ?_
        obtain ⟨h1, hf⟩ := op_ok hf
        refine cl_A7 20 F h1 dX5_firstAbove_19 rfl ?_
        refine g_i2l 21 F dX5_firstAbove_20 rfl ?_
        refine g_ladd 22 F dX5_firstAbove_21 rfl ?_
        refine g_lstore_n 23 [(3, .long (x3 + (cA S 7 x5.toNatClampNeg).toInt64)), (0, .ref (cAf B 0)), (1, .long x1), (5, .int x5)] F dX5_firstAbove_22 (lt_kn hn (by decide)) rfl rfl ?_
        refine g_lload_n 24 0 F dX5_firstAbove_23 rfl rfl ?_
        refine g_lload_n 25 2 F dX5_firstAbove_24 rfl rfl ?_
        refine g_lcmp 26 F dX5_firstAbove_25 rfl ?_
        refine g_if_le 32 29 F dX5_firstAbove_26 rfl rfl hf (fun _ hf => ?_) (fun _ hf => ?_)
        · refine g_iinc 35 3 (x5 + 1) [(5, .int (x5 + 1)), (3, .long (x3 + (cA S 7 x5.toNatClampNeg).toInt64)), (0, .ref (cAf B 0)), (1, .long x1)] F dX5_firstAbove_32 rfl rfl (lt_kn hn (by decide)) rfl rfl ?_
          refine g_goto 5 F dX5_firstAbove_35 rfl ?_
          exact G.lvs [2, 3, 1, 0] rfl (ih x1 (x3 + (cA S 7 x5.toNatClampNeg).toInt64) (x5 + 1) hf)
        · refine g_iload 31 3 F dX5_firstAbove_29 rfl rfl ?_
          obtain rfl := Option.some.inj hf
          exact hR _ _ dX5_firstAbove_31
  unfold f_X5_firstAbove at hf
  refine g_lconst 1 (v := 0) F dX5_firstAbove_0 (by decide) rfl ?_
  refine g_lstore_n 2 [(3, .long 0), (0, .ref (cAf B 0)), (1, .long a1)] F dX5_firstAbove_1 (lt_kn hn (by decide)) rfl rfl ?_
  refine g_iconst 3 (v := 0) F dX5_firstAbove_2 (by decide) rfl ?_
  refine g_istore 5 [(5, .int 0), (3, .long 0), (0, .ref (cAf B 0)), (1, .long a1)] F dX5_firstAbove_3 (lt_kn hn (by decide)) rfl rfl ?_
  exact G.lvs [2, 3, 1, 0] rfl (L_5 fu a1 0 0 hf)
theorem c_X5_firstAbove (l : Launch) (B : CB) (sa : Nat → Nat) (h : Nat → Bool) (lk : Nat × Nat) (hw : cWf h lk) (A : Nat → Prop) (S : CS) (a1 : Int64) (q : Int32) (hf : f_X5_firstAbove S a1 = some q) : Ci l yX5_firstAbove cX5_firstAbove 6 (some .int) 0 0 (cX B A sa h lk) (cKf B A) A S [.ref (cAf B 0), .long a1] q S := by
  refine met_i (by decide +kernel) (Nat.le_of_ble_eq_true rfl) (fun K hl hA hn F hR => ?_)
  subst hl; subst hA
  exact w_X5_firstAbove B sa h lk hw K F hn S a1 q hf hR
set_option maxHeartbeats 4000000 in
set_option maxRecDepth 100000 in
theorem w_X5_lot (B : CB) (sa : Nat → Nat) (h : Nat → Bool) (lk : Nat × Nat) (hw : cWf h lk) (K : Ctx) (F : Fx K cX5_lot RX5 (cKf B (kA K)) 6 136) (hn : kn K = 10) (S : CS) (a1 : Int32) (a2 : Int32) (q : Int32 × CS) (hf : f_X5_lot h lk S a1 a2 = some q) (hR : ∀ (pc : Nat) (lv : List (Nat × Value)), decode cX5_lot pc = .ok (.ireturn, 1) → G K (cX B (kA K) sa h lk) 0 0 pc q.2 lv [.int q.1]) : G K (cX B (kA K) sa h lk) 0 0 0 S [(0, .ref (cAf B 0)), (1, .int a1), (2, .int a2)] [] := by
  have hok := cKf_ok B (kA K)
  have L_38 : ∀ (n : Nat) (S : CS) (x2 : Int32) (x3 : Int64) (x5 : Int64) (x7 : Int32) (x8 : Int32), l_X5_lot_38 h lk n S x2 x3 x5 x7 x8 = some q → G K (cX B (kA K) sa h lk) 0 0 38 S [(0, .ref (cAf B 0)), (2, .int x2), (3, .long x3), (5, .long x5), (7, .int x7), (8, .int x8)] [] := by
    intro n
    induction n with
    | zero =>
      intro S x2 x3 x5 x7 x8 hf
      rw [l_X5_lot_38] at hf
      cases hf
    | succ n ih =>
      intro S x2 x3 x5 x7 x8 hf
      rw [l_X5_lot_38] at hf
      refine g_iload 40 5 F dX5_lot_38 rfl rfl ?_
      refine g_iload_n 41 1 F dX5_lot_40 rfl rfl ?_
      refine g_icmp_ge 119 44 F dX5_lot_41 rfl rfl hf (fun _ hf => ?_) (fun _ hf => ?_)
      · refine g_iload 121 4 F dX5_lot_119 rfl rfl ?_
        obtain rfl := Option.some.inj hf
        exact hR _ _ dX5_lot_121
      · refine g_lload_n 45 2 F dX5_lot_44 rfl rfl ?_
        refine g_lconst 46 (v := 0) F dX5_lot_45 (by decide) rfl ?_
        refine g_lcmp 47 F dX5_lot_46 rfl ?_
        refine g_if_le 119 50 F dX5_lot_47 rfl rfl hf (fun _ hf => ?_) (fun _ hf => ?_)
        · refine g_iload 121 4 F dX5_lot_119 rfl rfl ?_
          obtain rfl := Option.some.inj hf
          exact hR _ _ dX5_lot_121
        · refine g_ldc2 53 F cn_X5_201 dX5_lot_50 rfl ?_
          refine g_lload 55 3 F dX5_lot_53 rfl rfl ?_
          refine g_lmul 56 F dX5_lot_55 rfl ?_
          refine g_ldc2 59 F cn_X5_203 dX5_lot_56 rfl ?_
          refine g_ladd 60 F dX5_lot_59 rfl ?_
          refine g_ldc2 63 F cn_X5_205 dX5_lot_60 rfl ?_
          refine g_lrem 64 F dX5_lot_63 (by decide) rfl ?_
          refine g_lstore 66 [(5, .long (((1103515245 * x5) + 12345) - ((1103515245 * x5) + 12345) / 2147483648 * 2147483648)), (0, .ref (cAf B 0)), (2, .int x2), (3, .long x3), (7, .int x7), (8, .int x8)] F dX5_lot_64 (lt_kn hn (by decide)) rfl rfl ?_
          refine g_aload_n 67 1 F dX5_lot_66 rfl rfl ?_
          refine g_lload 69 0 F dX5_lot_67 rfl rfl ?_
          refine g_lload_n 70 3 F dX5_lot_69 rfl rfl ?_
          obtain ⟨h3, hf⟩ := op_ok hf
          refine g_lrem 71 F dX5_lot_70 h3 rfl ?_
          obtain ⟨q4, e5, hf⟩ := op_bd hf
          refine g_cVi 74 (st := []) F hok (c_X5_firstAbove (kl K) B sa h lk hw (kA K) S ((((1103515245 * x5) + 12345) - ((1103515245 * x5) + 12345) / 2147483648 * 2147483648) - (((1103515245 * x5) + 12345) - ((1103515245 * x5) + 12345) / 2147483648 * 2147483648) / x3 * x3) q4 e5) wy_X5_firstAbove ml_X5_207 (c_rc_X5 F) ⟨Nat.le_of_ble_eq_true rfl, Nat.le_of_ble_eq_true rfl⟩ rfl rfl (Nat.le_of_ble_eq_true rfl) ⟨Nat.zero_le _, Nat.zero_le _⟩ dX5_lot_71 rfl ?_
          refine g_istore 76 [(9, .int q4), (5, .long (((1103515245 * x5) + 12345) - ((1103515245 * x5) + 12345) / 2147483648 * 2147483648)), (0, .ref (cAf B 0)), (2, .int x2), (3, .long x3), (7, .int x7), (8, .int x8)] F dX5_lot_74 (lt_kn hn (by decide)) rfl rfl ?_
          refine g_iload 78 0 F dX5_lot_76 rfl rfl ?_
          refine g_iconst 79 (v := (-1)) F dX5_lot_78 (by decide) rfl ?_
          refine g_icmp_ne 84 82 F dX5_lot_79 rfl rfl hf (fun _ hf => ?_) (fun _ hf => ?_)
          · refine g_lload_n 85 4 F dX5_lot_84 rfl rfl ?_
            refine g_aload_n 86 2 F dX5_lot_85 rfl rfl ?_
            refine cg_X5_weights 89 F fl_X5_42 dX5_lot_86 rfl ?_
            refine g_iload 91 0 F dX5_lot_89 rfl rfl ?_
            obtain ⟨h6, hf⟩ := op_ok hf
            refine cl_A7 92 F h6 dX5_lot_91 rfl ?_
            refine g_i2l 93 F dX5_lot_92 rfl ?_
            refine g_lsub 94 F dX5_lot_93 rfl ?_
            refine g_lstore_n 95 [(3, .long (x3 - (cA S 7 q4.toNatClampNeg).toInt64)), (9, .int q4), (5, .long (((1103515245 * x5) + 12345) - ((1103515245 * x5) + 12345) / 2147483648 * 2147483648)), (0, .ref (cAf B 0)), (2, .int x2), (7, .int x7), (8, .int x8)] F dX5_lot_94 (lt_kn hn (by decide)) rfl rfl ?_
            refine g_aload_n 96 3 F dX5_lot_95 rfl rfl ?_
            refine cg_X5_weights 99 F fl_X5_42 dX5_lot_96 rfl ?_
            refine g_iload 101 1 F dX5_lot_99 rfl rfl ?_
            refine g_iconst 102 (v := 0) F dX5_lot_101 (by decide) rfl ?_
            obtain ⟨h7, hf⟩ := op_ok hf
            refine cs_A7 103 F h7 dX5_lot_102 rfl ?_
            refine g_iload 105 5 F dX5_lot_103 rfl rfl ?_
            refine g_bipush 107 (v := 10) F dX5_lot_105 (by decide) rfl ?_
            refine g_imul 108 F dX5_lot_107 rfl ?_
            refine g_iload 110 1 F dX5_lot_108 rfl rfl ?_
            refine g_iadd 111 F dX5_lot_110 rfl ?_
            refine g_istore 113 [(7, .int ((x7 * 10) + q4)), (3, .long (x3 - (cA S 7 q4.toNatClampNeg).toInt64)), (9, .int q4), (5, .long (((1103515245 * x5) + 12345) - ((1103515245 * x5) + 12345) / 2147483648 * 2147483648)), (0, .ref (cAf B 0)), (2, .int x2), (8, .int x8)] F dX5_lot_111 (lt_kn hn (by decide)) rfl rfl ?_
            refine g_iinc 116 6 (x8 + 1) [(8, .int (x8 + 1)), (7, .int ((x7 * 10) + q4)), (3, .long (x3 - (cA S 7 q4.toNatClampNeg).toInt64)), (9, .int q4), (5, .long (((1103515245 * x5) + 12345) - ((1103515245 * x5) + 12345) / 2147483648 * 2147483648)), (0, .ref (cAf B 0)), (2, .int x2)] F dX5_lot_113 rfl rfl (lt_kn hn (by decide)) rfl rfl ?_
            refine g_goto 38 F dX5_lot_116 rfl ?_
            exact G.lvs [5, 6, 2, 4, 1, 0] rfl (ih (sA S 7 q4.toNatClampNeg 0) x2 (x3 - (cA S 7 q4.toNatClampNeg).toInt64) (((1103515245 * x5) + 12345) - ((1103515245 * x5) + 12345) / 2147483648 * 2147483648) ((x7 * 10) + q4) (x8 + 1) hf)
          · refine g_iconst 83 (v := (-1)) F dX5_lot_82 (by decide) rfl ?_
            obtain rfl := Option.some.inj hf
            exact hR _ _ dX5_lot_83
  unfold f_X5_lot at hf
  refine g_iload_n 1 1 F dX5_lot_0 rfl rfl ?_
  refine g_if_lt 20 4 F dX5_lot_1 rfl rfl hf (fun _ hf => ?_) (fun _ hf => ?_)
  · refine g_iconst 21 (v := (-1)) F dX5_lot_20 (by decide) rfl ?_
    obtain rfl := Option.some.inj hf
    exact hR _ _ dX5_lot_21
  · refine g_iload_n 5 2 F dX5_lot_4 rfl rfl ?_
    refine g_iconst 6 (v := 1) F dX5_lot_5 (by decide) rfl ?_
    refine g_icmp_lt 20 9 F dX5_lot_6 rfl rfl hf (fun _ hf => ?_) (fun _ hf => ?_)
    · refine g_iconst 21 (v := (-1)) F dX5_lot_20 (by decide) rfl ?_
      obtain rfl := Option.some.inj hf
      exact hR _ _ dX5_lot_21
    · refine g_iload_n 10 2 F dX5_lot_9 rfl rfl ?_
      refine g_aload_n 11 0 F dX5_lot_10 rfl rfl ?_
      refine cg_X5_live 14 F fl_X5_10 dX5_lot_11 rfl ?_
      refine cg_X0_athletes 17 F hw.1 fl_X5_95 dX5_lot_14 rfl ?_
      refine g_icmp_le 22 20 F dX5_lot_17 rfl rfl hf (fun _ hf => ?_) (fun _ hf => ?_)
      · refine g_aload_n 23 0 F dX5_lot_22 rfl rfl ?_
        obtain ⟨q1, e2, hf⟩ := op_bd hf
        refine g_cVi 26 (st := []) F hok (c_X5_weighAll (kl K) B sa h lk hw (kA K) S q1 e2) wy_X5_weighAll ml_X5_197 (c_rc_X5 F) ⟨Nat.le_of_ble_eq_true rfl, Nat.le_of_ble_eq_true rfl⟩ rfl rfl (Nat.le_of_ble_eq_true rfl) ⟨Nat.zero_le _, Nat.zero_le _⟩ dX5_lot_23 rfl ?_
        refine g_i2l 27 F dX5_lot_26 rfl ?_
        refine g_lstore_n 28 [(3, .long q1.1.toInt64), (0, .ref (cAf B 0)), (1, .int a1), (2, .int a2)] F dX5_lot_27 (lt_kn hn (by decide)) rfl rfl ?_
        refine g_iload_n 29 2 F dX5_lot_28 rfl rfl ?_
        refine g_i2l 30 F dX5_lot_29 rfl ?_
        refine g_lstore 32 [(5, .long a1.toInt64), (3, .long q1.1.toInt64), (0, .ref (cAf B 0)), (1, .int a1), (2, .int a2)] F dX5_lot_30 (lt_kn hn (by decide)) rfl rfl ?_
        refine g_iconst 33 (v := 0) F dX5_lot_32 (by decide) rfl ?_
        refine g_istore 35 [(7, .int 0), (5, .long a1.toInt64), (3, .long q1.1.toInt64), (0, .ref (cAf B 0)), (1, .int a1), (2, .int a2)] F dX5_lot_33 (lt_kn hn (by decide)) rfl rfl ?_
        refine g_iconst 36 (v := 0) F dX5_lot_35 (by decide) rfl ?_
        refine g_istore 38 [(8, .int 0), (7, .int 0), (5, .long a1.toInt64), (3, .long q1.1.toInt64), (0, .ref (cAf B 0)), (1, .int a1), (2, .int a2)] F dX5_lot_36 (lt_kn hn (by decide)) rfl rfl ?_
        exact G.lvs [4, 6, 3, 2, 1, 0] rfl (L_38 fu q1.2 a2 q1.1.toInt64 a1.toInt64 0 0 hf)
      · refine g_iconst 21 (v := (-1)) F dX5_lot_20 (by decide) rfl ?_
        obtain rfl := Option.some.inj hf
        exact hR _ _ dX5_lot_21
theorem c_X5_lot (l : Launch) (B : CB) (sa : Nat → Nat) (h : Nat → Bool) (lk : Nat × Nat) (hw : cWf h lk) (A : Nat → Prop) (S : CS) (a1 : Int32) (a2 : Int32) (q : Int32 × CS) (hf : f_X5_lot h lk S a1 a2 = some q) : Ci l yX5_lot cX5_lot 10 (some .int) 6 136 (cX B A sa h lk) (cKf B A) A S [.ref (cAf B 0), .int a1, .int a2] q.1 q.2 := by
  refine met_i (by decide +kernel) (Nat.le_of_ble_eq_true rfl) (fun K hl hA hn F hR => ?_)
  subst hl; subst hA
  exact w_X5_lot B sa h lk hw K F hn S a1 a2 q hf hR
set_option maxHeartbeats 4000000 in
set_option maxRecDepth 100000 in
theorem w_X5_greatestDivisor (B : CB) (sa : Nat → Nat) (h : Nat → Bool) (lk : Nat × Nat) (hw : cWf h lk) (K : Ctx) (F : Fx K cX5_greatestDivisor RX5 (cKf B (kA K)) 0 0) (hn : kn K = 6) (S : CS) (a1 : Int32) (a2 : Int32) (q : Int32) (hf : f_X5_greatestDivisor a1 a2 = some q) (hR : ∀ (pc : Nat) (lv : List (Nat × Value)), decode cX5_greatestDivisor pc = .ok (.ireturn, 1) → G K (cX B (kA K) sa h lk) 0 0 pc S lv [.int q]) : G K (cX B (kA K) sa h lk) 0 0 0 S [(0, .int a1), (1, .int a2)] [] := by
  have hok := cKf_ok B (kA K)
  have L_7 : ∀ (n : Nat) (x2 : Int32) (x3 : Int32) (x4 : Int32), l_X5_greatestDivisor_7 n x2 x3 x4 = some q → G K (cX B (kA K) sa h lk) 0 0 7 S [(2, .int x2), (3, .int x3), (4, .int x4)] [] := by
    intro n
    induction n with
    | zero =>
      intro x2 x3 x4 hf
      rw [l_X5_greatestDivisor_7] at hf
      cases hf
    | succ n ih =>
      intro x2 x3 x4 hf
      rw [l_X5_greatestDivisor_7] at hf
      refine g_iload 9 2 F dX5_greatestDivisor_7 rfl rfl ?_
      refine g_bipush 11 (v := 64) F dX5_greatestDivisor_9 (by decide) rfl ?_
      refine g_icmp_ge 34 14 F dX5_greatestDivisor_11 rfl rfl hf (fun _ hf => ?_) (fun _ hf => ?_)
      · refine g_iload_n 35 0 F dX5_greatestDivisor_34 rfl rfl ?_
        obtain rfl := Option.some.inj hf
        exact hR _ _ dX5_greatestDivisor_35
      · refine g_iload_n 15 1 F dX5_greatestDivisor_14 rfl rfl ?_
        refine g_if_eq 34 18 F dX5_greatestDivisor_15 rfl rfl hf (fun _ hf => ?_) (fun _ hf => ?_)
        · refine g_iload_n 35 0 F dX5_greatestDivisor_34 rfl rfl ?_
          obtain rfl := Option.some.inj hf
          exact hR _ _ dX5_greatestDivisor_35
        · refine g_iload_n 19 0 F dX5_greatestDivisor_18 rfl rfl ?_
          refine g_iload_n 20 1 F dX5_greatestDivisor_19 rfl rfl ?_
          obtain ⟨h1, hf⟩ := op_ok hf
          refine g_irem 21 F dX5_greatestDivisor_20 h1 rfl ?_
          refine g_istore 23 [(5, .int (x2 - x2 / x3 * x3)), (2, .int x2), (3, .int x3), (4, .int x4)] F dX5_greatestDivisor_21 (lt_kn hn (by decide)) rfl rfl ?_
          refine g_iload_n 24 2 F dX5_greatestDivisor_23 rfl rfl ?_
          refine g_istore_n 25 [(2, .int x3), (5, .int (x2 - x2 / x3 * x3)), (3, .int x3), (4, .int x4)] F dX5_greatestDivisor_24 (lt_kn hn (by decide)) rfl rfl ?_
          refine g_iload 27 1 F dX5_greatestDivisor_25 rfl rfl ?_
          refine g_istore_n 28 [(3, .int (x2 - x2 / x3 * x3)), (2, .int x3), (5, .int (x2 - x2 / x3 * x3)), (4, .int x4)] F dX5_greatestDivisor_27 (lt_kn hn (by decide)) rfl rfl ?_
          refine g_iinc 31 3 (x4 + 1) [(4, .int (x4 + 1)), (3, .int (x2 - x2 / x3 * x3)), (2, .int x3), (5, .int (x2 - x2 / x3 * x3))] F dX5_greatestDivisor_28 rfl rfl (lt_kn hn (by decide)) rfl rfl ?_
          refine g_goto 7 F dX5_greatestDivisor_31 rfl ?_
          exact G.lvs [2, 1, 0] rfl (ih x3 (x2 - x2 / x3 * x3) (x4 + 1) hf)
  unfold f_X5_greatestDivisor at hf
  refine g_iload_n 1 0 F dX5_greatestDivisor_0 rfl rfl ?_
  refine g_istore_n 2 [(2, .int a1), (0, .int a1), (1, .int a2)] F dX5_greatestDivisor_1 (lt_kn hn (by decide)) rfl rfl ?_
  refine g_iload_n 3 2 F dX5_greatestDivisor_2 rfl rfl ?_
  refine g_istore_n 4 [(3, .int a2), (2, .int a1), (0, .int a1), (1, .int a2)] F dX5_greatestDivisor_3 (lt_kn hn (by decide)) rfl rfl ?_
  refine g_iconst 5 (v := 0) F dX5_greatestDivisor_4 (by decide) rfl ?_
  refine g_istore 7 [(4, .int 0), (3, .int a2), (2, .int a1), (0, .int a1), (1, .int a2)] F dX5_greatestDivisor_5 (lt_kn hn (by decide)) rfl rfl ?_
  exact G.lvs [2, 1, 0] rfl (L_7 fu a1 a2 0 hf)
theorem c_X5_greatestDivisor (l : Launch) (B : CB) (sa : Nat → Nat) (h : Nat → Bool) (lk : Nat × Nat) (hw : cWf h lk) (A : Nat → Prop) (S : CS) (a1 : Int32) (a2 : Int32) (q : Int32) (hf : f_X5_greatestDivisor a1 a2 = some q) : Ci l yX5_greatestDivisor cX5_greatestDivisor 6 (some .int) 0 0 (cX B A sa h lk) (cKf B A) A S [.int a1, .int a2] q S := by
  refine met_i (by decide +kernel) (Nat.le_of_ble_eq_true rfl) (fun K hl hA hn F hR => ?_)
  subst hl; subst hA
  exact w_X5_greatestDivisor B sa h lk hw K F hn S a1 a2 q hf hR
set_option maxHeartbeats 4000000 in
set_option maxRecDepth 100000 in
theorem w_X5_chance (B : CB) (sa : Nat → Nat) (h : Nat → Bool) (lk : Nat × Nat) (hw : cWf h lk) (K : Ctx) (F : Fx K cX5_chance RX5 (cKf B (kA K)) 6 136) (hn : kn K = 6) (S : CS) (a1 : Int32) (a2 : Bool) (q : Int32 × CS) (hf : f_X5_chance h lk S a1 a2 = some q) (hR : ∀ (pc : Nat) (lv : List (Nat × Value)), decode cX5_chance pc = .ok (.ireturn, 1) → G K (cX B (kA K) sa h lk) 0 0 pc q.2 lv [.int q.1]) : G K (cX B (kA K) sa h lk) 0 0 0 S [(0, .ref (cAf B 0)), (1, .int a1), (2, .int (bI a2))] [] := by
  have hok := cKf_ok B (kA K)
  unfold f_X5_chance at hf
  refine g_iload_n 1 1 F dX5_chance_0 rfl rfl ?_
  refine g_if_lt 21 4 F dX5_chance_1 rfl rfl hf (fun _ hf => ?_) (fun _ hf => ?_)
  · refine g_iconst 22 (v := (-1)) F dX5_chance_21 (by decide) rfl ?_
    obtain rfl := Option.some.inj hf
    exact hR _ _ dX5_chance_22
  · refine g_iload_n 5 1 F dX5_chance_4 rfl rfl ?_
    refine g_aload_n 6 0 F dX5_chance_5 rfl rfl ?_
    refine cg_X5_live 9 F fl_X5_10 dX5_chance_6 rfl ?_
    refine cg_X0_athletes 12 F hw.1 fl_X5_95 dX5_chance_9 rfl ?_
    refine g_icmp_ge 21 15 F dX5_chance_12 rfl rfl hf (fun _ hf => ?_) (fun _ hf => ?_)
    · refine g_iconst 22 (v := (-1)) F dX5_chance_21 (by decide) rfl ?_
      obtain rfl := Option.some.inj hf
      exact hR _ _ dX5_chance_22
    · refine g_iload_n 16 1 F dX5_chance_15 rfl rfl ?_
      refine g_bipush 18 (v := 6) F dX5_chance_16 (by decide) rfl ?_
      refine g_icmp_lt 23 21 F dX5_chance_18 rfl rfl hf (fun _ hf => ?_) (fun _ hf => ?_)
      · refine g_aload_n 24 0 F dX5_chance_23 rfl rfl ?_
        obtain ⟨q1, e2, hf⟩ := op_bd hf
        refine g_cVi 27 (st := []) F hok (c_X5_weighAll (kl K) B sa h lk hw (kA K) S q1 e2) wy_X5_weighAll ml_X5_197 (c_rc_X5 F) ⟨Nat.le_of_ble_eq_true rfl, Nat.le_of_ble_eq_true rfl⟩ rfl rfl (Nat.le_of_ble_eq_true rfl) ⟨Nat.zero_le _, Nat.zero_le _⟩ dX5_chance_24 rfl ?_
        refine g_istore_n 28 [(3, .int q1.1), (0, .ref (cAf B 0)), (1, .int a1), (2, .int (bI a2))] F dX5_chance_27 (lt_kn hn (by decide)) rfl rfl ?_
        refine g_aload_n 29 1 F dX5_chance_28 rfl rfl ?_
        refine cg_X5_weights 32 F fl_X5_42 dX5_chance_29 rfl ?_
        refine g_iload_n 33 2 F dX5_chance_32 rfl rfl ?_
        obtain ⟨h3, hf⟩ := op_ok hf
        refine cl_A7 34 F h3 dX5_chance_33 rfl ?_
        refine g_istore 36 [(4, .int (cA q1.2 7 a1.toNatClampNeg)), (3, .int q1.1), (0, .ref (cAf B 0)), (1, .int a1), (2, .int (bI a2))] F dX5_chance_34 (lt_kn hn (by decide)) rfl rfl ?_
        refine g_iload 38 0 F dX5_chance_36 rfl rfl ?_
        refine g_iload_n 39 1 F dX5_chance_38 rfl rfl ?_
        obtain ⟨q4, e5, hf⟩ := op_bd hf
        refine g_cSi 42 (st := []) F hok (c_X5_greatestDivisor (kl K) B sa h lk hw (kA K) q1.2 (cA q1.2 7 a1.toNatClampNeg) q1.1 q4 e5) ws_X5_greatestDivisor ml_X5_211 ⟨Nat.le_of_ble_eq_true rfl, Nat.le_of_ble_eq_true rfl⟩ rfl rfl (Nat.le_of_ble_eq_true rfl) ⟨Nat.zero_le _, Nat.zero_le _⟩ dX5_chance_39 rfl ?_
        refine g_istore 44 [(5, .int q4), (4, .int (cA q1.2 7 a1.toNatClampNeg)), (3, .int q1.1), (0, .ref (cAf B 0)), (1, .int a1), (2, .int (bI a2))] F dX5_chance_42 (lt_kn hn (by decide)) rfl rfl ?_
        refine g_iload 46 0 F dX5_chance_44 rfl rfl ?_
        refine g_iconst 47 (v := 1) F dX5_chance_46 (by decide) rfl ?_
        refine g_icmp_ge 52 50 F dX5_chance_47 rfl rfl hf (fun _ hf => ?_) (fun _ hf => ?_)
        · refine g_iload_n 53 5 F dX5_chance_52 rfl rfl ?_
          refine g_ifeq_b 60 56 F dX5_chance_53 rfl rfl hf (fun _ hf => ?_) (fun _ hf => ?_)
          · refine g_iload 62 1 F dX5_chance_60 rfl rfl ?_
            refine g_iload 64 0 F dX5_chance_62 rfl rfl ?_
            obtain ⟨h6, hf⟩ := op_ok hf
            refine g_idiv 65 F dX5_chance_64 h6 rfl ?_
            obtain rfl := Option.some.inj hf
            exact hR _ _ dX5_chance_65
          · refine g_iload_n 57 2 F dX5_chance_56 rfl rfl ?_
            refine g_goto 62 F dX5_chance_57 rfl ?_
            refine g_iload 64 0 F dX5_chance_62 rfl rfl ?_
            obtain ⟨h7, hf⟩ := op_ok hf
            refine g_idiv 65 F dX5_chance_64 h7 rfl ?_
            obtain rfl := Option.some.inj hf
            exact hR _ _ dX5_chance_65
        · refine g_iconst 51 (v := (-1)) F dX5_chance_50 (by decide) rfl ?_
          obtain rfl := Option.some.inj hf
          exact hR _ _ dX5_chance_51
      · refine g_iconst 22 (v := (-1)) F dX5_chance_21 (by decide) rfl ?_
        obtain rfl := Option.some.inj hf
        exact hR _ _ dX5_chance_22
theorem c_X5_chance (l : Launch) (B : CB) (sa : Nat → Nat) (h : Nat → Bool) (lk : Nat × Nat) (hw : cWf h lk) (A : Nat → Prop) (S : CS) (a1 : Int32) (a2 : Bool) (q : Int32 × CS) (hf : f_X5_chance h lk S a1 a2 = some q) : Ci l yX5_chance cX5_chance 6 (some .int) 6 136 (cX B A sa h lk) (cKf B A) A S [.ref (cAf B 0), .int a1, .int (bI a2)] q.1 q.2 := by
  refine met_i (by decide +kernel) (Nat.le_of_ble_eq_true rfl) (fun K hl hA hn F hR => ?_)
  subst hl; subst hA
  exact w_X5_chance B sa h lk hw K F hn S a1 a2 q hf hR
set_option maxHeartbeats 4000000 in
set_option maxRecDepth 100000 in
theorem w_X5_hoursOfRound (B : CB) (sa : Nat → Nat) (h : Nat → Bool) (lk : Nat × Nat) (hw : cWf h lk) (K : Ctx) (F : Fx K cX5_hoursOfRound RX5 (cKf B (kA K)) 3 74) (hn : kn K = 4) (S : CS) (a1 : Int32) (q : Int32) (hf : f_X5_hoursOfRound h lk S a1 = some q) (hR : ∀ (pc : Nat) (lv : List (Nat × Value)), decode cX5_hoursOfRound pc = .ok (.ireturn, 1) → G K (cX B (kA K) sa h lk) 0 0 pc S lv [.int q]) : G K (cX B (kA K) sa h lk) 0 0 0 S [(0, .ref (cAf B 0)), (1, .int a1)] [] := by
  have hok := cKf_ok B (kA K)
  have L_4 : ∀ (n : Nat) (x1 : Int32) (x2 : Int32) (x3 : Int32), l_X5_hoursOfRound_4 h lk S n x1 x2 x3 = some q → G K (cX B (kA K) sa h lk) 0 0 4 S [(0, .ref (cAf B 0)), (1, .int x1), (2, .int x2), (3, .int x3)] [] := by
    intro n
    induction n with
    | zero =>
      intro x1 x2 x3 hf
      rw [l_X5_hoursOfRound_4] at hf
      cases hf
    | succ n ih =>
      intro x1 x2 x3 hf
      rw [l_X5_hoursOfRound_4] at hf
      refine g_iload_n 5 3 F dX5_hoursOfRound_4 rfl rfl ?_
      refine g_bipush 7 (v := 22) F dX5_hoursOfRound_5 (by decide) rfl ?_
      refine g_icmp_gt 32 10 F dX5_hoursOfRound_7 rfl rfl hf (fun _ hf => ?_) (fun _ hf => ?_)
      · refine g_iload_n 33 2 F dX5_hoursOfRound_32 rfl rfl ?_
        obtain rfl := Option.some.inj hf
        exact hR _ _ dX5_hoursOfRound_33
      · refine g_aload_n 11 0 F dX5_hoursOfRound_10 rfl rfl ?_
        refine cg_X5_live 14 F fl_X5_10 dX5_hoursOfRound_11 rfl ?_
        refine g_iload_n 15 1 F dX5_hoursOfRound_14 rfl rfl ?_
        refine g_iload_n 16 3 F dX5_hoursOfRound_15 rfl rfl ?_
        obtain ⟨q1, e2, hf⟩ := op_bd hf
        refine g_cVi 19 (st := []) F hok (c_X0_fullestPlace (kl K) B sa h lk hw (kA K) S lk.1 x1 x3 hw.1 q1 e2) wy_X0_fullestPlace ml_X5_223 (c_rc_X0 F hw.1) ⟨Nat.le_of_ble_eq_true rfl, Nat.le_of_ble_eq_true rfl⟩ rfl rfl (Nat.le_of_ble_eq_true rfl) ⟨Nat.zero_le _, Nat.zero_le _⟩ dX5_hoursOfRound_16 rfl ?_
        refine g_iconst 20 (v := (-1)) F dX5_hoursOfRound_19 (by decide) rfl ?_
        refine g_icmp_eq 26 23 F dX5_hoursOfRound_20 rfl rfl hf (fun _ hf => ?_) (fun _ hf => ?_)
        · refine g_iinc 29 3 (x3 + 1) [(3, .int (x3 + 1)), (0, .ref (cAf B 0)), (1, .int x1), (2, .int x2)] F dX5_hoursOfRound_26 rfl rfl (lt_kn hn (by decide)) rfl rfl ?_
          refine g_goto 4 F dX5_hoursOfRound_29 rfl ?_
          exact G.lvs [1, 2, 3, 0] rfl (ih x1 x2 (x3 + 1) hf)
        · refine g_iinc 26 2 (x2 + 1) [(2, .int (x2 + 1)), (0, .ref (cAf B 0)), (1, .int x1), (3, .int x3)] F dX5_hoursOfRound_23 rfl rfl (lt_kn hn (by decide)) rfl rfl ?_
          refine g_iinc 29 3 (x3 + 1) [(3, .int (x3 + 1)), (2, .int (x2 + 1)), (0, .ref (cAf B 0)), (1, .int x1)] F dX5_hoursOfRound_26 rfl rfl (lt_kn hn (by decide)) rfl rfl ?_
          refine g_goto 4 F dX5_hoursOfRound_29 rfl ?_
          exact G.lvs [2, 3, 1, 0] rfl (ih x1 (x2 + 1) (x3 + 1) hf)
  unfold f_X5_hoursOfRound at hf
  refine g_iconst 1 (v := 0) F dX5_hoursOfRound_0 (by decide) rfl ?_
  refine g_istore_n 2 [(2, .int 0), (0, .ref (cAf B 0)), (1, .int a1)] F dX5_hoursOfRound_1 (lt_kn hn (by decide)) rfl rfl ?_
  refine g_iconst 3 (v := 5) F dX5_hoursOfRound_2 (by decide) rfl ?_
  refine g_istore_n 4 [(3, .int 5), (2, .int 0), (0, .ref (cAf B 0)), (1, .int a1)] F dX5_hoursOfRound_3 (lt_kn hn (by decide)) rfl rfl ?_
  exact G.lvs [2, 3, 1, 0] rfl (L_4 fu a1 0 5 hf)
theorem c_X5_hoursOfRound (l : Launch) (B : CB) (sa : Nat → Nat) (h : Nat → Bool) (lk : Nat × Nat) (hw : cWf h lk) (A : Nat → Prop) (S : CS) (a1 : Int32) (q : Int32) (hf : f_X5_hoursOfRound h lk S a1 = some q) : Ci l yX5_hoursOfRound cX5_hoursOfRound 4 (some .int) 3 74 (cX B A sa h lk) (cKf B A) A S [.ref (cAf B 0), .int a1] q S := by
  refine met_i (by decide +kernel) (Nat.le_of_ble_eq_true rfl) (fun K hl hA hn F hR => ?_)
  subst hl; subst hA
  exact w_X5_hoursOfRound B sa h lk hw K F hn S a1 q hf hR
set_option maxHeartbeats 4000000 in
set_option maxRecDepth 100000 in
theorem w_X5_athletesOfRound (B : CB) (sa : Nat → Nat) (h : Nat → Bool) (lk : Nat × Nat) (hw : cWf h lk) (K : Ctx) (F : Fx K cX5_athletesOfRound RX5 (cKf B (kA K)) 3 74) (hn : kn K = 5) (S : CS) (a1 : Int32) (q : Int32) (hf : f_X5_athletesOfRound h lk S a1 = some q) (hR : ∀ (pc : Nat) (lv : List (Nat × Value)), decode cX5_athletesOfRound pc = .ok (.ireturn, 1) → G K (cX B (kA K) sa h lk) 0 0 pc S lv [.int q]) : G K (cX B (kA K) sa h lk) 0 0 0 S [(0, .ref (cAf B 0)), (1, .int a1)] [] := by
  have hok := cKf_ok B (kA K)
  have L_4 : ∀ (n : Nat) (x1 : Int32) (x2 : Int32) (x3 : Int32), l_X5_athletesOfRound_4 h lk S n x1 x2 x3 = some q → G K (cX B (kA K) sa h lk) 0 0 4 S [(0, .ref (cAf B 0)), (1, .int x1), (2, .int x2), (3, .int x3)] [] := by
    intro n
    induction n with
    | zero =>
      intro x1 x2 x3 hf
      rw [l_X5_athletesOfRound_4] at hf
      cases hf
    | succ n ih =>
      intro x1 x2 x3 hf
      rw [l_X5_athletesOfRound_4] at hf
      refine g_iload_n 5 3 F dX5_athletesOfRound_4 rfl rfl ?_
      refine g_bipush 7 (v := 22) F dX5_athletesOfRound_5 (by decide) rfl ?_
      refine g_icmp_gt 50 10 F dX5_athletesOfRound_7 rfl rfl hf (fun _ hf => ?_) (fun _ hf => ?_)
      · refine g_iload_n 51 2 F dX5_athletesOfRound_50 rfl rfl ?_
        obtain rfl := Option.some.inj hf
        exact hR _ _ dX5_athletesOfRound_51
      · refine g_aload_n 11 0 F dX5_athletesOfRound_10 rfl rfl ?_
        refine cg_X5_live 14 F fl_X5_10 dX5_athletesOfRound_11 rfl ?_
        refine g_iload_n 15 1 F dX5_athletesOfRound_14 rfl rfl ?_
        refine g_iload_n 16 3 F dX5_athletesOfRound_15 rfl rfl ?_
        obtain ⟨q1, e2, hf⟩ := op_bd hf
        refine g_cVi 19 (st := []) F hok (c_X0_fullestPlace (kl K) B sa h lk hw (kA K) S lk.1 x1 x3 hw.1 q1 e2) wy_X0_fullestPlace ml_X5_223 (c_rc_X0 F hw.1) ⟨Nat.le_of_ble_eq_true rfl, Nat.le_of_ble_eq_true rfl⟩ rfl rfl (Nat.le_of_ble_eq_true rfl) ⟨Nat.zero_le _, Nat.zero_le _⟩ dX5_athletesOfRound_16 rfl ?_
        refine g_istore 21 [(4, .int q1), (0, .ref (cAf B 0)), (1, .int x1), (2, .int x2), (3, .int x3)] F dX5_athletesOfRound_19 (lt_kn hn (by decide)) rfl rfl ?_
        refine g_iload 23 0 F dX5_athletesOfRound_21 rfl rfl ?_
        refine g_iconst 24 (v := (-1)) F dX5_athletesOfRound_23 (by decide) rfl ?_
        refine g_icmp_eq 44 27 F dX5_athletesOfRound_24 rfl rfl hf (fun _ hf => ?_) (fun _ hf => ?_)
        · refine g_iinc 47 4 (x3 + 1) [(3, .int (x3 + 1)), (4, .int q1), (0, .ref (cAf B 0)), (1, .int x1), (2, .int x2)] F dX5_athletesOfRound_44 rfl rfl (lt_kn hn (by decide)) rfl rfl ?_
          refine g_goto 4 F dX5_athletesOfRound_47 rfl ?_
          exact G.lvs [2, 3, 4, 0] rfl (ih x1 x2 (x3 + 1) hf)
        · refine g_iload_n 28 3 F dX5_athletesOfRound_27 rfl rfl ?_
          refine g_aload_n 29 1 F dX5_athletesOfRound_28 rfl rfl ?_
          refine cg_X5_live 32 F fl_X5_10 dX5_athletesOfRound_29 rfl ?_
          refine g_iload_n 33 2 F dX5_athletesOfRound_32 rfl rfl ?_
          refine g_iload_n 34 4 F dX5_athletesOfRound_33 rfl rfl ?_
          refine g_iload 36 0 F dX5_athletesOfRound_34 rfl rfl ?_
          obtain ⟨q3, e4, hf⟩ := op_bd hf
          refine g_cVi 39 (st := [.int x2]) F hok (c_X0_bitsOfThose (kl K) B sa h lk hw (kA K) S lk.1 x1 x3 q1 hw.1 q3 e4) wy_X0_bitsOfThose ml_X5_226 (c_rc_X0 F hw.1) ⟨Nat.le_of_ble_eq_true rfl, Nat.le_of_ble_eq_true rfl⟩ rfl rfl (Nat.le_of_ble_eq_true rfl) ⟨Nat.zero_le _, Nat.zero_le _⟩ dX5_athletesOfRound_36 rfl ?_
          refine g_cSi 42 (st := [.int x2]) F hok (c_J6_bitCount_0f7a4 (kl K) B sa h lk hw (kA K) S q3 _ rfl) ws_J6_bitCount_0f7a4 ml_X5_254 ⟨Nat.le_of_ble_eq_true rfl, Nat.le_of_ble_eq_true rfl⟩ rfl rfl (Nat.le_of_ble_eq_true rfl) ⟨Nat.zero_le _, Nat.zero_le _⟩ dX5_athletesOfRound_39 rfl ?_
          refine g_iadd 43 F dX5_athletesOfRound_42 rfl ?_
          refine g_istore_n 44 [(2, .int (x2 + (f_J6_bitCount_0f7a4 q3))), (4, .int q1), (0, .ref (cAf B 0)), (1, .int x1), (3, .int x3)] F dX5_athletesOfRound_43 (lt_kn hn (by decide)) rfl rfl ?_
          refine g_iinc 47 4 (x3 + 1) [(3, .int (x3 + 1)), (2, .int (x2 + (f_J6_bitCount_0f7a4 q3))), (4, .int q1), (0, .ref (cAf B 0)), (1, .int x1)] F dX5_athletesOfRound_44 rfl rfl (lt_kn hn (by decide)) rfl rfl ?_
          refine g_goto 4 F dX5_athletesOfRound_47 rfl ?_
          exact G.lvs [3, 4, 1, 0] rfl (ih x1 (x2 + (f_J6_bitCount_0f7a4 q3)) (x3 + 1) hf)
  unfold f_X5_athletesOfRound at hf
  refine g_iconst 1 (v := 0) F dX5_athletesOfRound_0 (by decide) rfl ?_
  refine g_istore_n 2 [(2, .int 0), (0, .ref (cAf B 0)), (1, .int a1)] F dX5_athletesOfRound_1 (lt_kn hn (by decide)) rfl rfl ?_
  refine g_iconst 3 (v := 5) F dX5_athletesOfRound_2 (by decide) rfl ?_
  refine g_istore_n 4 [(3, .int 5), (2, .int 0), (0, .ref (cAf B 0)), (1, .int a1)] F dX5_athletesOfRound_3 (lt_kn hn (by decide)) rfl rfl ?_
  exact G.lvs [2, 3, 1, 0] rfl (L_4 fu a1 0 5 hf)
theorem c_X5_athletesOfRound (l : Launch) (B : CB) (sa : Nat → Nat) (h : Nat → Bool) (lk : Nat × Nat) (hw : cWf h lk) (A : Nat → Prop) (S : CS) (a1 : Int32) (q : Int32) (hf : f_X5_athletesOfRound h lk S a1 = some q) : Ci l yX5_athletesOfRound cX5_athletesOfRound 5 (some .int) 3 74 (cX B A sa h lk) (cKf B A) A S [.ref (cAf B 0), .int a1] q S := by
  refine met_i (by decide +kernel) (Nat.le_of_ble_eq_true rfl) (fun K hl hA hn F hR => ?_)
  subst hl; subst hA
  exact w_X5_athletesOfRound B sa h lk hw K F hn S a1 q hf hR
set_option maxHeartbeats 4000000 in
set_option maxRecDepth 100000 in
theorem w_X5_round (B : CB) (sa : Nat → Nat) (h : Nat → Bool) (lk : Nat × Nat) (hw : cWf h lk) (K : Ctx) (F : Fx K cX5_round RX5 (cKf B (kA K)) 4 98) (hn : kn K = 5) (S : CS) (a1 : Int32) (a2 : Int32) (a3 : Int32) (q : Int32) (hf : f_X5_round h lk S a1 a2 a3 = some q) (hR : ∀ (pc : Nat) (lv : List (Nat × Value)), decode cX5_round pc = .ok (.ireturn, 1) → G K (cX B (kA K) sa h lk) 0 0 pc S lv [.int q]) : G K (cX B (kA K) sa h lk) 0 0 0 S [(0, .ref (cAf B 0)), (1, .int a1), (2, .int a2), (3, .int a3)] [] := by
  have hok := cKf_ok B (kA K)
  unfold f_X5_round at hf
  refine g_iload_n 1 1 F dX5_round_0 rfl rfl ?_
  refine g_cSi 4 (st := []) F hok (c_X5_canBeFiledDay (kl K) B sa h lk hw (kA K) S a1 _ rfl) ws_X5_canBeFiledDay ml_X5_153 ⟨Nat.le_of_ble_eq_true rfl, Nat.le_of_ble_eq_true rfl⟩ rfl rfl (Nat.le_of_ble_eq_true rfl) ⟨Nat.zero_le _, Nat.zero_le _⟩ dX5_round_1 rfl ?_
  refine g_ifeq_b 16 7 F dX5_round_4 rfl rfl hf (fun _ hf => ?_) (fun _ hf => ?_)
  · refine g_iconst 17 (v := (-1)) F dX5_round_16 (by decide) rfl ?_
    obtain rfl := Option.some.inj hf
    exact hR _ _ dX5_round_17
  · refine g_iload_n 8 3 F dX5_round_7 rfl rfl ?_
    refine g_if_lt 16 11 F dX5_round_8 rfl rfl hf (fun _ hf => ?_) (fun _ hf => ?_)
    · refine g_iconst 17 (v := (-1)) F dX5_round_16 (by decide) rfl ?_
      obtain rfl := Option.some.inj hf
      exact hR _ _ dX5_round_17
    · refine g_iload_n 12 3 F dX5_round_11 rfl rfl ?_
      refine g_iconst 13 (v := 1) F dX5_round_12 (by decide) rfl ?_
      refine g_icmp_le 18 16 F dX5_round_13 rfl rfl hf (fun _ hf => ?_) (fun _ hf => ?_)
      · refine g_iload_n 19 2 F dX5_round_18 rfl rfl ?_
        refine g_iconst 20 (v := (-1)) F dX5_round_19 (by decide) rfl ?_
        refine g_icmp_ne 41 23 F dX5_round_20 rfl rfl hf (fun _ hf => ?_) (fun _ hf => ?_)
        · refine g_iload_n 42 2 F dX5_round_41 rfl rfl ?_
          refine g_cSi 45 (st := []) F hok (c_X5_canBeHour (kl K) B sa h lk hw (kA K) S a2 _ rfl) ws_X5_canBeHour ml_X5_220 ⟨Nat.le_of_ble_eq_true rfl, Nat.le_of_ble_eq_true rfl⟩ rfl rfl (Nat.le_of_ble_eq_true rfl) ⟨Nat.zero_le _, Nat.zero_le _⟩ dX5_round_42 rfl ?_
          refine g_ifne_b 50 48 F dX5_round_45 rfl rfl hf (fun _ hf => ?_) (fun _ hf => ?_)
          · refine g_aload_n 51 0 F dX5_round_50 rfl rfl ?_
            refine cg_X5_live 54 F fl_X5_10 dX5_round_51 rfl ?_
            refine g_iload_n 55 1 F dX5_round_54 rfl rfl ?_
            refine g_iload_n 56 2 F dX5_round_55 rfl rfl ?_
            obtain ⟨q1, e2, hf⟩ := op_bd hf
            refine g_cVi 59 (st := []) F hok (c_X0_fullestPlace (kl K) B sa h lk hw (kA K) S lk.1 a1 a2 hw.1 q1 e2) wy_X0_fullestPlace ml_X5_223 (c_rc_X0 F hw.1) ⟨Nat.le_of_ble_eq_true rfl, Nat.le_of_ble_eq_true rfl⟩ rfl rfl (Nat.le_of_ble_eq_true rfl) ⟨Nat.zero_le _, Nat.zero_le _⟩ dX5_round_56 rfl ?_
            refine g_istore 61 [(4, .int q1), (0, .ref (cAf B 0)), (1, .int a1), (2, .int a2), (3, .int a3)] F dX5_round_59 (lt_kn hn (by decide)) rfl rfl ?_
            refine g_iload 63 0 F dX5_round_61 rfl rfl ?_
            refine g_iconst 64 (v := (-1)) F dX5_round_63 (by decide) rfl ?_
            refine g_icmp_ne 69 67 F dX5_round_64 rfl rfl hf (fun _ hf => ?_) (fun _ hf => ?_)
            · refine g_iload_n 70 4 F dX5_round_69 rfl rfl ?_
              refine g_if_ne 78 73 F dX5_round_70 rfl rfl hf (fun _ hf => ?_) (fun _ hf => ?_)
              · refine g_aload_n 79 1 F dX5_round_78 rfl rfl ?_
                refine cg_X5_live 82 F fl_X5_10 dX5_round_79 rfl ?_
                refine g_iload_n 83 2 F dX5_round_82 rfl rfl ?_
                refine g_iload_n 84 3 F dX5_round_83 rfl rfl ?_
                refine g_iload 86 0 F dX5_round_84 rfl rfl ?_
                obtain ⟨q3, e4, hf⟩ := op_bd hf
                refine g_cVi 89 (st := []) F hok (c_X0_bitsOfThose (kl K) B sa h lk hw (kA K) S lk.1 a1 a2 q1 hw.1 q3 e4) wy_X0_bitsOfThose ml_X5_226 (c_rc_X0 F hw.1) ⟨Nat.le_of_ble_eq_true rfl, Nat.le_of_ble_eq_true rfl⟩ rfl rfl (Nat.le_of_ble_eq_true rfl) ⟨Nat.zero_le _, Nat.zero_le _⟩ dX5_round_86 rfl ?_
                obtain rfl := Option.some.inj hf
                exact hR _ _ dX5_round_89
              · refine g_iload 75 0 F dX5_round_73 rfl rfl ?_
                refine g_goto 89 F dX5_round_75 rfl ?_
                obtain rfl := Option.some.inj hf
                exact hR _ _ dX5_round_89
            · refine g_iconst 68 (v := (-1)) F dX5_round_67 (by decide) rfl ?_
              obtain rfl := Option.some.inj hf
              exact hR _ _ dX5_round_68
          · refine g_iconst 49 (v := (-1)) F dX5_round_48 (by decide) rfl ?_
            obtain rfl := Option.some.inj hf
            exact hR _ _ dX5_round_49
        · refine g_iload_n 24 3 F dX5_round_23 rfl rfl ?_
          refine g_if_ne 35 27 F dX5_round_24 rfl rfl hf (fun _ hf => ?_) (fun _ hf => ?_)
          · refine g_aload_n 36 0 F dX5_round_35 rfl rfl ?_
            refine g_iload_n 37 1 F dX5_round_36 rfl rfl ?_
            obtain ⟨q5, e6, hf⟩ := op_bd hf
            refine g_cVi 40 (st := []) F hok (c_X5_athletesOfRound (kl K) B sa h lk hw (kA K) S a1 q5 e6) wy_X5_athletesOfRound ml_X5_217 (c_rc_X5 F) ⟨Nat.le_of_ble_eq_true rfl, Nat.le_of_ble_eq_true rfl⟩ rfl rfl (Nat.le_of_ble_eq_true rfl) ⟨Nat.zero_le _, Nat.zero_le _⟩ dX5_round_37 rfl ?_
            obtain rfl := Option.some.inj hf
            exact hR _ _ dX5_round_40
          · refine g_aload_n 28 0 F dX5_round_27 rfl rfl ?_
            refine g_iload_n 29 1 F dX5_round_28 rfl rfl ?_
            obtain ⟨q7, e8, hf⟩ := op_bd hf
            refine g_cVi 32 (st := []) F hok (c_X5_hoursOfRound (kl K) B sa h lk hw (kA K) S a1 q7 e8) wy_X5_hoursOfRound ml_X5_214 (c_rc_X5 F) ⟨Nat.le_of_ble_eq_true rfl, Nat.le_of_ble_eq_true rfl⟩ rfl rfl (Nat.le_of_ble_eq_true rfl) ⟨Nat.zero_le _, Nat.zero_le _⟩ dX5_round_29 rfl ?_
            refine g_goto 40 F dX5_round_32 rfl ?_
            obtain rfl := Option.some.inj hf
            exact hR _ _ dX5_round_40
      · refine g_iconst 17 (v := (-1)) F dX5_round_16 (by decide) rfl ?_
        obtain rfl := Option.some.inj hf
        exact hR _ _ dX5_round_17
theorem c_X5_round (l : Launch) (B : CB) (sa : Nat → Nat) (h : Nat → Bool) (lk : Nat × Nat) (hw : cWf h lk) (A : Nat → Prop) (S : CS) (a1 : Int32) (a2 : Int32) (a3 : Int32) (q : Int32) (hf : f_X5_round h lk S a1 a2 a3 = some q) : Ci l yX5_round cX5_round 5 (some .int) 4 98 (cX B A sa h lk) (cKf B A) A S [.ref (cAf B 0), .int a1, .int a2, .int a3] q S := by
  refine met_i (by decide +kernel) (Nat.le_of_ble_eq_true rfl) (fun K hl hA hn F hR => ?_)
  subst hl; subst hA
  exact w_X5_round B sa h lk hw K F hn S a1 a2 a3 q hf hR
set_option maxHeartbeats 4000000 in
set_option maxRecDepth 100000 in
theorem w_X5_there (B : CB) (sa : Nat → Nat) (h : Nat → Bool) (lk : Nat × Nat) (hw : cWf h lk) (K : Ctx) (F : Fx K cX5_there RX5 (cKf B (kA K)) 2 48) (hn : kn K = 4) (S : CS) (a1 : Int32) (a2 : Int32) (a3 : Int32) (q : Int32) (hf : f_X5_there h lk S a1 a2 a3 = some q) (hR : ∀ (pc : Nat) (lv : List (Nat × Value)), decode cX5_there pc = .ok (.ireturn, 1) → G K (cX B (kA K) sa h lk) 0 0 pc S lv [.int q]) : G K (cX B (kA K) sa h lk) 0 0 0 S [(0, .ref (cAf B 0)), (1, .int a1), (2, .int a2), (3, .int a3)] [] := by
  have hok := cKf_ok B (kA K)
  unfold f_X5_there at hf
  refine g_iload_n 1 1 F dX5_there_0 rfl rfl ?_
  refine g_cSi 4 (st := []) F hok (c_X5_canBeFiledDay (kl K) B sa h lk hw (kA K) S a1 _ rfl) ws_X5_canBeFiledDay ml_X5_153 ⟨Nat.le_of_ble_eq_true rfl, Nat.le_of_ble_eq_true rfl⟩ rfl rfl (Nat.le_of_ble_eq_true rfl) ⟨Nat.zero_le _, Nat.zero_le _⟩ dX5_there_1 rfl ?_
  refine g_ifeq_b 21 7 F dX5_there_4 rfl rfl hf (fun _ hf => ?_) (fun _ hf => ?_)
  · refine g_iconst 22 (v := (-1)) F dX5_there_21 (by decide) rfl ?_
    obtain rfl := Option.some.inj hf
    exact hR _ _ dX5_there_22
  · refine g_iload_n 8 2 F dX5_there_7 rfl rfl ?_
    refine g_cSi 11 (st := []) F hok (c_X5_canBeFiledHour (kl K) B sa h lk hw (kA K) S a2 _ rfl) ws_X5_canBeFiledHour ml_X5_230 ⟨Nat.le_of_ble_eq_true rfl, Nat.le_of_ble_eq_true rfl⟩ rfl rfl (Nat.le_of_ble_eq_true rfl) ⟨Nat.zero_le _, Nat.zero_le _⟩ dX5_there_8 rfl ?_
    refine g_ifeq_b 21 14 F dX5_there_11 rfl rfl hf (fun _ hf => ?_) (fun _ hf => ?_)
    · refine g_iconst 22 (v := (-1)) F dX5_there_21 (by decide) rfl ?_
      obtain rfl := Option.some.inj hf
      exact hR _ _ dX5_there_22
    · refine g_iload_n 15 3 F dX5_there_14 rfl rfl ?_
      refine g_cSi 18 (st := []) F hok (c_X5_canBePlace (kl K) B sa h lk hw (kA K) S a3 _ rfl) ws_X5_canBePlace ml_X5_233 ⟨Nat.le_of_ble_eq_true rfl, Nat.le_of_ble_eq_true rfl⟩ rfl rfl (Nat.le_of_ble_eq_true rfl) ⟨Nat.zero_le _, Nat.zero_le _⟩ dX5_there_15 rfl ?_
      refine g_ifne_b 23 21 F dX5_there_18 rfl rfl hf (fun _ hf => ?_) (fun _ hf => ?_)
      · refine g_aload_n 24 0 F dX5_there_23 rfl rfl ?_
        refine cg_X5_live 27 F fl_X5_10 dX5_there_24 rfl ?_
        refine g_iload_n 28 1 F dX5_there_27 rfl rfl ?_
        refine g_iload_n 29 2 F dX5_there_28 rfl rfl ?_
        refine g_iload_n 30 3 F dX5_there_29 rfl rfl ?_
        obtain ⟨q1, e2, hf⟩ := op_bd hf
        refine g_cVi 33 (st := []) F hok (c_X0_bitsOfThose (kl K) B sa h lk hw (kA K) S lk.1 a1 a2 a3 hw.1 q1 e2) wy_X0_bitsOfThose ml_X5_226 (c_rc_X0 F hw.1) ⟨Nat.le_of_ble_eq_true rfl, Nat.le_of_ble_eq_true rfl⟩ rfl rfl (Nat.le_of_ble_eq_true rfl) ⟨Nat.zero_le _, Nat.zero_le _⟩ dX5_there_30 rfl ?_
        obtain rfl := Option.some.inj hf
        exact hR _ _ dX5_there_33
      · refine g_iconst 22 (v := (-1)) F dX5_there_21 (by decide) rfl ?_
        obtain rfl := Option.some.inj hf
        exact hR _ _ dX5_there_22
theorem c_X5_there (l : Launch) (B : CB) (sa : Nat → Nat) (h : Nat → Bool) (lk : Nat × Nat) (hw : cWf h lk) (A : Nat → Prop) (S : CS) (a1 : Int32) (a2 : Int32) (a3 : Int32) (q : Int32) (hf : f_X5_there h lk S a1 a2 a3 = some q) : Ci l yX5_there cX5_there 4 (some .int) 2 48 (cX B A sa h lk) (cKf B A) A S [.ref (cAf B 0), .int a1, .int a2, .int a3] q S := by
  refine met_i (by decide +kernel) (Nat.le_of_ble_eq_true rfl) (fun K hl hA hn F hR => ?_)
  subst hl; subst hA
  exact w_X5_there B sa h lk hw K F hn S a1 a2 a3 q hf hR
set_option maxHeartbeats 4000000 in
set_option maxRecDepth 100000 in
theorem w_X5_violationsOf (B : CB) (sa : Nat → Nat) (h : Nat → Bool) (lk : Nat × Nat) (hw : cWf h lk) (K : Ctx) (F : Fx K cX5_violationsOf RX5 (cKf B (kA K)) 3 70) (hn : kn K = 2) (S : CS) (j : Nat) (hj : h j = true) (q : Int32 × CS) (hf : f_X5_violationsOf lk S j = some q) (hR : ∀ (pc : Nat) (lv : List (Nat × Value)), decode cX5_violationsOf pc = .ok (.ireturn, 1) → G K (cX B (kA K) sa h lk) 0 0 pc q.2 lv [.int q.1]) : G K (cX B (kA K) sa h lk) 0 0 0 S [(0, .ref (cAf B 0)), (1, .ref (sa (5 * j)))] [] := by
  have hok := cKf_ok B (kA K)
  unfold f_X5_violationsOf at hf
  refine g_aload_n 1 0 F dX5_violationsOf_0 rfl rfl ?_
  refine cg_X5_tally 4 F fl_X5_22 dX5_violationsOf_1 rfl ?_
  refine g_aload_n 5 1 F dX5_violationsOf_4 rfl rfl ?_
  refine g_aload_n 6 0 F dX5_violationsOf_5 rfl rfl ?_
  refine cg_X5_live 9 F fl_X5_10 dX5_violationsOf_6 rfl ?_
  refine cg_X0_settings 12 F hw.1 fl_X5_169 dX5_violationsOf_9 rfl ?_
  refine g_iconst 13 (v := (-1)) F dX5_violationsOf_12 (by decide) rfl ?_
  obtain ⟨q1, e2, hf⟩ := op_bd hf
  refine g_cVv 16 (st := []) F hok (c_X2_goThrough (kl K) B sa h lk hw (kA K) S j lk.1 (-1) hj hw.1 q1 e2) wy_X2_goThrough ml_X5_172 (c_rc_X2 F) ⟨Nat.le_of_ble_eq_true rfl, Nat.le_of_ble_eq_true rfl⟩ rfl rfl (Nat.le_of_ble_eq_true rfl) ⟨Nat.zero_le _, Nat.zero_le _⟩ dX5_violationsOf_13 rfl ?_
  refine g_aload_n 17 0 F dX5_violationsOf_16 rfl rfl ?_
  refine cg_X5_tally 20 F fl_X5_22 dX5_violationsOf_17 rfl ?_
  refine cg_X2_violations 23 F fl_X5_240 dX5_violationsOf_20 rfl ?_
  obtain rfl := Option.some.inj hf
  exact hR _ _ dX5_violationsOf_23
theorem c_X5_violationsOf (l : Launch) (B : CB) (sa : Nat → Nat) (h : Nat → Bool) (lk : Nat × Nat) (hw : cWf h lk) (A : Nat → Prop) (S : CS) (j : Nat) (hj : h j = true) (q : Int32 × CS) (hf : f_X5_violationsOf lk S j = some q) : Ci l yX5_violationsOf cX5_violationsOf 2 (some .int) 3 70 (cX B A sa h lk) (cKf B A) A S [.ref (cAf B 0), .ref (sa (5 * j))] q.1 q.2 := by
  refine met_i (by decide +kernel) (Nat.le_of_ble_eq_true rfl) (fun K hl hA hn F hR => ?_)
  subst hl; subst hA
  exact w_X5_violationsOf B sa h lk hw K F hn S j hj q hf hR
set_option maxHeartbeats 4000000 in
set_option maxRecDepth 100000 in
theorem w_X5_danger (B : CB) (sa : Nat → Nat) (h : Nat → Bool) (lk : Nat × Nat) (hw : cWf h lk) (K : Ctx) (F : Fx K cX5_danger RX5 (cKf B (kA K)) 4 91) (hn : kn K = 4) (S : CS) (a1 : Int32) (q : Int32 × CS) (hf : f_X5_danger h lk S a1 = some q) (hR : ∀ (pc : Nat) (lv : List (Nat × Value)), decode cX5_danger pc = .ok (.ireturn, 1) → G K (cX B (kA K) sa h lk) 0 0 pc q.2 lv [.int q.1]) : G K (cX B (kA K) sa h lk) 0 0 0 S [(0, .ref (cAf B 0)), (1, .int a1)] [] := by
  have hok := cKf_ok B (kA K)
  unfold f_X5_danger at hf
  refine g_aload_n 1 0 F dX5_danger_0 rfl rfl ?_
  refine cg_X5_live 4 F fl_X5_10 dX5_danger_1 rfl ?_
  refine g_iload_n 5 1 F dX5_danger_4 rfl rfl ?_
  obtain ⟨q1, e2, hf⟩ := op_bd hf
  refine g_cVq 8 (st := []) F hok (c_X0_find (kl K) B sa h lk hw (kA K) S lk.1 a1 hw.1 q1 e2) wy_X0_find ml_X5_107 (c_rc_X0 F hw.1) ⟨Nat.le_of_ble_eq_true rfl, Nat.le_of_ble_eq_true rfl⟩ rfl rfl (Nat.le_of_ble_eq_true rfl) ⟨Nat.zero_le _, Nat.zero_le _⟩ dX5_danger_5 rfl ?_
  rcases op_oc hf with ⟨e4, hf⟩ | ⟨j3, e4, hf⟩
  · subst e4
    change G K (cX B (kA K) sa h lk) 0 0 8 S [(0, .ref (cAf B 0)), (1, .int a1)] [.null]
    refine g_astore_nN 9 [(2, .null), (0, .ref (cAf B 0)), (1, .int a1)] F dX5_danger_8 (lt_kn hn (by decide)) rfl rfl ?_
    refine g_aload_nN 10 0 F dX5_danger_9 rfl rfl ?_
    refine g_ifnonnullN 13 F dX5_danger_10 rfl ?_
    refine g_iconst 14 (v := (-1)) F dX5_danger_13 (by decide) rfl ?_
    obtain rfl := Option.some.inj hf
    exact hR _ _ dX5_danger_14
  · subst e4
    have hj3 : h j3 = true := find_has e2
    change G K (cX B (kA K) sa h lk) 0 0 8 S [(0, .ref (cAf B 0)), (1, .int a1)] [.ref (sa (5 * j3))]
    refine g_astore_n 9 [(2, .ref (sa (5 * j3))), (0, .ref (cAf B 0)), (1, .int a1)] F dX5_danger_8 (lt_kn hn (by decide)) rfl rfl ?_
    refine g_aload_n 10 0 F dX5_danger_9 rfl rfl ?_
    refine g_ifnonnull 15 F dX5_danger_10 rfl ?_
    refine g_aload_n 16 1 F dX5_danger_15 rfl rfl ?_
    refine g_aload_n 17 0 F dX5_danger_16 rfl rfl ?_
    obtain ⟨q5, e6, hf⟩ := op_bd hf
    refine g_cVi 20 (st := []) F hok (c_X5_violationsOf (kl K) B sa h lk hw (kA K) S j3 hj3 q5 e6) wy_X5_violationsOf ml_X5_130 (c_rc_X5 F) ⟨Nat.le_of_ble_eq_true rfl, Nat.le_of_ble_eq_true rfl⟩ rfl rfl (Nat.le_of_ble_eq_true rfl) ⟨Nat.zero_le _, Nat.zero_le _⟩ dX5_danger_17 rfl ?_
    refine g_istore_n 21 [(3, .int q5.1), (2, .ref (sa (5 * j3))), (0, .ref (cAf B 0)), (1, .int a1)] F dX5_danger_20 (lt_kn hn (by decide)) rfl rfl ?_
    refine g_aload_n 22 2 F dX5_danger_21 rfl rfl ?_
    refine cg_X5_tally 25 F fl_X5_22 dX5_danger_22 rfl ?_
    refine g_aload_n 26 2 F dX5_danger_25 rfl rfl ?_
    refine cg_X5_live 29 F fl_X5_10 dX5_danger_26 rfl ?_
    refine cg_X0_day 32 F hw.1 fl_X5_98 dX5_danger_29 rfl ?_
    refine g_iconst 33 (v := 0) F dX5_danger_32 (by decide) rfl ?_
    obtain ⟨q7, e8, hf⟩ := op_bd hf
    refine g_cVv 36 (st := []) F hok (c_X2_add (kl K) B sa h lk hw (kA K) q5.2 (cR q5.2 lk.1 0) false q7 e8) wy_X2_add ml_X5_236 (c_rc_X2 F) ⟨Nat.le_of_ble_eq_true rfl, Nat.le_of_ble_eq_true rfl⟩ rfl rfl (Nat.le_of_ble_eq_true rfl) ⟨Nat.zero_le _, Nat.zero_le _⟩ dX5_danger_33 rfl ?_
    refine g_aload_n 37 2 F dX5_danger_36 rfl rfl ?_
    refine cg_X5_tally 40 F fl_X5_22 dX5_danger_37 rfl ?_
    refine cg_X2_violations 43 F fl_X5_240 dX5_danger_40 rfl ?_
    refine g_iload_n 44 0 F dX5_danger_43 rfl rfl ?_
    refine g_icmp_le 51 47 F dX5_danger_44 rfl rfl hf (fun _ hf => ?_) (fun _ hf => ?_)
    · refine g_iconst 52 (v := 0) F dX5_danger_51 (by decide) rfl ?_
      obtain rfl := Option.some.inj hf
      exact hR _ _ dX5_danger_52
    · refine g_iconst 48 (v := 1) F dX5_danger_47 (by decide) rfl ?_
      refine g_goto 52 F dX5_danger_48 rfl ?_
      obtain rfl := Option.some.inj hf
      exact hR _ _ dX5_danger_52
theorem c_X5_danger (l : Launch) (B : CB) (sa : Nat → Nat) (h : Nat → Bool) (lk : Nat × Nat) (hw : cWf h lk) (A : Nat → Prop) (S : CS) (a1 : Int32) (q : Int32 × CS) (hf : f_X5_danger h lk S a1 = some q) : Ci l yX5_danger cX5_danger 4 (some .int) 4 91 (cX B A sa h lk) (cKf B A) A S [.ref (cAf B 0), .int a1] q.1 q.2 := by
  refine met_i (by decide +kernel) (Nat.le_of_ble_eq_true rfl) (fun K hl hA hn F hR => ?_)
  subst hl; subst hA
  exact w_X5_danger B sa h lk hw K F hn S a1 q hf hR
set_option maxHeartbeats 4000000 in
set_option maxRecDepth 100000 in
theorem w_X5_easier (B : CB) (sa : Nat → Nat) (h : Nat → Bool) (lk : Nat × Nat) (hw : cWf h lk) (K : Ctx) (F : Fx K cX5_easier RX5 (cKf B (kA K)) 3 70) (hn : kn K = 4) (S : CS) (a1 : Int32) (q : Int32 × CS) (hf : f_X5_easier h lk S a1 = some q) (hR : ∀ (pc : Nat) (lv : List (Nat × Value)), decode cX5_easier pc = .ok (.ireturn, 1) → G K (cX B (kA K) sa h lk) 0 0 pc q.2 lv [.int q.1]) : G K (cX B (kA K) sa h lk) 0 0 0 S [(0, .ref (cAf B 0)), (1, .int a1)] [] := by
  have hok := cKf_ok B (kA K)
  unfold f_X5_easier at hf
  refine g_aload_n 1 0 F dX5_easier_0 rfl rfl ?_
  refine cg_X5_live 4 F fl_X5_10 dX5_easier_1 rfl ?_
  refine g_iload_n 5 1 F dX5_easier_4 rfl rfl ?_
  obtain ⟨q1, e2, hf⟩ := op_bd hf
  refine g_cVq 8 (st := []) F hok (c_X0_find (kl K) B sa h lk hw (kA K) S lk.1 a1 hw.1 q1 e2) wy_X0_find ml_X5_107 (c_rc_X0 F hw.1) ⟨Nat.le_of_ble_eq_true rfl, Nat.le_of_ble_eq_true rfl⟩ rfl rfl (Nat.le_of_ble_eq_true rfl) ⟨Nat.zero_le _, Nat.zero_le _⟩ dX5_easier_5 rfl ?_
  rcases op_oc hf with ⟨e4, hf⟩ | ⟨j3, e4, hf⟩
  · subst e4
    change G K (cX B (kA K) sa h lk) 0 0 8 S [(0, .ref (cAf B 0)), (1, .int a1)] [.null]
    refine g_astore_nN 9 [(2, .null), (0, .ref (cAf B 0)), (1, .int a1)] F dX5_easier_8 (lt_kn hn (by decide)) rfl rfl ?_
    refine g_aload_nN 10 0 F dX5_easier_9 rfl rfl ?_
    refine g_ifnonnullN 13 F dX5_easier_10 rfl ?_
    refine g_iconst 14 (v := (-1)) F dX5_easier_13 (by decide) rfl ?_
    obtain rfl := Option.some.inj hf
    exact hR _ _ dX5_easier_14
  · subst e4
    have hj3 : h j3 = true := find_has e2
    change G K (cX B (kA K) sa h lk) 0 0 8 S [(0, .ref (cAf B 0)), (1, .int a1)] [.ref (sa (5 * j3))]
    refine g_astore_n 9 [(2, .ref (sa (5 * j3))), (0, .ref (cAf B 0)), (1, .int a1)] F dX5_easier_8 (lt_kn hn (by decide)) rfl rfl ?_
    refine g_aload_n 10 0 F dX5_easier_9 rfl rfl ?_
    refine g_ifnonnull 15 F dX5_easier_10 rfl ?_
    refine g_aload_n 16 1 F dX5_easier_15 rfl rfl ?_
    refine cg_X5_tally 19 F fl_X5_22 dX5_easier_16 rfl ?_
    refine g_aload_n 20 0 F dX5_easier_19 rfl rfl ?_
    refine g_aload_n 21 1 F dX5_easier_20 rfl rfl ?_
    refine cg_X5_live 24 F fl_X5_10 dX5_easier_21 rfl ?_
    refine cg_X0_settings 27 F hw.1 fl_X5_169 dX5_easier_24 rfl ?_
    refine g_iconst 28 (v := (-1)) F dX5_easier_27 (by decide) rfl ?_
    obtain ⟨q5, e6, hf⟩ := op_bd hf
    refine g_cVv 31 (st := []) F hok (c_X2_goThrough (kl K) B sa h lk hw (kA K) S j3 lk.1 (-1) hj3 hw.1 q5 e6) wy_X2_goThrough ml_X5_172 (c_rc_X2 F) ⟨Nat.le_of_ble_eq_true rfl, Nat.le_of_ble_eq_true rfl⟩ rfl rfl (Nat.le_of_ble_eq_true rfl) ⟨Nat.zero_le _, Nat.zero_le _⟩ dX5_easier_28 rfl ?_
    refine g_aload_n 32 1 F dX5_easier_31 rfl rfl ?_
    refine cg_X5_tally 35 F fl_X5_22 dX5_easier_32 rfl ?_
    refine g_aload_n 36 1 F dX5_easier_35 rfl rfl ?_
    refine cg_X5_live 39 F fl_X5_10 dX5_easier_36 rfl ?_
    refine cg_X0_day 42 F hw.1 fl_X5_98 dX5_easier_39 rfl ?_
    obtain ⟨q7, e8, hf⟩ := op_bd hf
    refine g_cVi 45 (st := []) F hok (c_X2_dayOfOldestPoint (kl K) B sa h lk hw (kA K) q5 (cR q5 lk.1 0) q7 e8) wy_X2_dayOfOldestPoint ml_X5_243 (c_rc_X2 F) ⟨Nat.le_of_ble_eq_true rfl, Nat.le_of_ble_eq_true rfl⟩ rfl rfl (Nat.le_of_ble_eq_true rfl) ⟨Nat.zero_le _, Nat.zero_le _⟩ dX5_easier_42 rfl ?_
    refine g_istore_n 46 [(3, .int q7), (2, .ref (sa (5 * j3))), (0, .ref (cAf B 0)), (1, .int a1)] F dX5_easier_45 (lt_kn hn (by decide)) rfl rfl ?_
    refine g_iload_n 47 0 F dX5_easier_46 rfl rfl ?_
    refine g_iconst 48 (v := (-1)) F dX5_easier_47 (by decide) rfl ?_
    refine g_icmp_ne 55 51 F dX5_easier_48 rfl rfl hf (fun _ hf => ?_) (fun _ hf => ?_)
    · refine g_iload_n 56 0 F dX5_easier_55 rfl rfl ?_
      refine g_aload_n 57 2 F dX5_easier_56 rfl rfl ?_
      refine cg_X5_live 60 F fl_X5_10 dX5_easier_57 rfl ?_
      refine cg_X0_settings 63 F hw.1 fl_X5_169 dX5_easier_60 rfl ?_
      refine g_iconst 64 (v := 0) F dX5_easier_63 (by decide) rfl ?_
      refine clK_As 65 0 F hw.1 (by decide) (by decide) dX5_easier_64 rfl ?_
      refine g_iadd 66 F dX5_easier_65 rfl ?_
      obtain rfl := Option.some.inj hf
      exact hR _ _ dX5_easier_66
    · refine g_iconst 52 (v := (-1)) F dX5_easier_51 (by decide) rfl ?_
      refine g_goto 66 F dX5_easier_52 rfl ?_
      obtain rfl := Option.some.inj hf
      exact hR _ _ dX5_easier_66
theorem c_X5_easier (l : Launch) (B : CB) (sa : Nat → Nat) (h : Nat → Bool) (lk : Nat × Nat) (hw : cWf h lk) (A : Nat → Prop) (S : CS) (a1 : Int32) (q : Int32 × CS) (hf : f_X5_easier h lk S a1 = some q) : Ci l yX5_easier cX5_easier 4 (some .int) 3 70 (cX B A sa h lk) (cKf B A) A S [.ref (cAf B 0), .int a1] q.1 q.2 := by
  refine met_i (by decide +kernel) (Nat.le_of_ble_eq_true rfl) (fun K hl hA hn F hR => ?_)
  subst hl; subst hA
  exact w_X5_easier B sa h lk hw K F hn S a1 q hf hR
set_option maxHeartbeats 4000000 in
set_option maxRecDepth 100000 in
theorem w_X5_without (B : CB) (sa : Nat → Nat) (h : Nat → Bool) (lk : Nat × Nat) (hw : cWf h lk) (K : Ctx) (F : Fx K cX5_without RX5 (cKf B (kA K)) 3 70) (hn : kn K = 4) (S : CS) (a1 : Int32) (a2 : Int32) (q : Int32 × CS) (hf : f_X5_without h lk S a1 a2 = some q) (hR : ∀ (pc : Nat) (lv : List (Nat × Value)), decode cX5_without pc = .ok (.ireturn, 1) → G K (cX B (kA K) sa h lk) 0 0 pc q.2 lv [.int q.1]) : G K (cX B (kA K) sa h lk) 0 0 0 S [(0, .ref (cAf B 0)), (1, .int a1), (2, .int a2)] [] := by
  have hok := cKf_ok B (kA K)
  unfold f_X5_without at hf
  refine g_aload_n 1 0 F dX5_without_0 rfl rfl ?_
  refine cg_X5_live 4 F fl_X5_10 dX5_without_1 rfl ?_
  refine g_iload_n 5 1 F dX5_without_4 rfl rfl ?_
  obtain ⟨q1, e2, hf⟩ := op_bd hf
  refine g_cVq 8 (st := []) F hok (c_X0_find (kl K) B sa h lk hw (kA K) S lk.1 a1 hw.1 q1 e2) wy_X0_find ml_X5_107 (c_rc_X0 F hw.1) ⟨Nat.le_of_ble_eq_true rfl, Nat.le_of_ble_eq_true rfl⟩ rfl rfl (Nat.le_of_ble_eq_true rfl) ⟨Nat.zero_le _, Nat.zero_le _⟩ dX5_without_5 rfl ?_
  rcases op_oc hf with ⟨e4, hf⟩ | ⟨j3, e4, hf⟩
  · subst e4
    change G K (cX B (kA K) sa h lk) 0 0 8 S [(0, .ref (cAf B 0)), (1, .int a1), (2, .int a2)] [.null]
    refine g_astore_nN 9 [(3, .null), (0, .ref (cAf B 0)), (1, .int a1), (2, .int a2)] F dX5_without_8 (lt_kn hn (by decide)) rfl rfl ?_
    refine g_aload_nN 10 0 F dX5_without_9 rfl rfl ?_
    refine g_ifnullN 21 F dX5_without_10 rfl ?_
    refine g_iconst 22 (v := (-1)) F dX5_without_21 (by decide) rfl ?_
    obtain rfl := Option.some.inj hf
    exact hR _ _ dX5_without_22
  · subst e4
    have hj3 : h j3 = true := find_has e2
    change G K (cX B (kA K) sa h lk) 0 0 8 S [(0, .ref (cAf B 0)), (1, .int a1), (2, .int a2)] [.ref (sa (5 * j3))]
    refine g_astore_n 9 [(3, .ref (sa (5 * j3))), (0, .ref (cAf B 0)), (1, .int a1), (2, .int a2)] F dX5_without_8 (lt_kn hn (by decide)) rfl rfl ?_
    refine g_aload_n 10 0 F dX5_without_9 rfl rfl ?_
    refine g_ifnull 13 F dX5_without_10 rfl ?_
    refine g_aload_n 14 0 F dX5_without_13 rfl rfl ?_
    refine g_iload_n 15 3 F dX5_without_14 rfl rfl ?_
    refine g_cVi 18 (st := []) F hok (c_X1_hasFailure (kl K) B sa h lk hw (kA K) S j3 a2 hj3 _ rfl) wy_X1_hasFailure ml_X5_166 (c_rc_X1 F hw hj3) ⟨Nat.le_of_ble_eq_true rfl, Nat.le_of_ble_eq_true rfl⟩ rfl rfl (Nat.le_of_ble_eq_true rfl) ⟨Nat.zero_le _, Nat.zero_le _⟩ dX5_without_15 rfl ?_
    refine g_ifne_b 23 21 F dX5_without_18 rfl rfl hf (fun _ hf => ?_) (fun _ hf => ?_)
    · refine g_aload_n 24 1 F dX5_without_23 rfl rfl ?_
      refine cg_X5_tally 27 F fl_X5_22 dX5_without_24 rfl ?_
      refine g_aload_n 28 0 F dX5_without_27 rfl rfl ?_
      refine g_aload_n 29 1 F dX5_without_28 rfl rfl ?_
      refine cg_X5_live 32 F fl_X5_10 dX5_without_29 rfl ?_
      refine cg_X0_settings 35 F hw.1 fl_X5_169 dX5_without_32 rfl ?_
      refine g_iload_n 36 3 F dX5_without_35 rfl rfl ?_
      obtain ⟨q5, e6, hf⟩ := op_bd hf
      refine g_cVv 39 (st := []) F hok (c_X2_goThrough (kl K) B sa h lk hw (kA K) S j3 lk.1 a2 hj3 hw.1 q5 e6) wy_X2_goThrough ml_X5_172 (c_rc_X2 F) ⟨Nat.le_of_ble_eq_true rfl, Nat.le_of_ble_eq_true rfl⟩ rfl rfl (Nat.le_of_ble_eq_true rfl) ⟨Nat.zero_le _, Nat.zero_le _⟩ dX5_without_36 rfl ?_
      refine g_aload_n 40 1 F dX5_without_39 rfl rfl ?_
      refine cg_X5_tally 43 F fl_X5_22 dX5_without_40 rfl ?_
      refine cg_X2_violations 46 F fl_X5_240 dX5_without_43 rfl ?_
      obtain rfl := Option.some.inj hf
      exact hR _ _ dX5_without_46
    · refine g_iconst 22 (v := (-1)) F dX5_without_21 (by decide) rfl ?_
      obtain rfl := Option.some.inj hf
      exact hR _ _ dX5_without_22
theorem c_X5_without (l : Launch) (B : CB) (sa : Nat → Nat) (h : Nat → Bool) (lk : Nat × Nat) (hw : cWf h lk) (A : Nat → Prop) (S : CS) (a1 : Int32) (a2 : Int32) (q : Int32 × CS) (hf : f_X5_without h lk S a1 a2 = some q) : Ci l yX5_without cX5_without 4 (some .int) 3 70 (cX B A sa h lk) (cKf B A) A S [.ref (cAf B 0), .int a1, .int a2] q.1 q.2 := by
  refine met_i (by decide +kernel) (Nat.le_of_ble_eq_true rfl) (fun K hl hA hn F hR => ?_)
  subst hl; subst hA
  exact w_X5_without B sa h lk hw K F hn S a1 a2 q hf hR
set_option maxHeartbeats 4000000 in
set_option maxRecDepth 100000 in
theorem w_J6_compare_7cf53 (B : CB) (sa : Nat → Nat) (h : Nat → Bool) (lk : Nat × Nat) (hw : cWf h lk) (K : Ctx) (F : Fx K cJ6_compare_7cf53 RJ6 (cKf B (kA K)) 0 0) (hn : kn K = 2) (S : CS) (a1 : Int32) (a2 : Int32) (q : Int32) (hf : f_J6_compare_7cf53 a1 a2 = q) (hR : ∀ (pc : Nat) (lv : List (Nat × Value)), decode cJ6_compare_7cf53 pc = .ok (.ireturn, 1) → G K (cX B (kA K) sa h lk) 0 0 pc S lv [.int q]) : G K (cX B (kA K) sa h lk) 0 0 0 S [(0, .int a1), (1, .int a2)] [] := by
  have hok := cKf_ok B (kA K)
  unfold f_J6_compare_7cf53 at hf
  refine g_iload_n 1 0 F dJ6_compare_7cf53_0 rfl rfl ?_
  refine g_iload_n 2 1 F dJ6_compare_7cf53_1 rfl rfl ?_
  refine g_icmp_ge 9 5 F dJ6_compare_7cf53_2 rfl rfl hf (fun _ hf => ?_) (fun _ hf => ?_)
  · refine g_iload_n 10 0 F dJ6_compare_7cf53_9 rfl rfl ?_
    refine g_iload_n 11 1 F dJ6_compare_7cf53_10 rfl rfl ?_
    refine g_icmp_ne 18 14 F dJ6_compare_7cf53_11 rfl rfl hf (fun _ hf => ?_) (fun _ hf => ?_)
    · refine g_iconst 19 (v := 1) F dJ6_compare_7cf53_18 (by decide) rfl ?_
      subst hf
      exact hR _ _ dJ6_compare_7cf53_19
    · refine g_iconst 15 (v := 0) F dJ6_compare_7cf53_14 (by decide) rfl ?_
      refine g_goto 19 F dJ6_compare_7cf53_15 rfl ?_
      subst hf
      exact hR _ _ dJ6_compare_7cf53_19
  · refine g_iconst 6 (v := (-1)) F dJ6_compare_7cf53_5 (by decide) rfl ?_
    refine g_goto 19 F dJ6_compare_7cf53_6 rfl ?_
    subst hf
    exact hR _ _ dJ6_compare_7cf53_19
theorem c_J6_compare_7cf53 (l : Launch) (B : CB) (sa : Nat → Nat) (h : Nat → Bool) (lk : Nat × Nat) (hw : cWf h lk) (A : Nat → Prop) (S : CS) (a1 : Int32) (a2 : Int32) (q : Int32) (hf : f_J6_compare_7cf53 a1 a2 = q) : Ci l yJ6_compare_7cf53 cJ6_compare_7cf53 2 (some .int) 0 0 (cX B A sa h lk) (cKf B A) A S [.int a1, .int a2] q S := by
  refine met_i (by decide +kernel) (Nat.le_of_ble_eq_true rfl) (fun K hl hA hn F hR => ?_)
  subst hl; subst hA
  exact w_J6_compare_7cf53 B sa h lk hw K F hn S a1 a2 q hf hR
set_option maxHeartbeats 4000000 in
set_option maxRecDepth 100000 in
theorem w_X5_worst (B : CB) (sa : Nat → Nat) (h : Nat → Bool) (lk : Nat × Nat) (hw : cWf h lk) (K : Ctx) (F : Fx K cX5_worst RX5 (cKf B (kA K)) 4 91) (hn : kn K = 10) (S : CS) (q : Int32 × CS) (hf : f_X5_worst h lk S = some q) (hR : ∀ (pc : Nat) (lv : List (Nat × Value)), decode cX5_worst pc = .ok (.ireturn, 1) → G K (cX B (kA K) sa h lk) 0 0 pc q.2 lv [.int q.1]) : G K (cX B (kA K) sa h lk) 0 0 0 S [(0, .ref (cAf B 0))] [] := by
  have hok := cKf_ok B (kA K)
  have J_106 : ∀ (r12 : CS → Int32 → Int32 → Int32 → Int32 → Int32 → Option (Int32 × CS)) (h12 : ∀ (S : CS) (x1 : Int32) (x2 : Int32) (x3 : Int32) (x4 : Int32) (x5 : Int32), r12 S x1 x2 x3 x4 x5 = some q → G K (cX B (kA K) sa h lk) 0 0 12 S [(0, .ref (cAf B 0)), (1, .int x1), (2, .int x2), (3, .int x3), (4, .int x4), (5, .int x5)] []) (S : CS) (x5 : Int32) (x6 : Nat) (hx6 : h x6 = true) (x7 : Int32) (x8 : Int32), j_X5_worst_106 h lk r12 S x5 x6 x7 x8 = some q → G K (cX B (kA K) sa h lk) 0 0 106 S [(0, .ref (cAf B 0)), (5, .int x5), (6, .ref (sa (5 * x6))), (7, .int x7), (8, .int x8)] [] := by
    intro r12 h12 S x5 x6 hx6 x7 x8 hf
    unfold j_X5_worst_106 at hf
    refine g_iload 108 1 F dX5_worst_106 rfl rfl ?_
    refine g_istore_n 109 [(1, .int x5), (0, .ref (cAf B 0)), (5, .int x5), (6, .ref (sa (5 * x6))), (7, .int x7), (8, .int x8)] F dX5_worst_108 (lt_kn hn (by decide)) rfl rfl ?_
    refine g_iload 111 4 F dX5_worst_109 rfl rfl ?_
    refine g_istore_n 112 [(2, .int x7), (1, .int x5), (0, .ref (cAf B 0)), (5, .int x5), (6, .ref (sa (5 * x6))), (7, .int x7), (8, .int x8)] F dX5_worst_111 (lt_kn hn (by decide)) rfl rfl ?_
    refine g_iload 114 6 F dX5_worst_112 rfl rfl ?_
    refine g_istore_n 115 [(3, .int x8), (2, .int x7), (1, .int x5), (0, .ref (cAf B 0)), (5, .int x5), (6, .ref (sa (5 * x6))), (7, .int x7), (8, .int x8)] F dX5_worst_114 (lt_kn hn (by decide)) rfl rfl ?_
    refine g_aload 117 5 F dX5_worst_115 rfl rfl ?_
    refine cg_X1_failures 120 F hw hx6 fl_X5_127 dX5_worst_117 rfl ?_
    refine g_istore 122 [(4, .int (cP S x6 6)), (3, .int x8), (2, .int x7), (1, .int x5), (0, .ref (cAf B 0)), (5, .int x5), (6, .ref (sa (5 * x6))), (7, .int x7), (8, .int x8)] F dX5_worst_120 (lt_kn hn (by decide)) rfl rfl ?_
    refine g_iinc 125 5 (x5 + 1) [(5, .int (x5 + 1)), (4, .int (cP S x6 6)), (3, .int x8), (2, .int x7), (1, .int x5), (0, .ref (cAf B 0)), (6, .ref (sa (5 * x6))), (7, .int x7), (8, .int x8)] F dX5_worst_122 rfl rfl (lt_kn hn (by decide)) rfl rfl ?_
    refine g_goto 12 F dX5_worst_125 rfl ?_
    exact G.lvs [5, 4, 3, 2, 1, 0] rfl (h12 S x5 x7 x8 (cP S x6 6) (x5 + 1) hf)
  have J_96 : ∀ (r12 : CS → Int32 → Int32 → Int32 → Int32 → Int32 → Option (Int32 × CS)) (h12 : ∀ (S : CS) (x1 : Int32) (x2 : Int32) (x3 : Int32) (x4 : Int32) (x5 : Int32), r12 S x1 x2 x3 x4 x5 = some q → G K (cX B (kA K) sa h lk) 0 0 12 S [(0, .ref (cAf B 0)), (1, .int x1), (2, .int x2), (3, .int x3), (4, .int x4), (5, .int x5)] []) (S : CS) (x1 : Int32) (x2 : Int32) (x3 : Int32) (x4 : Int32) (x5 : Int32) (x6 : Nat) (hx6 : h x6 = true) (x7 : Int32) (x8 : Int32) (x9 : Int32), j_X5_worst_96 h lk r12 S x1 x2 x3 x4 x5 x6 x7 x8 x9 = some q → G K (cX B (kA K) sa h lk) 0 0 96 S [(0, .ref (cAf B 0)), (1, .int x1), (2, .int x2), (3, .int x3), (4, .int x4), (5, .int x5), (6, .ref (sa (5 * x6))), (7, .int x7), (8, .int x8), (9, .int x9)] [] := by
    intro r12 h12 S x1 x2 x3 x4 x5 x6 hx6 x7 x8 x9 hf
    unfold j_X5_worst_96 at hf
    refine g_iload_n 97 1 F dX5_worst_96 rfl rfl ?_
    refine g_iconst 98 (v := (-1)) F dX5_worst_97 (by decide) rfl ?_
    refine g_icmp_eq 106 101 F dX5_worst_98 rfl rfl hf (fun _ hf => ?_) (fun _ hf => ?_)
    · exact G.lvs [0, 5, 6, 7, 8] rfl (J_106 r12 h12 S x5 x6 hx6 x7 x8 hf)
    · refine g_iload 103 9 F dX5_worst_101 rfl rfl ?_
      refine g_if_le 122 106 F dX5_worst_103 rfl rfl hf (fun _ hf => ?_) (fun _ hf => ?_)
      · refine g_iinc 125 5 (x5 + 1) [(5, .int (x5 + 1)), (0, .ref (cAf B 0)), (1, .int x1), (2, .int x2), (3, .int x3), (4, .int x4), (6, .ref (sa (5 * x6))), (7, .int x7), (8, .int x8), (9, .int x9)] F dX5_worst_122 rfl rfl (lt_kn hn (by decide)) rfl rfl ?_
        refine g_goto 12 F dX5_worst_125 rfl ?_
        exact G.lvs [1, 2, 3, 4, 5, 0] rfl (h12 S x1 x2 x3 x4 (x5 + 1) hf)
      · exact G.lvs [0, 5, 6, 7, 8] rfl (J_106 r12 h12 S x5 x6 hx6 x7 x8 hf)
  have J_79 : ∀ (r12 : CS → Int32 → Int32 → Int32 → Int32 → Int32 → Option (Int32 × CS)) (h12 : ∀ (S : CS) (x1 : Int32) (x2 : Int32) (x3 : Int32) (x4 : Int32) (x5 : Int32), r12 S x1 x2 x3 x4 x5 = some q → G K (cX B (kA K) sa h lk) 0 0 12 S [(0, .ref (cAf B 0)), (1, .int x1), (2, .int x2), (3, .int x3), (4, .int x4), (5, .int x5)] []) (S : CS) (x1 : Int32) (x2 : Int32) (x3 : Int32) (x4 : Int32) (x5 : Int32) (x6 : Nat) (hx6 : h x6 = true) (x7 : Int32) (x8 : Int32) (x9 : Int32), j_X5_worst_79 h lk r12 S x1 x2 x3 x4 x5 x6 x7 x8 x9 = some q → G K (cX B (kA K) sa h lk) 0 0 79 S [(0, .ref (cAf B 0)), (1, .int x1), (2, .int x2), (3, .int x3), (4, .int x4), (5, .int x5), (6, .ref (sa (5 * x6))), (7, .int x7), (8, .int x8), (9, .int x9)] [] := by
    intro r12 h12 S x1 x2 x3 x4 x5 x6 hx6 x7 x8 x9 hf
    unfold j_X5_worst_79 at hf
    refine g_iload 81 9 F dX5_worst_79 rfl rfl ?_
    refine g_if_ne 96 84 F dX5_worst_81 rfl rfl hf (fun _ hf => ?_) (fun _ hf => ?_)
    · exact G.lvs [0, 1, 2, 3, 4, 5, 6, 7, 8, 9] rfl (J_96 r12 h12 S x1 x2 x3 x4 x5 x6 hx6 x7 x8 x9 hf)
    · refine g_aload 86 6 F dX5_worst_84 rfl rfl ?_
      refine cg_X1_failures 89 F hw hx6 fl_X5_127 dX5_worst_86 rfl ?_
      refine g_iload 91 4 F dX5_worst_89 rfl rfl ?_
      refine g_cSi 94 (st := []) F hok (c_J6_compare_7cf53 (kl K) B sa h lk hw (kA K) S (cP S x6 6) x4 _ rfl) ws_J6_compare_7cf53 ml_X5_246 ⟨Nat.le_of_ble_eq_true rfl, Nat.le_of_ble_eq_true rfl⟩ rfl rfl (Nat.le_of_ble_eq_true rfl) ⟨Nat.zero_le _, Nat.zero_le _⟩ dX5_worst_91 rfl ?_
      refine g_istore 96 [(9, .int (f_J6_compare_7cf53 (cP S x6 6) x4)), (0, .ref (cAf B 0)), (1, .int x1), (2, .int x2), (3, .int x3), (4, .int x4), (5, .int x5), (6, .ref (sa (5 * x6))), (7, .int x7), (8, .int x8)] F dX5_worst_94 (lt_kn hn (by decide)) rfl rfl ?_
      exact G.lvs [1, 2, 3, 4, 5, 6, 7, 8, 9, 0] rfl (J_96 r12 h12 S x1 x2 x3 x4 x5 x6 hx6 x7 x8 (f_J6_compare_7cf53 (cP S x6 6) x4) hf)
  have L_12 : ∀ (n : Nat) (S : CS) (x1 : Int32) (x2 : Int32) (x3 : Int32) (x4 : Int32) (x5 : Int32), l_X5_worst_12 h lk n S x1 x2 x3 x4 x5 = some q → G K (cX B (kA K) sa h lk) 0 0 12 S [(0, .ref (cAf B 0)), (1, .int x1), (2, .int x2), (3, .int x3), (4, .int x4), (5, .int x5)] [] := by
    intro n
    induction n with
    | zero =>
      intro S x1 x2 x3 x4 x5 hf
      rw [l_X5_worst_12] at hf
      cases hf
    | succ n ih =>
      intro S x1 x2 x3 x4 x5 hf
      rw [l_X5_worst_12] at hf
      refine g_iload 14 5 F dX5_worst_12 rfl rfl ?_
      refine g_aload_n 15 0 F dX5_worst_14 rfl rfl ?_
      refine cg_X5_live 18 F fl_X5_10 dX5_worst_15 rfl ?_
      refine cg_X0_athletes 21 F hw.1 fl_X5_95 dX5_worst_18 rfl ?_
      refine g_icmp_ge 128 24 F dX5_worst_21 rfl rfl hf (fun _ hf => ?_) (fun _ hf => ?_)
      · refine g_iload_n 129 1 F dX5_worst_128 rfl rfl ?_
        obtain rfl := Option.some.inj hf
        exact hR _ _ dX5_worst_129
      · refine g_aload_n 25 0 F dX5_worst_24 rfl rfl ?_
        refine cg_X5_live 28 F fl_X5_10 dX5_worst_25 rfl ?_
        refine g_iload 30 5 F dX5_worst_28 rfl rfl ?_
        obtain ⟨q1, e2, hf⟩ := op_bd hf
        refine g_cVq 33 (st := []) F hok (c_X0_find (kl K) B sa h lk hw (kA K) S lk.1 x5 hw.1 q1 e2) wy_X0_find ml_X5_107 (c_rc_X0 F hw.1) ⟨Nat.le_of_ble_eq_true rfl, Nat.le_of_ble_eq_true rfl⟩ rfl rfl (Nat.le_of_ble_eq_true rfl) ⟨Nat.zero_le _, Nat.zero_le _⟩ dX5_worst_30 rfl ?_
        rcases op_oc hf with ⟨e4, hf⟩ | ⟨j3, e4, hf⟩
        · subst e4
          change G K (cX B (kA K) sa h lk) 0 0 33 S [(0, .ref (cAf B 0)), (1, .int x1), (2, .int x2), (3, .int x3), (4, .int x4), (5, .int x5)] [.null]
          refine g_astoreN 35 [(6, .null), (0, .ref (cAf B 0)), (1, .int x1), (2, .int x2), (3, .int x3), (4, .int x4), (5, .int x5)] F dX5_worst_33 (lt_kn hn (by decide)) rfl rfl ?_
          refine g_aloadN 37 0 F dX5_worst_35 rfl rfl ?_
          refine g_ifnonnullN 40 F dX5_worst_37 rfl ?_
          refine g_iconst 41 (v := (-1)) F dX5_worst_40 (by decide) rfl ?_
          obtain rfl := Option.some.inj hf
          exact hR _ _ dX5_worst_41
        · subst e4
          have hj3 : h j3 = true := find_has e2
          change G K (cX B (kA K) sa h lk) 0 0 33 S [(0, .ref (cAf B 0)), (1, .int x1), (2, .int x2), (3, .int x3), (4, .int x4), (5, .int x5)] [.ref (sa (5 * j3))]
          refine g_astore 35 [(6, .ref (sa (5 * j3))), (0, .ref (cAf B 0)), (1, .int x1), (2, .int x2), (3, .int x3), (4, .int x4), (5, .int x5)] F dX5_worst_33 (lt_kn hn (by decide)) rfl rfl ?_
          refine g_aload 37 0 F dX5_worst_35 rfl rfl ?_
          refine g_ifnonnull 42 F dX5_worst_37 rfl ?_
          refine g_aload_n 43 1 F dX5_worst_42 rfl rfl ?_
          refine g_aload 45 0 F dX5_worst_43 rfl rfl ?_
          obtain ⟨q5, e6, hf⟩ := op_bd hf
          refine g_cVi 48 (st := []) F hok (c_X5_violationsOf (kl K) B sa h lk hw (kA K) S j3 hj3 q5 e6) wy_X5_violationsOf ml_X5_130 (c_rc_X5 F) ⟨Nat.le_of_ble_eq_true rfl, Nat.le_of_ble_eq_true rfl⟩ rfl rfl (Nat.le_of_ble_eq_true rfl) ⟨Nat.zero_le _, Nat.zero_le _⟩ dX5_worst_45 rfl ?_
          refine g_istore 50 [(7, .int q5.1), (6, .ref (sa (5 * j3))), (0, .ref (cAf B 0)), (1, .int x1), (2, .int x2), (3, .int x3), (4, .int x4), (5, .int x5)] F dX5_worst_48 (lt_kn hn (by decide)) rfl rfl ?_
          refine g_aload_n 51 2 F dX5_worst_50 rfl rfl ?_
          refine g_aload 53 1 F dX5_worst_51 rfl rfl ?_
          obtain ⟨q7, e8, hf⟩ := op_bd hf
          refine g_cVi 56 (st := []) F hok (c_X5_pointsOf (kl K) B sa h lk hw (kA K) q5.2 j3 hj3 q7 e8) wy_X5_pointsOf ml_X5_123 (c_rc_X5 F) ⟨Nat.le_of_ble_eq_true rfl, Nat.le_of_ble_eq_true rfl⟩ rfl rfl (Nat.le_of_ble_eq_true rfl) ⟨Nat.zero_le _, Nat.zero_le _⟩ dX5_worst_53 rfl ?_
          refine g_istore 58 [(8, .int q7.1), (7, .int q5.1), (6, .ref (sa (5 * j3))), (0, .ref (cAf B 0)), (1, .int x1), (2, .int x2), (3, .int x3), (4, .int x4), (5, .int x5)] F dX5_worst_56 (lt_kn hn (by decide)) rfl rfl ?_
          refine g_iload 60 1 F dX5_worst_58 rfl rfl ?_
          refine g_iload_n 61 5 F dX5_worst_60 rfl rfl ?_
          refine g_cSi 64 (st := []) F hok (c_J6_compare_7cf53 (kl K) B sa h lk hw (kA K) q7.2 q5.1 x2 _ rfl) ws_J6_compare_7cf53 ml_X5_246 ⟨Nat.le_of_ble_eq_true rfl, Nat.le_of_ble_eq_true rfl⟩ rfl rfl (Nat.le_of_ble_eq_true rfl) ⟨Nat.zero_le _, Nat.zero_le _⟩ dX5_worst_61 rfl ?_
          refine g_istore 66 [(9, .int (f_J6_compare_7cf53 q5.1 x2)), (8, .int q7.1), (7, .int q5.1), (6, .ref (sa (5 * j3))), (0, .ref (cAf B 0)), (1, .int x1), (2, .int x2), (3, .int x3), (4, .int x4), (5, .int x5)] F dX5_worst_64 (lt_kn hn (by decide)) rfl rfl ?_
          refine g_iload 68 0 F dX5_worst_66 rfl rfl ?_
          refine g_if_ne 79 71 F dX5_worst_68 rfl rfl hf (fun _ hf => ?_) (fun _ hf => ?_)
          · exact G.lvs [4, 5, 6, 7, 8, 9, 3, 2, 1, 0] rfl (J_79 (l_X5_worst_12 h lk n) ih q7.2 x1 x2 x3 x4 x5 j3 hj3 q5.1 q7.1 (f_J6_compare_7cf53 q5.1 x2) hf)
          · refine g_iload 73 1 F dX5_worst_71 rfl rfl ?_
            refine g_iload_n 74 7 F dX5_worst_73 rfl rfl ?_
            refine g_cSi 77 (st := []) F hok (c_J6_compare_7cf53 (kl K) B sa h lk hw (kA K) q7.2 q7.1 x3 _ rfl) ws_J6_compare_7cf53 ml_X5_246 ⟨Nat.le_of_ble_eq_true rfl, Nat.le_of_ble_eq_true rfl⟩ rfl rfl (Nat.le_of_ble_eq_true rfl) ⟨Nat.zero_le _, Nat.zero_le _⟩ dX5_worst_74 rfl ?_
            refine g_istore 79 [(9, .int (f_J6_compare_7cf53 q7.1 x3)), (8, .int q7.1), (7, .int q5.1), (6, .ref (sa (5 * j3))), (0, .ref (cAf B 0)), (1, .int x1), (2, .int x2), (3, .int x3), (4, .int x4), (5, .int x5)] F dX5_worst_77 (lt_kn hn (by decide)) rfl rfl ?_
            exact G.lvs [4, 5, 6, 7, 8, 9, 3, 2, 1, 0] rfl (J_79 (l_X5_worst_12 h lk n) ih q7.2 x1 x2 x3 x4 x5 j3 hj3 q5.1 q7.1 (f_J6_compare_7cf53 q7.1 x3) hf)
  unfold f_X5_worst at hf
  refine g_iconst 1 (v := (-1)) F dX5_worst_0 (by decide) rfl ?_
  refine g_istore_n 2 [(1, .int (-1)), (0, .ref (cAf B 0))] F dX5_worst_1 (lt_kn hn (by decide)) rfl rfl ?_
  refine g_iconst 3 (v := 0) F dX5_worst_2 (by decide) rfl ?_
  refine g_istore_n 4 [(2, .int 0), (1, .int (-1)), (0, .ref (cAf B 0))] F dX5_worst_3 (lt_kn hn (by decide)) rfl rfl ?_
  refine g_iconst 5 (v := 0) F dX5_worst_4 (by decide) rfl ?_
  refine g_istore_n 6 [(3, .int 0), (2, .int 0), (1, .int (-1)), (0, .ref (cAf B 0))] F dX5_worst_5 (lt_kn hn (by decide)) rfl rfl ?_
  refine g_iconst 7 (v := 0) F dX5_worst_6 (by decide) rfl ?_
  refine g_istore 9 [(4, .int 0), (3, .int 0), (2, .int 0), (1, .int (-1)), (0, .ref (cAf B 0))] F dX5_worst_7 (lt_kn hn (by decide)) rfl rfl ?_
  refine g_iconst 10 (v := 0) F dX5_worst_9 (by decide) rfl ?_
  refine g_istore 12 [(5, .int 0), (4, .int 0), (3, .int 0), (2, .int 0), (1, .int (-1)), (0, .ref (cAf B 0))] F dX5_worst_10 (lt_kn hn (by decide)) rfl rfl ?_
  exact G.lvs [5, 4, 3, 2, 1, 0] rfl (L_12 fu S (-1) 0 0 0 0 hf)
theorem c_X5_worst (l : Launch) (B : CB) (sa : Nat → Nat) (h : Nat → Bool) (lk : Nat × Nat) (hw : cWf h lk) (A : Nat → Prop) (S : CS) (q : Int32 × CS) (hf : f_X5_worst h lk S = some q) : Ci l yX5_worst cX5_worst 10 (some .int) 4 91 (cX B A sa h lk) (cKf B A) A S [.ref (cAf B 0)] q.1 q.2 := by
  refine met_i (by decide +kernel) (Nat.le_of_ble_eq_true rfl) (fun K hl hA hn F hR => ?_)
  subst hl; subst hA
  exact w_X5_worst B sa h lk hw K F hn S q hf hR
