set_option maxHeartbeats 4000000 in
set_option maxRecDepth 100000 in
theorem c_X1_init (l : Launch) (B : CB) (A : Nat → Prop) (w0 : va_W) (q0 : Nat) : Cr l yX1_init cX1_init 1 1 12 4 1280 B.1 (cKf B A) A (w0 ++ [(q0, .inr (1, [.int 0, .int 0, .int 0, .int 0, .int 0, .int 0, .int 0, .null, .null, .null, .null]))]) [.ref q0] (fun u => ∃ p0 p1 p2 p3, u = w0 ++ [(q0, .inr (1, [.int 0, .int 0, .int 0, .int 0, .int 0, .int 0, .int 0, .ref p0, .ref p1, .ref p2, .ref p3])), (p0, .inl (B.2.1 0, 60, .inl (fun _ => 0))), (p1, .inl (B.2.1 0, 60, .inl (fun _ => 0))), (p2, .inl (B.2.1 0, 60, .inl (fun _ => 0))), (p3, .inl (B.2.1 0, 1100, .inl (fun _ => 0)))]) := by
  refine met_r (by decide +kernel) (Nat.le_of_ble_eq_true rfl) (fun K hl hA hn hRm F hnm hR => ?_)
  subst hl; subst hA
  have hok := cKf_ok B (kA K)
  have hK := F.2.2.2.2.2.1.1
  show G K (rX B.1 (kA K)) 0 0 0 (w0 ++ [(q0, .inr (1, [.int 0, .int 0, .int 0, .int 0, .int 0, .int 0, .int 0, .null, .null, .null, .null]))]) [(0, .ref q0)] []
  refine g_aload_n 1 0 F dX1_init_0 rfl rfl ?_
  refine r_objInit 4 F ml_X1_3 oi_inst oi_code (Nat.le_of_ble_eq_true rfl) (Nat.le_of_ble_eq_true rfl) dX1_init_1 rfl ?_
  refine g_aload_n 5 0 F dX1_init_4 rfl rfl ?_
  refine g_bipush 7 (v := 60) F dX1_init_5 (by decide) rfl ?_
  refine rp_newI 0 (N := 60) 9 F hK rfl (by decide) (by decide) (Nat.le_of_ble_eq_true rfl) (by rw [hRm]; exact Nat.le_of_ble_eq_true rfl) (by rw [hRm]; exact Nat.le_of_ble_eq_true rfl) dX1_init_7 rfl (fun q1 => ?_)
  show G K (rX B.1 (kA K)) 1 60 9 (w0 ++ [(q0, .inr (1, [.int 0, .int 0, .int 0, .int 0, .int 0, .int 0, .int 0, .null, .null, .null, .null])), (q1, .inl (B.2.1 0, 60, .inl (fun _ => 0)))]) _ _
  refine rp_putF (L' := [(q0, .inr (1, [.int 0, .int 0, .int 0, .int 0, .int 0, .int 0, .int 0, .ref q1, .null, .null, .null])), (q1, .inl (B.2.1 0, 60, .inl (fun _ => 0)))]) (i := 0) (k := 7) (N := 11) (C := RX1) (T := TX1) (ty0 := tyX1) (ty := (.array .int)) 12 F hK hnm rfl rfl inT1 tyX1_ok nmX1 (by decide) fl_X1_9 rfl rfl (by decide +kernel) rfl rfl (Nat.le_of_ble_eq_true rfl) rfl dX1_init_9 rfl ?_
  refine g_aload_n 13 0 F dX1_init_12 rfl rfl ?_
  refine g_bipush 15 (v := 60) F dX1_init_13 (by decide) rfl ?_
  refine rp_newI 0 (N := 60) 17 F hK rfl (by decide) (by decide) (Nat.le_of_ble_eq_true rfl) (by rw [hRm]; exact Nat.le_of_ble_eq_true rfl) (by rw [hRm]; exact Nat.le_of_ble_eq_true rfl) dX1_init_15 rfl (fun q2 => ?_)
  show G K (rX B.1 (kA K)) 2 120 17 (w0 ++ [(q0, .inr (1, [.int 0, .int 0, .int 0, .int 0, .int 0, .int 0, .int 0, .ref q1, .null, .null, .null])), (q1, .inl (B.2.1 0, 60, .inl (fun _ => 0))), (q2, .inl (B.2.1 0, 60, .inl (fun _ => 0)))]) _ _
  refine rp_putF (L' := [(q0, .inr (1, [.int 0, .int 0, .int 0, .int 0, .int 0, .int 0, .int 0, .ref q1, .ref q2, .null, .null])), (q1, .inl (B.2.1 0, 60, .inl (fun _ => 0))), (q2, .inl (B.2.1 0, 60, .inl (fun _ => 0)))]) (i := 0) (k := 8) (N := 11) (C := RX1) (T := TX1) (ty0 := tyX1) (ty := (.array .int)) 20 F hK hnm rfl rfl inT1 tyX1_ok nmX1 (by decide) fl_X1_15 rfl rfl (by decide +kernel) rfl rfl (Nat.le_of_ble_eq_true rfl) rfl dX1_init_17 rfl ?_
  refine g_aload_n 21 0 F dX1_init_20 rfl rfl ?_
  refine g_bipush 23 (v := 60) F dX1_init_21 (by decide) rfl ?_
  refine rp_newI 0 (N := 60) 25 F hK rfl (by decide) (by decide) (Nat.le_of_ble_eq_true rfl) (by rw [hRm]; exact Nat.le_of_ble_eq_true rfl) (by rw [hRm]; exact Nat.le_of_ble_eq_true rfl) dX1_init_23 rfl (fun q3 => ?_)
  show G K (rX B.1 (kA K)) 3 180 25 (w0 ++ [(q0, .inr (1, [.int 0, .int 0, .int 0, .int 0, .int 0, .int 0, .int 0, .ref q1, .ref q2, .null, .null])), (q1, .inl (B.2.1 0, 60, .inl (fun _ => 0))), (q2, .inl (B.2.1 0, 60, .inl (fun _ => 0))), (q3, .inl (B.2.1 0, 60, .inl (fun _ => 0)))]) _ _
  refine rp_putF (L' := [(q0, .inr (1, [.int 0, .int 0, .int 0, .int 0, .int 0, .int 0, .int 0, .ref q1, .ref q2, .ref q3, .null])), (q1, .inl (B.2.1 0, 60, .inl (fun _ => 0))), (q2, .inl (B.2.1 0, 60, .inl (fun _ => 0))), (q3, .inl (B.2.1 0, 60, .inl (fun _ => 0)))]) (i := 0) (k := 9) (N := 11) (C := RX1) (T := TX1) (ty0 := tyX1) (ty := (.array .int)) 28 F hK hnm rfl rfl inT1 tyX1_ok nmX1 (by decide) fl_X1_18 rfl rfl (by decide +kernel) rfl rfl (Nat.le_of_ble_eq_true rfl) rfl dX1_init_25 rfl ?_
  refine g_aload_n 29 0 F dX1_init_28 rfl rfl ?_
  refine g_sipush 32 (v := 1100) F dX1_init_29 (by decide) rfl ?_
  refine rp_newI 0 (N := 1100) 34 F hK rfl (by decide) (by decide) (Nat.le_of_ble_eq_true rfl) (by rw [hRm]; exact Nat.le_of_ble_eq_true rfl) (by rw [hRm]; exact Nat.le_of_ble_eq_true rfl) dX1_init_32 rfl (fun q4 => ?_)
  show G K (rX B.1 (kA K)) 4 1280 34 (w0 ++ [(q0, .inr (1, [.int 0, .int 0, .int 0, .int 0, .int 0, .int 0, .int 0, .ref q1, .ref q2, .ref q3, .null])), (q1, .inl (B.2.1 0, 60, .inl (fun _ => 0))), (q2, .inl (B.2.1 0, 60, .inl (fun _ => 0))), (q3, .inl (B.2.1 0, 60, .inl (fun _ => 0))), (q4, .inl (B.2.1 0, 1100, .inl (fun _ => 0)))]) _ _
  refine rp_putF (L' := [(q0, .inr (1, [.int 0, .int 0, .int 0, .int 0, .int 0, .int 0, .int 0, .ref q1, .ref q2, .ref q3, .ref q4])), (q1, .inl (B.2.1 0, 60, .inl (fun _ => 0))), (q2, .inl (B.2.1 0, 60, .inl (fun _ => 0))), (q3, .inl (B.2.1 0, 60, .inl (fun _ => 0))), (q4, .inl (B.2.1 0, 1100, .inl (fun _ => 0)))]) (i := 0) (k := 10) (N := 11) (C := RX1) (T := TX1) (ty0 := tyX1) (ty := (.array .int)) 37 F hK hnm rfl rfl inT1 tyX1_ok nmX1 (by decide) fl_X1_21 rfl rfl (by decide +kernel) rfl rfl (Nat.le_of_ble_eq_true rfl) rfl dX1_init_34 rfl ?_
  exact hR _ ⟨q1, q2, q3, q4, rfl⟩ _ _ dX1_init_37
