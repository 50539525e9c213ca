def bOf (x : Int32) : Option Bool := if x = 0 then some false else if x = 1 then some true else none
theorem bOf_eq {x : Int32} {b : Bool} (e : bOf x = some b) : x = bI b := by
  unfold bOf at e
  rcases op_if e with ⟨c, e⟩ | ⟨_, e⟩
  · obtain rfl := Option.some.inj e; exact c
  · rcases op_if e with ⟨c, e⟩ | ⟨_, e⟩
    · obtain rfl := Option.some.inj e; exact c
    · cases e
theorem X0_rowOf_ok {h : Nat → Bool} {lk : Nat × Nat} {S : CS} {r : Nat} {i : Int32} {q : Nat × CS × (Nat → Bool)} (hr : r < 2) (hw : cWf h lk) (e : f_X0_rowOf h S r i = some q) : hle h q.2.2 ∧ cWf q.2.2 lk ∧ q.2.2 q.1 = true := rowOf_ok hr hw e
def f_X0_enter (h : Nat → Bool) (S : CS) (r : Nat) (a1 : Int32) : Option (Int32 × CS × (Nat → Bool)) :=
  if (f_X5_canBeRisk a1) = true then (if (cR S r 2) < 0 then (some ((-2), S, h)) else (if (cR S r 2) < 6 then ((f_X0_rowOf h S r (cR S r 2)).bind fun q1 => (f_X1_begin q1.2.1 q1.1 a1 (cR q1.2.1 r 0)).bind fun q3 => some (((cR (sR q3 r 2 ((cR q3 r 2) + 1)) r 2) - 1), (sR q3 r 2 ((cR q3 r 2) + 1)), q1.2.2)) else (some ((-2), S, h)))) else (some ((-1), S, h))
theorem X0_enter_ok {h : Nat → Bool} {lk : Nat × Nat} {S : CS} {r : Nat} {a1 : Int32} {q : Int32 × CS × (Nat → Bool)} (hr : r < 2) (hw : cWf h lk) (e : f_X0_enter h S r a1 = some q) : hle h q.2.2 ∧ cWf q.2.2 lk := by
  unfold f_X0_enter at e
  rcases op_if e with ⟨_, e⟩ | ⟨_, e⟩
  · rcases op_if e with ⟨_, e⟩ | ⟨_, e⟩
    · obtain rfl := Option.some.inj e
      exact ⟨hle_refl h, hw⟩
    · rcases op_if e with ⟨_, e⟩ | ⟨_, e⟩
      · obtain ⟨q1, z2, e⟩ := op_bd e
        obtain ⟨q3, z3, e⟩ := op_bd e
        have zz := And.intro (rowOf_ok hr hw z2).1 (rowOf_ok hr hw z2).2.1
        obtain rfl := Option.some.inj e
        exact zz
      · obtain rfl := Option.some.inj e
        exact ⟨hle_refl h, hw⟩
  · obtain rfl := Option.some.inj e
    exact ⟨hle_refl h, hw⟩
set_option maxHeartbeats 4000000 in
set_option maxRecDepth 100000 in
theorem c_X0_enter (l : Launch) (B : CB) (sa : Nat → Nat) (h : Nat → Bool) (lk : Nat × Nat) (hw : cWf h lk) (A : Nat → Prop) (S : CS) (r : Nat) (a1 : Int32) (hr : r < 2) (q : Int32 × CS × (Nat → Bool)) (hf : f_X0_enter h S r a1 = some q) : CAi l yX0_enter cX0_enter 2 (some .int) 3 55 B (cKf B A) A sa h lk lk S [.ref (cAf B (1 + r)), .int a1] q.1 q.2.1 q.2.2 := by
  refine met_ai (by decide +kernel) (Nat.le_of_ble_eq_true rfl) (fun K hl hA hn hRm F hR => ?_)
  subst hl; subst hA
  have hok := cKf_ok B (kA K)
  unfold f_X0_enter at hf
  show G K (cX B (kA K) sa h lk) 0 0 0 S [(0, .ref (cAf B (1 + r))), (1, .int a1)] []
  refine g_iload_n 1 1 F dX0_enter_0 rfl rfl ?_
  refine g_cSNi 4 (st := []) F hok (c_X5_canBeRisk (kl K) B sa h lk hw (kA K) S a1 _ rfl) ws_X5_canBeRisk (F.2.2.2.2.2.1.2.1 _ nl_X0_61) ⟨Nat.le_of_ble_eq_true rfl, Nat.le_of_ble_eq_true rfl⟩ rfl rfl (Nat.le_of_ble_eq_true rfl) ⟨Nat.zero_le _, Nat.zero_le _⟩ dX0_enter_1 rfl ?_
  refine g_ifne_b 9 7 F dX0_enter_4 rfl rfl hf (fun _ hf => ?_) (fun _ hf => ?_)
  · refine g_aload_n 10 0 F dX0_enter_9 rfl rfl ?_
    refine cg_X0_athletes 13 F hr fl_X0_29 dX0_enter_10 rfl ?_
    refine g_if_lt 25 16 F dX0_enter_13 rfl rfl hf (fun _ hf => ?_) (fun _ hf => ?_)
    · refine g_bipush 27 (v := (-2)) F dX0_enter_25 (by decide) rfl ?_
      obtain rfl := Option.some.inj hf
      exact G.widen _ _ (Nat.zero_le _) (Nat.zero_le _) (hR sa (agr_refl h sa) _ _ dX0_enter_27)
    · refine g_aload_n 17 0 F dX0_enter_16 rfl rfl ?_
      refine cg_X0_athletes 20 F hr fl_X0_29 dX0_enter_17 rfl ?_
      refine g_bipush 22 (v := 6) F dX0_enter_20 (by decide) rfl ?_
      refine g_icmp_lt 28 25 F dX0_enter_22 rfl rfl hf (fun _ hf => ?_) (fun _ hf => ?_)
      · refine g_aload_n 29 0 F dX0_enter_28 rfl rfl ?_
        refine g_aload_n 30 0 F dX0_enter_29 rfl rfl ?_
        refine cg_X0_athletes 33 F hr fl_X0_29 dX0_enter_30 rfl ?_
        obtain ⟨q1, e2, hf⟩ := op_bd hf
        have hq : q.2.2 = q1.2.2 := by
          obtain ⟨q3, z1, hf⟩ := op_bd hf
          obtain rfl := Option.some.inj hf
          rfl
        refine g_aVr 36 (st := []) F hok (c_X0_rowOf (kl K) B sa h lk hw (kA K) S r (cR S r 2) hr q1 e2) wy_X0_rowOf ml_X0_50 (c_rc_X0 F hr) ⟨Nat.le_of_ble_eq_true rfl, Nat.le_of_ble_eq_true rfl⟩ rfl rfl (Nat.le_of_ble_eq_true rfl) ⟨by rw [hRm, hq, Nat.zero_add]; exact Nat.le_refl _, by rw [hRm, hq, Nat.zero_add]; exact Nat.le_refl _⟩ dX0_enter_33 rfl (fun sa hag1 => ?_)
        have hj1 := (X0_rowOf_ok hr hw e2).2.2
        have hw := (X0_rowOf_ok hr hw e2).2.1
        refine g_iload_n 37 1 F dX0_enter_36 rfl rfl ?_
        refine g_aload_n 38 0 F dX0_enter_37 rfl rfl ?_
        refine cg_X0_day 41 F hr fl_X0_34 dX0_enter_38 rfl ?_
        obtain ⟨q3, e4, hf⟩ := op_bd hf
        refine g_cVv 44 (st := []) F hok (c_X1_begin (kl K) B sa q1.2.2 lk hw (kA K) q1.2.1 q1.1 a1 (cR q1.2.1 r 0) hj1 q3 e4) wy_X1_begin ml_X0_64 (c_rc_X1 F hw hj1) ⟨Nat.le_of_ble_eq_true rfl, Nat.le_of_ble_eq_true rfl⟩ rfl rfl (Nat.le_of_ble_eq_true rfl) ⟨by rw [hRm, hq, Nat.zero_add]; exact Nat.le_refl _, by rw [hRm, hq, Nat.zero_add]; exact Nat.le_refl _⟩ dX0_enter_41 rfl ?_
        refine g_aload_n 45 0 F dX0_enter_44 rfl rfl ?_
        refine g_dup 46 F dX0_enter_45 rfl rfl ?_
        refine cg_X0_athletes 49 F hr fl_X0_29 dX0_enter_46 rfl ?_
        refine g_iconst 50 (v := 1) F dX0_enter_49 (by decide) rfl ?_
        refine g_iadd 51 F dX0_enter_50 rfl ?_
        refine cp_X0_athletes 54 F hr fl_X0_29 dX0_enter_51 rfl ?_
        refine g_aload_n 55 0 F dX0_enter_54 rfl rfl ?_
        refine cg_X0_athletes 58 F hr fl_X0_29 dX0_enter_55 rfl ?_
        refine g_iconst 59 (v := 1) F dX0_enter_58 (by decide) rfl ?_
        refine g_isub 60 F dX0_enter_59 rfl ?_
        obtain rfl := Option.some.inj hf
        exact G.widen _ _ (Nat.le_of_eq (Nat.zero_add _)) (Nat.le_of_eq (Nat.zero_add _)) (hR sa hag1 _ _ dX0_enter_60)
      · refine g_bipush 27 (v := (-2)) F dX0_enter_25 (by decide) rfl ?_
        obtain rfl := Option.some.inj hf
        exact G.widen _ _ (Nat.zero_le _) (Nat.zero_le _) (hR sa (agr_refl h sa) _ _ dX0_enter_27)
  · refine g_iconst 8 (v := (-1)) F dX0_enter_7 (by decide) rfl ?_
    obtain rfl := Option.some.inj hf
    exact G.widen _ _ (Nat.zero_le _) (Nat.zero_le _) (hR sa (agr_refl h sa) _ _ dX0_enter_8)
def f_X4_doForm (h : Nat → Bool) (S : CS) (r : Nat) (a2 : Int32) : Option (Bool × CS × (Nat → Bool)) :=
  if a2 = 0 then ((f_X0_enter h S r (cA S 6 0)).bind fun q2 => if q2.1 < 0 then (some (false, q2.2.1, q2.2.2)) else (some (true, q2.2.1, q2.2.2))) else (if a2 = 1 then ((f_X0_change S r (cA S 6 0) (cA S 6 1)).bind fun q5 => some (true, q5.2, h)) else (if a2 = 2 then ((f_X0_goOn h S r (cA S 6 0) (cA S 6 1)).bind fun q8 => if q8.1 = (-1) then (some (false, q8.2, h)) else (some (true, q8.2, h))) else (if a2 = 3 then ((f_X0_enterSpan h S r (cA S 6 0) (cA S 6 1) (cA S 6 2) (cA S 6 3) (cA S 6 4)).bind fun q11 => if q11.1 = (-1) then (some (false, q11.2, h)) else (some (true, q11.2, h))) else (if a2 = 4 then ((bOf (cF S 14)).bind fun b14 => (f_X0_visit h S r (cA S 6 0) (cA S 6 1) b14).bind fun q16 => if q16.1 = (-1) then (some (false, q16.2, h)) else (some (true, q16.2, h))) else ((f_X0_strike h S r (cA S 6 0) (cA S 6 1)).bind fun q18 => some (q18.1, q18.2, h))))))
theorem X4_doForm_ok {h : Nat → Bool} {lk : Nat × Nat} {S : CS} {r : Nat} {a2 : Int32} {q : Bool × CS × (Nat → Bool)} (hr : r < 2) (hw : cWf h lk) (e : f_X4_doForm h S r a2 = some q) : hle h q.2.2 ∧ cWf q.2.2 lk := by
  unfold f_X4_doForm at e
  rcases op_if e with ⟨_, e⟩ | ⟨_, e⟩
  · obtain ⟨q2, z4, e⟩ := op_bd e
    rcases op_if e with ⟨_, e⟩ | ⟨_, e⟩
    · have zz := X0_enter_ok hr hw z4
      obtain rfl := Option.some.inj e
      exact zz
    · have zz := X0_enter_ok hr hw z4
      obtain rfl := Option.some.inj e
      exact zz
  · rcases op_if e with ⟨_, e⟩ | ⟨_, e⟩
    · obtain ⟨q5, z5, e⟩ := op_bd e
      obtain rfl := Option.some.inj e
      exact ⟨hle_refl h, hw⟩
    · rcases op_if e with ⟨_, e⟩ | ⟨_, e⟩
      · obtain ⟨q8, z6, e⟩ := op_bd e
        rcases op_if e with ⟨_, e⟩ | ⟨_, e⟩
        · obtain rfl := Option.some.inj e
          exact ⟨hle_refl h, hw⟩
        · obtain rfl := Option.some.inj e
          exact ⟨hle_refl h, hw⟩
      · rcases op_if e with ⟨_, e⟩ | ⟨_, e⟩
        · obtain ⟨q11, z7, e⟩ := op_bd e
          rcases op_if e with ⟨_, e⟩ | ⟨_, e⟩
          · obtain rfl := Option.some.inj e
            exact ⟨hle_refl h, hw⟩
          · obtain rfl := Option.some.inj e
            exact ⟨hle_refl h, hw⟩
        · rcases op_if e with ⟨_, e⟩ | ⟨_, e⟩
          · obtain ⟨b14, z8, e⟩ := op_bd e
            obtain ⟨q16, z9, e⟩ := op_bd e
            rcases op_if e with ⟨_, e⟩ | ⟨_, e⟩
            · obtain rfl := Option.some.inj e
              exact ⟨hle_refl h, hw⟩
            · obtain rfl := Option.some.inj e
              exact ⟨hle_refl h, hw⟩
          · obtain ⟨q18, z10, e⟩ := op_bd e
            obtain rfl := Option.some.inj e
            exact ⟨hle_refl h, hw⟩
set_option maxHeartbeats 4000000 in
set_option maxRecDepth 100000 in
theorem c_X4_doForm (l : Launch) (B : CB) (sa : Nat → Nat) (h : Nat → Bool) (lk : Nat × Nat) (hw : cWf h lk) (A : Nat → Prop) (S : CS) (r : Nat) (a2 : Int32) (hr : r < 2) (q : Bool × CS × (Nat → Bool)) (hf : f_X4_doForm h S r a2 = some q) : CAi l yX4_doForm cX4_doForm 3 (some .boolean) 4 76 B (cKf B A) A sa h lk lk S [.ref (cAf B 13), .ref (cAf B (1 + r)), .int a2] (bI q.1) q.2.1 q.2.2 := by
  refine met_az (by decide +kernel) (Nat.le_of_ble_eq_true rfl) (fun K hl hA hn hRm F hR => ?_)
  subst hl; subst hA
  have hok := cKf_ok B (kA K)
  unfold f_X4_doForm at hf
  show G K (cX B (kA K) sa h lk) 0 0 0 S [(0, .ref (cAf B 13)), (1, .ref (cAf B (1 + r))), (2, .int a2)] []
  refine g_iload_n 1 2 F dX4_doForm_0 rfl rfl ?_
  rcases op_if hf with ⟨c1, hf⟩ | ⟨c1, hf⟩
  · refine g_tab 0 36 F dX4_doForm_1 c1 (by decide) (by decide) rfl rfl ?_
    refine g_aload_n 37 1 F dX4_doForm_36 rfl rfl ?_
    refine g_aload_n 38 0 F dX4_doForm_37 rfl rfl ?_
    refine cg_X4_numbers 41 F fl_X4_11 dX4_doForm_38 rfl ?_
    refine g_iconst 42 (v := 0) F dX4_doForm_41 (by decide) rfl ?_
    refine clK_A6 43 0 F (by decide) (by decide) dX4_doForm_42 rfl ?_
    obtain ⟨q2, e3, hf⟩ := op_bd hf
    have hq : q.2.2 = q2.2.2 := by
      rcases op_if hf with ⟨_, hf⟩ | ⟨_, hf⟩
      · obtain rfl := Option.some.inj hf
        rfl
      · obtain rfl := Option.some.inj hf
        rfl
    refine g_aVi 46 (st := []) F hok (c_X0_enter (kl K) B sa h lk hw (kA K) S r (cA S 6 0) hr q2 e3) wy_X0_enter ml_X4_138 (c_rc_X0 F hr) ⟨Nat.le_of_ble_eq_true rfl, Nat.le_of_ble_eq_true rfl⟩ rfl rfl (Nat.le_of_ble_eq_true rfl) ⟨by rw [hRm, hq, Nat.zero_add]; exact Nat.le_refl _, by rw [hRm, hq, Nat.zero_add]; exact Nat.le_refl _⟩ dX4_doForm_43 rfl (fun sa hag1 => ?_)
    have hw := (X0_enter_ok hr hw e3).2
    refine g_if_lt 53 49 F dX4_doForm_46 rfl rfl hf (fun _ hf => ?_) (fun _ hf => ?_)
    · refine g_iconst 54 (v := 0) F dX4_doForm_53 (by decide) rfl ?_
      obtain rfl := Option.some.inj hf
      exact G.widen _ _ (Nat.le_of_eq (Nat.zero_add _)) (Nat.le_of_eq (Nat.zero_add _)) (hR sa hag1 _ _ dX4_doForm_54)
    · refine g_iconst 50 (v := 1) F dX4_doForm_49 (by decide) rfl ?_
      refine g_goto 54 F dX4_doForm_50 rfl ?_
      obtain rfl := Option.some.inj hf
      exact G.widen _ _ (Nat.le_of_eq (Nat.zero_add _)) (Nat.le_of_eq (Nat.zero_add _)) (hR sa hag1 _ _ dX4_doForm_54)
  · rcases op_if hf with ⟨c4, hf⟩ | ⟨c4, hf⟩
    · refine g_tab 1 55 F dX4_doForm_1 c4 (by decide) (by decide) rfl rfl ?_
      refine g_aload_n 56 1 F dX4_doForm_55 rfl rfl ?_
      refine g_aload_n 57 0 F dX4_doForm_56 rfl rfl ?_
      refine cg_X4_numbers 60 F fl_X4_11 dX4_doForm_57 rfl ?_
      refine g_iconst 61 (v := 0) F dX4_doForm_60 (by decide) rfl ?_
      refine clK_A6 62 0 F (by decide) (by decide) dX4_doForm_61 rfl ?_
      refine g_aload_n 63 0 F dX4_doForm_62 rfl rfl ?_
      refine cg_X4_numbers 66 F fl_X4_11 dX4_doForm_63 rfl ?_
      refine g_iconst 67 (v := 1) F dX4_doForm_66 (by decide) rfl ?_
      refine clK_A6 68 1 F (by decide) (by decide) dX4_doForm_67 rfl ?_
      obtain ⟨q5, e6, hf⟩ := op_bd hf
      refine g_cVi 71 (st := []) F hok (c_X0_change (kl K) B sa h lk hw (kA K) S r (cA S 6 0) (cA S 6 1) hr q5 e6) wy_X0_change ml_X4_142 (c_rc_X0 F hr) ⟨Nat.le_of_ble_eq_true rfl, Nat.le_of_ble_eq_true rfl⟩ rfl rfl (Nat.le_of_ble_eq_true rfl) ⟨Nat.zero_le _, Nat.zero_le _⟩ dX4_doForm_68 rfl ?_
      refine g_pop 72 F dX4_doForm_71 rfl rfl ?_
      refine g_iconst 73 (v := 1) F dX4_doForm_72 (by decide) rfl ?_
      obtain rfl := Option.some.inj hf
      exact G.widen _ _ (Nat.zero_le _) (Nat.zero_le _) (hR sa (agr_refl h sa) _ _ dX4_doForm_73)
    · rcases op_if hf with ⟨c7, hf⟩ | ⟨c7, hf⟩
      · refine g_tab 2 74 F dX4_doForm_1 c7 (by decide) (by decide) rfl rfl ?_
        refine g_aload_n 75 1 F dX4_doForm_74 rfl rfl ?_
        refine g_aload_n 76 0 F dX4_doForm_75 rfl rfl ?_
        refine cg_X4_numbers 79 F fl_X4_11 dX4_doForm_76 rfl ?_
        refine g_iconst 80 (v := 0) F dX4_doForm_79 (by decide) rfl ?_
        refine clK_A6 81 0 F (by decide) (by decide) dX4_doForm_80 rfl ?_
        refine g_aload_n 82 0 F dX4_doForm_81 rfl rfl ?_
        refine cg_X4_numbers 85 F fl_X4_11 dX4_doForm_82 rfl ?_
        refine g_iconst 86 (v := 1) F dX4_doForm_85 (by decide) rfl ?_
        refine clK_A6 87 1 F (by decide) (by decide) dX4_doForm_86 rfl ?_
        obtain ⟨q8, e9, hf⟩ := op_bd hf
        refine g_cVi 90 (st := []) F hok (c_X0_goOn (kl K) B sa h lk hw (kA K) S r (cA S 6 0) (cA S 6 1) hr q8 e9) wy_X0_goOn ml_X4_145 (c_rc_X0 F hr) ⟨Nat.le_of_ble_eq_true rfl, Nat.le_of_ble_eq_true rfl⟩ rfl rfl (Nat.le_of_ble_eq_true rfl) ⟨Nat.zero_le _, Nat.zero_le _⟩ dX4_doForm_87 rfl ?_
        refine g_iconst 91 (v := (-1)) F dX4_doForm_90 (by decide) rfl ?_
        refine g_icmp_eq 98 94 F dX4_doForm_91 rfl rfl hf (fun _ hf => ?_) (fun _ hf => ?_)
        · refine g_iconst 99 (v := 0) F dX4_doForm_98 (by decide) rfl ?_
          obtain rfl := Option.some.inj hf
          exact G.widen _ _ (Nat.zero_le _) (Nat.zero_le _) (hR sa (agr_refl h sa) _ _ dX4_doForm_99)
        · refine g_iconst 95 (v := 1) F dX4_doForm_94 (by decide) rfl ?_
          refine g_goto 99 F dX4_doForm_95 rfl ?_
          obtain rfl := Option.some.inj hf
          exact G.widen _ _ (Nat.zero_le _) (Nat.zero_le _) (hR sa (agr_refl h sa) _ _ dX4_doForm_99)
      · rcases op_if hf with ⟨c10, hf⟩ | ⟨c10, hf⟩
        · refine g_tab 3 100 F dX4_doForm_1 c10 (by decide) (by decide) rfl rfl ?_
          refine g_aload_n 101 1 F dX4_doForm_100 rfl rfl ?_
          refine g_aload_n 102 0 F dX4_doForm_101 rfl rfl ?_
          refine cg_X4_numbers 105 F fl_X4_11 dX4_doForm_102 rfl ?_
          refine g_iconst 106 (v := 0) F dX4_doForm_105 (by decide) rfl ?_
          refine clK_A6 107 0 F (by decide) (by decide) dX4_doForm_106 rfl ?_
          refine g_aload_n 108 0 F dX4_doForm_107 rfl rfl ?_
          refine cg_X4_numbers 111 F fl_X4_11 dX4_doForm_108 rfl ?_
          refine g_iconst 112 (v := 1) F dX4_doForm_111 (by decide) rfl ?_
          refine clK_A6 113 1 F (by decide) (by decide) dX4_doForm_112 rfl ?_
          refine g_aload_n 114 0 F dX4_doForm_113 rfl rfl ?_
          refine cg_X4_numbers 117 F fl_X4_11 dX4_doForm_114 rfl ?_
          refine g_iconst 118 (v := 2) F dX4_doForm_117 (by decide) rfl ?_
          refine clK_A6 119 2 F (by decide) (by decide) dX4_doForm_118 rfl ?_
          refine g_aload_n 120 0 F dX4_doForm_119 rfl rfl ?_
          refine cg_X4_numbers 123 F fl_X4_11 dX4_doForm_120 rfl ?_
          refine g_iconst 124 (v := 3) F dX4_doForm_123 (by decide) rfl ?_
          refine clK_A6 125 3 F (by decide) (by decide) dX4_doForm_124 rfl ?_
          refine g_aload_n 126 0 F dX4_doForm_125 rfl rfl ?_
          refine cg_X4_numbers 129 F fl_X4_11 dX4_doForm_126 rfl ?_
          refine g_iconst 130 (v := 4) F dX4_doForm_129 (by decide) rfl ?_
          refine clK_A6 131 4 F (by decide) (by decide) dX4_doForm_130 rfl ?_
          obtain ⟨q11, e12, hf⟩ := op_bd hf
          refine g_cVi 134 (st := []) F hok (c_X0_enterSpan (kl K) B sa h lk hw (kA K) S r (cA S 6 0) (cA S 6 1) (cA S 6 2) (cA S 6 3) (cA S 6 4) hr q11 e12) wy_X0_enterSpan ml_X4_149 (c_rc_X0 F hr) ⟨Nat.le_of_ble_eq_true rfl, Nat.le_of_ble_eq_true rfl⟩ rfl rfl (Nat.le_of_ble_eq_true rfl) ⟨Nat.zero_le _, Nat.zero_le _⟩ dX4_doForm_131 rfl ?_
          refine g_iconst 135 (v := (-1)) F dX4_doForm_134 (by decide) rfl ?_
          refine g_icmp_eq 142 138 F dX4_doForm_135 rfl rfl hf (fun _ hf => ?_) (fun _ hf => ?_)
          · refine g_iconst 143 (v := 0) F dX4_doForm_142 (by decide) rfl ?_
            obtain rfl := Option.some.inj hf
            exact G.widen _ _ (Nat.zero_le _) (Nat.zero_le _) (hR sa (agr_refl h sa) _ _ dX4_doForm_143)
          · refine g_iconst 139 (v := 1) F dX4_doForm_138 (by decide) rfl ?_
            refine g_goto 143 F dX4_doForm_139 rfl ?_
            obtain rfl := Option.some.inj hf
            exact G.widen _ _ (Nat.zero_le _) (Nat.zero_le _) (hR sa (agr_refl h sa) _ _ dX4_doForm_143)
        · rcases op_if hf with ⟨c13, hf⟩ | ⟨c13, hf⟩
          · refine g_tab 4 144 F dX4_doForm_1 c13 (by decide) (by decide) rfl rfl ?_
            refine g_aload_n 145 1 F dX4_doForm_144 rfl rfl ?_
            refine g_aload_n 146 0 F dX4_doForm_145 rfl rfl ?_
            refine cg_X4_numbers 149 F fl_X4_11 dX4_doForm_146 rfl ?_
            refine g_iconst 150 (v := 0) F dX4_doForm_149 (by decide) rfl ?_
            refine clK_A6 151 0 F (by decide) (by decide) dX4_doForm_150 rfl ?_
            refine g_aload_n 152 0 F dX4_doForm_151 rfl rfl ?_
            refine cg_X4_numbers 155 F fl_X4_11 dX4_doForm_152 rfl ?_
            refine g_iconst 156 (v := 1) F dX4_doForm_155 (by decide) rfl ?_
            refine clK_A6 157 1 F (by decide) (by decide) dX4_doForm_156 rfl ?_
            refine g_aload_n 158 0 F dX4_doForm_157 rfl rfl ?_
            refine cg_X4_found 161 F fl_X4_88 dX4_doForm_158 rfl ?_
            obtain ⟨b14, e15, hf⟩ := op_bd hf
            rw [bOf_eq e15]
            obtain ⟨q16, e17, hf⟩ := op_bd hf
            refine g_cVi 164 (st := []) F hok (c_X0_visit (kl K) B sa h lk hw (kA K) S r (cA S 6 0) (cA S 6 1) b14 hr q16 e17) wy_X0_visit ml_X4_153 (c_rc_X0 F hr) ⟨Nat.le_of_ble_eq_true rfl, Nat.le_of_ble_eq_true rfl⟩ rfl rfl (Nat.le_of_ble_eq_true rfl) ⟨Nat.zero_le _, Nat.zero_le _⟩ dX4_doForm_161 rfl ?_
            refine g_iconst 165 (v := (-1)) F dX4_doForm_164 (by decide) rfl ?_
            refine g_icmp_eq 172 168 F dX4_doForm_165 rfl rfl hf (fun _ hf => ?_) (fun _ hf => ?_)
            · refine g_iconst 173 (v := 0) F dX4_doForm_172 (by decide) rfl ?_
              obtain rfl := Option.some.inj hf
              exact G.widen _ _ (Nat.zero_le _) (Nat.zero_le _) (hR sa (agr_refl h sa) _ _ dX4_doForm_173)
            · refine g_iconst 169 (v := 1) F dX4_doForm_168 (by decide) rfl ?_
              refine g_goto 173 F dX4_doForm_169 rfl ?_
              obtain rfl := Option.some.inj hf
              exact G.widen _ _ (Nat.zero_le _) (Nat.zero_le _) (hR sa (agr_refl h sa) _ _ dX4_doForm_173)
          · refine g_tabD 174 F dX4_doForm_1 (by have := lv_neT c1 (by decide : (0 : Int32).toInt = 0); have := lv_neT c4 (by decide : (1 : Int32).toInt = 1); have := lv_neT c7 (by decide : (2 : Int32).toInt = 2); have := lv_neT c10 (by decide : (3 : Int32).toInt = 3); have := lv_neT c13 (by decide : (4 : Int32).toInt = 4); omega) rfl ?_
            refine g_aload_n 175 1 F dX4_doForm_174 rfl rfl ?_
            refine g_aload_n 176 0 F dX4_doForm_175 rfl rfl ?_
            refine cg_X4_numbers 179 F fl_X4_11 dX4_doForm_176 rfl ?_
            refine g_iconst 180 (v := 0) F dX4_doForm_179 (by decide) rfl ?_
            refine clK_A6 181 0 F (by decide) (by decide) dX4_doForm_180 rfl ?_
            refine g_aload_n 182 0 F dX4_doForm_181 rfl rfl ?_
            refine cg_X4_numbers 185 F fl_X4_11 dX4_doForm_182 rfl ?_
            refine g_iconst 186 (v := 1) F dX4_doForm_185 (by decide) rfl ?_
            refine clK_A6 187 1 F (by decide) (by decide) dX4_doForm_186 rfl ?_
            obtain ⟨q18, e19, hf⟩ := op_bd hf
            refine g_cVi 190 (st := []) F hok (c_X0_strike (kl K) B sa h lk hw (kA K) S r (cA S 6 0) (cA S 6 1) hr q18 e19) wy_X0_strike ml_X4_157 (c_rc_X0 F hr) ⟨Nat.le_of_ble_eq_true rfl, Nat.le_of_ble_eq_true rfl⟩ rfl rfl (Nat.le_of_ble_eq_true rfl) ⟨Nat.zero_le _, Nat.zero_le _⟩ dX4_doForm_187 rfl ?_
            obtain rfl := Option.some.inj hf
            exact G.widen _ _ (Nat.zero_le _) (Nat.zero_le _) (hR sa (agr_refl h sa) _ _ dX4_doForm_190)
def f_X4_performOne (h : Nat → Bool) (S : CS) (r : Nat) : Option (Bool × CS × (Nat → Bool)) :=
  (f_X4_formOfWord S).bind fun q1 => if q1 < 0 then (some ((f_X4_refuse S 1 (cF S 10)).1, (f_X4_refuse S 1 (cF S 10)).2, h)) else (if q1 < 6 then ((f_X4_readNumbers h S r q1).bind fun q3 => if q3.1 = true then (if q1 = 4 then ((f_X4_readOutcome q3.2).bind fun q9 => if q9.1 = true then ((f_X3_readToken q9.2).bind fun q11 => if (cF q11 9) = 3 then ((f_X4_doForm h q11 r q1).bind fun q13 => if q13.1 = true then (some (true, q13.2.1, q13.2.2)) else (if (f_X4_refuse q13.2.1 3 (cF S 10)).1 = true then (some (true, (f_X4_refuse q13.2.1 3 (cF S 10)).2, q13.2.2)) else (some (false, (f_X4_refuse q13.2.1 3 (cF S 10)).2, q13.2.2)))) else (some ((f_X4_refuse q11 1 (cF q11 10)).1, (f_X4_refuse q11 1 (cF q11 10)).2, h))) else (some (false, q9.2, h))) else ((f_X3_readToken q3.2).bind fun q5 => if (cF q5 9) = 3 then ((f_X4_doForm h q5 r q1).bind fun q7 => if q7.1 = true then (some (true, q7.2.1, q7.2.2)) else (if (f_X4_refuse q7.2.1 3 (cF S 10)).1 = true then (some (true, (f_X4_refuse q7.2.1 3 (cF S 10)).2, q7.2.2)) else (some (false, (f_X4_refuse q7.2.1 3 (cF S 10)).2, q7.2.2)))) else (some ((f_X4_refuse q5 1 (cF q5 10)).1, (f_X4_refuse q5 1 (cF q5 10)).2, h)))) else (some (false, q3.2, h))) else (some ((f_X4_refuse S 1 (cF S 10)).1, (f_X4_refuse S 1 (cF S 10)).2, h)))
theorem X4_performOne_ok {h : Nat → Bool} {lk : Nat × Nat} {S : CS} {r : Nat} {q : Bool × CS × (Nat → Bool)} (hr : r < 2) (hw : cWf h lk) (e : f_X4_performOne h S r = some q) : hle h q.2.2 ∧ cWf q.2.2 lk := by
  unfold f_X4_performOne at e
  obtain ⟨q1, z11, e⟩ := op_bd e
  rcases op_if e with ⟨_, e⟩ | ⟨_, e⟩
  · obtain rfl := Option.some.inj e
    exact ⟨hle_refl h, hw⟩
  · rcases op_if e with ⟨_, e⟩ | ⟨_, e⟩
    · obtain ⟨q3, z12, e⟩ := op_bd e
      rcases op_if e with ⟨_, e⟩ | ⟨_, e⟩
      · rcases op_if e with ⟨_, e⟩ | ⟨_, e⟩
        · obtain ⟨q9, z13, e⟩ := op_bd e
          rcases op_if e with ⟨_, e⟩ | ⟨_, e⟩
          · obtain ⟨q11, z14, e⟩ := op_bd e
            rcases op_if e with ⟨_, e⟩ | ⟨_, e⟩
            · obtain ⟨q13, z15, e⟩ := op_bd e
              rcases op_if e with ⟨_, e⟩ | ⟨_, e⟩
              · have zz := X4_doForm_ok hr hw z15
                obtain rfl := Option.some.inj e
                exact zz
              · rcases op_if e with ⟨_, e⟩ | ⟨_, e⟩
                · have zz := X4_doForm_ok hr hw z15
                  obtain rfl := Option.some.inj e
                  exact zz
                · have zz := X4_doForm_ok hr hw z15
                  obtain rfl := Option.some.inj e
                  exact zz
            · obtain rfl := Option.some.inj e
              exact ⟨hle_refl h, hw⟩
          · obtain rfl := Option.some.inj e
            exact ⟨hle_refl h, hw⟩
        · obtain ⟨q5, z16, e⟩ := op_bd e
          rcases op_if e with ⟨_, e⟩ | ⟨_, e⟩
          · obtain ⟨q7, z17, e⟩ := op_bd e
            rcases op_if e with ⟨_, e⟩ | ⟨_, e⟩
            · have zz := X4_doForm_ok hr hw z17
              obtain rfl := Option.some.inj e
              exact zz
            · rcases op_if e with ⟨_, e⟩ | ⟨_, e⟩
              · have zz := X4_doForm_ok hr hw z17
                obtain rfl := Option.some.inj e
                exact zz
              · have zz := X4_doForm_ok hr hw z17
                obtain rfl := Option.some.inj e
                exact zz
          · obtain rfl := Option.some.inj e
            exact ⟨hle_refl h, hw⟩
      · obtain rfl := Option.some.inj e
        exact ⟨hle_refl h, hw⟩
    · obtain rfl := Option.some.inj e
      exact ⟨hle_refl h, hw⟩
set_option maxHeartbeats 4000000 in
set_option maxRecDepth 100000 in
theorem c_X4_performOne (l : Launch) (B : CB) (sa : Nat → Nat) (h : Nat → Bool) (lk : Nat × Nat) (hw : cWf h lk) (A : Nat → Prop) (S : CS) (r : Nat) (hr : r < 2) (q : Bool × CS × (Nat → Bool)) (hf : f_X4_performOne h S r = some q) : CAi l yX4_performOne cX4_performOne 4 (some .boolean) 6 127 B (cKf B A) A sa h lk lk S [.ref (cAf B 13), .ref (cAf B (1 + r))] (bI q.1) q.2.1 q.2.2 := by
  refine met_az (by decide +kernel) (Nat.le_of_ble_eq_true rfl) (fun K hl hA hn hRm F hR => ?_)
  subst hl; subst hA
  have hok := cKf_ok B (kA K)
  unfold f_X4_performOne at hf
  show G K (cX B (kA K) sa h lk) 0 0 0 S [(0, .ref (cAf B 13)), (1, .ref (cAf B (1 + r)))] []
  refine g_aload_n 1 0 F dX4_performOne_0 rfl rfl ?_
  refine cg_X4_tape 4 F fl_X4_15 dX4_performOne_1 rfl ?_
  refine cg_X3_first 7 F fl_X4_38 dX4_performOne_4 rfl ?_
  refine g_istore_n 8 [(2, .int (cF S 10)), (0, .ref (cAf B 13)), (1, .ref (cAf B (1 + r)))] F dX4_performOne_7 (lt_kn hn (by decide)) rfl rfl ?_
  refine g_aload_n 9 1 F dX4_performOne_8 rfl rfl ?_
  obtain ⟨q1, e2, hf⟩ := op_bd hf
  refine g_cVi 12 (st := []) F hok (c_X4_formOfWord (kl K) B sa h lk hw (kA K) S q1 e2) wy_X4_formOfWord ml_X4_41 (c_rc_X4 F) ⟨Nat.le_of_ble_eq_true rfl, Nat.le_of_ble_eq_true rfl⟩ rfl rfl (Nat.le_of_ble_eq_true rfl) ⟨Nat.zero_le _, Nat.zero_le _⟩ dX4_performOne_9 rfl ?_
  refine g_istore_n 13 [(3, .int q1), (2, .int (cF S 10)), (0, .ref (cAf B 13)), (1, .ref (cAf B (1 + r)))] F dX4_performOne_12 (lt_kn hn (by decide)) rfl rfl ?_
  refine g_iload_n 14 0 F dX4_performOne_13 rfl rfl ?_
  refine g_if_lt 23 17 F dX4_performOne_14 rfl rfl hf (fun _ hf => ?_) (fun _ hf => ?_)
  · refine g_aload_n 24 2 F dX4_performOne_23 rfl rfl ?_
    refine g_iconst 25 (v := 1) F dX4_performOne_24 (by decide) rfl ?_
    refine g_iload_n 26 1 F dX4_performOne_25 rfl rfl ?_
    refine g_cVi 29 (st := []) F hok (c_X4_refuse (kl K) B sa h lk hw (kA K) S 1 (cF S 10) _ rfl) wy_X4_refuse ml_X4_45 (c_rc_X4 F) ⟨Nat.le_of_ble_eq_true rfl, Nat.le_of_ble_eq_true rfl⟩ rfl rfl (Nat.le_of_ble_eq_true rfl) ⟨Nat.zero_le _, Nat.zero_le _⟩ dX4_performOne_26 rfl ?_
    obtain rfl := Option.some.inj hf
    exact G.widen _ _ (Nat.zero_le _) (Nat.zero_le _) (hR sa (agr_refl h sa) _ _ dX4_performOne_29)
  · refine g_iload_n 18 0 F dX4_performOne_17 rfl rfl ?_
    refine g_bipush 20 (v := 6) F dX4_performOne_18 (by decide) rfl ?_
    refine g_icmp_lt 30 23 F dX4_performOne_20 rfl rfl hf (fun _ hf => ?_) (fun _ hf => ?_)
    · refine g_aload_n 31 2 F dX4_performOne_30 rfl rfl ?_
      refine g_aload_n 32 3 F dX4_performOne_31 rfl rfl ?_
      refine g_iload_n 33 0 F dX4_performOne_32 rfl rfl ?_
      obtain ⟨q3, e4, hf⟩ := op_bd hf
      refine g_cVi 36 (st := []) F hok (c_X4_readNumbers (kl K) B sa h lk hw (kA K) S r q1 hr q3 e4) wy_X4_readNumbers ml_X4_49 (c_rc_X4 F) ⟨Nat.le_of_ble_eq_true rfl, Nat.le_of_ble_eq_true rfl⟩ rfl rfl (Nat.le_of_ble_eq_true rfl) ⟨Nat.zero_le _, Nat.zero_le _⟩ dX4_performOne_33 rfl ?_
      refine g_ifne_b 41 39 F dX4_performOne_36 rfl rfl hf (fun _ hf => ?_) (fun _ hf => ?_)
      · refine g_iload_n 42 0 F dX4_performOne_41 rfl rfl ?_
        refine g_iconst 43 (v := 4) F dX4_performOne_42 (by decide) rfl ?_
        refine g_icmp_ne 55 46 F dX4_performOne_43 rfl rfl hf (fun _ hf => ?_) (fun _ hf => ?_)
        · refine g_aload_n 56 2 F dX4_performOne_55 rfl rfl ?_
          refine cg_X4_tape 59 F fl_X4_15 dX4_performOne_56 rfl ?_
          obtain ⟨q5, e6, hf⟩ := op_bd hf
          refine g_cVv 62 (st := []) F hok (c_X3_readToken (kl K) B sa h lk hw (kA K) q3.2 q5 e6) wy_X3_readToken ml_X4_28 (c_rc_X3 F) ⟨Nat.le_of_ble_eq_true rfl, Nat.le_of_ble_eq_true rfl⟩ rfl rfl (Nat.le_of_ble_eq_true rfl) ⟨Nat.zero_le _, Nat.zero_le _⟩ dX4_performOne_59 rfl ?_
          refine g_aload_n 63 2 F dX4_performOne_62 rfl rfl ?_
          refine cg_X4_tape 66 F fl_X4_15 dX4_performOne_63 rfl ?_
          refine cg_X3_token 69 F fl_X4_31 dX4_performOne_66 rfl ?_
          refine g_iconst 70 (v := 3) F dX4_performOne_69 (by decide) rfl ?_
          refine g_icmp_eq 86 73 F dX4_performOne_70 rfl rfl hf (fun _ hf => ?_) (fun _ hf => ?_)
          · refine g_aload_n 87 2 F dX4_performOne_86 rfl rfl ?_
            refine g_aload_n 88 3 F dX4_performOne_87 rfl rfl ?_
            refine g_iload_n 89 0 F dX4_performOne_88 rfl rfl ?_
            obtain ⟨q7, e8, hf⟩ := op_bd hf
            have hq : q.2.2 = q7.2.2 := by
              rcases op_if hf with ⟨_, hf⟩ | ⟨_, hf⟩
              · obtain rfl := Option.some.inj hf
                rfl
              · rcases op_if hf with ⟨_, hf⟩ | ⟨_, hf⟩
                · obtain rfl := Option.some.inj hf
                  rfl
                · obtain rfl := Option.some.inj hf
                  rfl
            refine g_aVi 92 (st := []) F hok (c_X4_doForm (kl K) B sa h lk hw (kA K) q5 r q1 hr q7 e8) wy_X4_doForm ml_X4_57 (c_rc_X4 F) ⟨Nat.le_of_ble_eq_true rfl, Nat.le_of_ble_eq_true rfl⟩ rfl rfl (Nat.le_of_ble_eq_true rfl) ⟨by rw [hRm, hq, Nat.zero_add]; exact Nat.le_refl _, by rw [hRm, hq, Nat.zero_add]; exact Nat.le_refl _⟩ dX4_performOne_89 rfl (fun sa hag1 => ?_)
            have hw := (X4_doForm_ok hr hw e8).2
            refine g_ifne_b 104 95 F dX4_performOne_92 rfl rfl hf (fun _ hf => ?_) (fun _ hf => ?_)
            · refine g_iconst 105 (v := 1) F dX4_performOne_104 (by decide) rfl ?_
              refine g_goto 109 F dX4_performOne_105 rfl ?_
              obtain rfl := Option.some.inj hf
              exact G.widen _ _ (Nat.le_of_eq (Nat.zero_add _)) (Nat.le_of_eq (Nat.zero_add _)) (hR sa hag1 _ _ dX4_performOne_109)
            · refine g_aload_n 96 2 F dX4_performOne_95 rfl rfl ?_
              refine g_iconst 97 (v := 3) F dX4_performOne_96 (by decide) rfl ?_
              refine g_iload_n 98 1 F dX4_performOne_97 rfl rfl ?_
              refine g_cVi 101 (st := []) F hok (c_X4_refuse (kl K) B sa q7.2.2 lk hw (kA K) q7.2.1 3 (cF S 10) _ rfl) wy_X4_refuse ml_X4_45 (c_rc_X4 F) ⟨Nat.le_of_ble_eq_true rfl, Nat.le_of_ble_eq_true rfl⟩ rfl rfl (Nat.le_of_ble_eq_true rfl) ⟨by rw [hRm, hq, Nat.zero_add]; exact Nat.le_refl _, by rw [hRm, hq, Nat.zero_add]; exact Nat.le_refl _⟩ dX4_performOne_98 rfl ?_
              refine g_ifeq_b 108 104 F dX4_performOne_101 rfl rfl hf (fun _ hf => ?_) (fun _ hf => ?_)
              · refine g_iconst 109 (v := 0) F dX4_performOne_108 (by decide) rfl ?_
                obtain rfl := Option.some.inj hf
                exact G.widen _ _ (Nat.le_of_eq (Nat.zero_add _)) (Nat.le_of_eq (Nat.zero_add _)) (hR sa hag1 _ _ dX4_performOne_109)
              · refine g_iconst 105 (v := 1) F dX4_performOne_104 (by decide) rfl ?_
                refine g_goto 109 F dX4_performOne_105 rfl ?_
                obtain rfl := Option.some.inj hf
                exact G.widen _ _ (Nat.le_of_eq (Nat.zero_add _)) (Nat.le_of_eq (Nat.zero_add _)) (hR sa hag1 _ _ dX4_performOne_109)
          · refine g_aload_n 74 2 F dX4_performOne_73 rfl rfl ?_
            refine g_iconst 75 (v := 1) F dX4_performOne_74 (by decide) rfl ?_
            refine g_aload_n 76 2 F dX4_performOne_75 rfl rfl ?_
            refine cg_X4_tape 79 F fl_X4_15 dX4_performOne_76 rfl ?_
            refine cg_X3_first 82 F fl_X4_38 dX4_performOne_79 rfl ?_
            refine g_cVi 85 (st := []) F hok (c_X4_refuse (kl K) B sa h lk hw (kA K) q5 1 (cF q5 10) _ rfl) wy_X4_refuse ml_X4_45 (c_rc_X4 F) ⟨Nat.le_of_ble_eq_true rfl, Nat.le_of_ble_eq_true rfl⟩ rfl rfl (Nat.le_of_ble_eq_true rfl) ⟨Nat.zero_le _, Nat.zero_le _⟩ dX4_performOne_82 rfl ?_
            obtain rfl := Option.some.inj hf
            exact G.widen _ _ (Nat.zero_le _) (Nat.zero_le _) (hR sa (agr_refl h sa) _ _ dX4_performOne_85)
        · refine g_aload_n 47 2 F dX4_performOne_46 rfl rfl ?_
          obtain ⟨q9, e10, hf⟩ := op_bd hf
          refine g_cVi 50 (st := []) F hok (c_X4_readOutcome (kl K) B sa h lk hw (kA K) q3.2 q9 e10) wy_X4_readOutcome ml_X4_53 (c_rc_X4 F) ⟨Nat.le_of_ble_eq_true rfl, Nat.le_of_ble_eq_true rfl⟩ rfl rfl (Nat.le_of_ble_eq_true rfl) ⟨Nat.zero_le _, Nat.zero_le _⟩ dX4_performOne_47 rfl ?_
          refine g_ifne_b 55 53 F dX4_performOne_50 rfl rfl hf (fun _ hf => ?_) (fun _ hf => ?_)
          · refine g_aload_n 56 2 F dX4_performOne_55 rfl rfl ?_
            refine cg_X4_tape 59 F fl_X4_15 dX4_performOne_56 rfl ?_
            obtain ⟨q11, e12, hf⟩ := op_bd hf
            refine g_cVv 62 (st := []) F hok (c_X3_readToken (kl K) B sa h lk hw (kA K) q9.2 q11 e12) wy_X3_readToken ml_X4_28 (c_rc_X3 F) ⟨Nat.le_of_ble_eq_true rfl, Nat.le_of_ble_eq_true rfl⟩ rfl rfl (Nat.le_of_ble_eq_true rfl) ⟨Nat.zero_le _, Nat.zero_le _⟩ dX4_performOne_59 rfl ?_
            refine g_aload_n 63 2 F dX4_performOne_62 rfl rfl ?_
            refine cg_X4_tape 66 F fl_X4_15 dX4_performOne_63 rfl ?_
            refine cg_X3_token 69 F fl_X4_31 dX4_performOne_66 rfl ?_
            refine g_iconst 70 (v := 3) F dX4_performOne_69 (by decide) rfl ?_
            refine g_icmp_eq 86 73 F dX4_performOne_70 rfl rfl hf (fun _ hf => ?_) (fun _ hf => ?_)
            · refine g_aload_n 87 2 F dX4_performOne_86 rfl rfl ?_
              refine g_aload_n 88 3 F dX4_performOne_87 rfl rfl ?_
              refine g_iload_n 89 0 F dX4_performOne_88 rfl rfl ?_
              obtain ⟨q13, e14, hf⟩ := op_bd hf
              have hq : q.2.2 = q13.2.2 := by
                rcases op_if hf with ⟨_, hf⟩ | ⟨_, hf⟩
                · obtain rfl := Option.some.inj hf
                  rfl
                · rcases op_if hf with ⟨_, hf⟩ | ⟨_, hf⟩
                  · obtain rfl := Option.some.inj hf
                    rfl
                  · obtain rfl := Option.some.inj hf
                    rfl
              refine g_aVi 92 (st := []) F hok (c_X4_doForm (kl K) B sa h lk hw (kA K) q11 r q1 hr q13 e14) wy_X4_doForm ml_X4_57 (c_rc_X4 F) ⟨Nat.le_of_ble_eq_true rfl, Nat.le_of_ble_eq_true rfl⟩ rfl rfl (Nat.le_of_ble_eq_true rfl) ⟨by rw [hRm, hq, Nat.zero_add]; exact Nat.le_refl _, by rw [hRm, hq, Nat.zero_add]; exact Nat.le_refl _⟩ dX4_performOne_89 rfl (fun sa hag1 => ?_)
              have hw := (X4_doForm_ok hr hw e14).2
              refine g_ifne_b 104 95 F dX4_performOne_92 rfl rfl hf (fun _ hf => ?_) (fun _ hf => ?_)
              · refine g_iconst 105 (v := 1) F dX4_performOne_104 (by decide) rfl ?_
                refine g_goto 109 F dX4_performOne_105 rfl ?_
                obtain rfl := Option.some.inj hf
                exact G.widen _ _ (Nat.le_of_eq (Nat.zero_add _)) (Nat.le_of_eq (Nat.zero_add _)) (hR sa hag1 _ _ dX4_performOne_109)
              · refine g_aload_n 96 2 F dX4_performOne_95 rfl rfl ?_
                refine g_iconst 97 (v := 3) F dX4_performOne_96 (by decide) rfl ?_
                refine g_iload_n 98 1 F dX4_performOne_97 rfl rfl ?_
                refine g_cVi 101 (st := []) F hok (c_X4_refuse (kl K) B sa q13.2.2 lk hw (kA K) q13.2.1 3 (cF S 10) _ rfl) wy_X4_refuse ml_X4_45 (c_rc_X4 F) ⟨Nat.le_of_ble_eq_true rfl, Nat.le_of_ble_eq_true rfl⟩ rfl rfl (Nat.le_of_ble_eq_true rfl) ⟨by rw [hRm, hq, Nat.zero_add]; exact Nat.le_refl _, by rw [hRm, hq, Nat.zero_add]; exact Nat.le_refl _⟩ dX4_performOne_98 rfl ?_
                refine g_ifeq_b 108 104 F dX4_performOne_101 rfl rfl hf (fun _ hf => ?_) (fun _ hf => ?_)
                · refine g_iconst 109 (v := 0) F dX4_performOne_108 (by decide) rfl ?_
                  obtain rfl := Option.some.inj hf
                  exact G.widen _ _ (Nat.le_of_eq (Nat.zero_add _)) (Nat.le_of_eq (Nat.zero_add _)) (hR sa hag1 _ _ dX4_performOne_109)
                · refine g_iconst 105 (v := 1) F dX4_performOne_104 (by decide) rfl ?_
                  refine g_goto 109 F dX4_performOne_105 rfl ?_
                  obtain rfl := Option.some.inj hf
                  exact G.widen _ _ (Nat.le_of_eq (Nat.zero_add _)) (Nat.le_of_eq (Nat.zero_add _)) (hR sa hag1 _ _ dX4_performOne_109)
            · refine g_aload_n 74 2 F dX4_performOne_73 rfl rfl ?_
              refine g_iconst 75 (v := 1) F dX4_performOne_74 (by decide) rfl ?_
              refine g_aload_n 76 2 F dX4_performOne_75 rfl rfl ?_
              refine cg_X4_tape 79 F fl_X4_15 dX4_performOne_76 rfl ?_
              refine cg_X3_first 82 F fl_X4_38 dX4_performOne_79 rfl ?_
              refine g_cVi 85 (st := []) F hok (c_X4_refuse (kl K) B sa h lk hw (kA K) q11 1 (cF q11 10) _ rfl) wy_X4_refuse ml_X4_45 (c_rc_X4 F) ⟨Nat.le_of_ble_eq_true rfl, Nat.le_of_ble_eq_true rfl⟩ rfl rfl (Nat.le_of_ble_eq_true rfl) ⟨Nat.zero_le _, Nat.zero_le _⟩ dX4_performOne_82 rfl ?_
              obtain rfl := Option.some.inj hf
              exact G.widen _ _ (Nat.zero_le _) (Nat.zero_le _) (hR sa (agr_refl h sa) _ _ dX4_performOne_85)
          · refine g_iconst 54 (v := 0) F dX4_performOne_53 (by decide) rfl ?_
            obtain rfl := Option.some.inj hf
            exact G.widen _ _ (Nat.zero_le _) (Nat.zero_le _) (hR sa (agr_refl h sa) _ _ dX4_performOne_54)
      · refine g_iconst 40 (v := 0) F dX4_performOne_39 (by decide) rfl ?_
        obtain rfl := Option.some.inj hf
        exact G.widen _ _ (Nat.zero_le _) (Nat.zero_le _) (hR sa (agr_refl h sa) _ _ dX4_performOne_40)
    · refine g_aload_n 24 2 F dX4_performOne_23 rfl rfl ?_
      refine g_iconst 25 (v := 1) F dX4_performOne_24 (by decide) rfl ?_
      refine g_iload_n 26 1 F dX4_performOne_25 rfl rfl ?_
      refine g_cVi 29 (st := []) F hok (c_X4_refuse (kl K) B sa h lk hw (kA K) S 1 (cF S 10) _ rfl) wy_X4_refuse ml_X4_45 (c_rc_X4 F) ⟨Nat.le_of_ble_eq_true rfl, Nat.le_of_ble_eq_true rfl⟩ rfl rfl (Nat.le_of_ble_eq_true rfl) ⟨Nat.zero_le _, Nat.zero_le _⟩ dX4_performOne_26 rfl ?_
      obtain rfl := Option.some.inj hf
      exact G.widen _ _ (Nat.zero_le _) (Nat.zero_le _) (hR sa (agr_refl h sa) _ _ dX4_performOne_29)
def f_X5_athlete (h : Nat → Bool) (lk : Nat × Nat) (S : CS) (a1 : Int32) : Option (Int32 × CS × (Nat → Bool)) :=
  (f_X0_enter h S lk.1 a1).bind fun q1 => some (q1.1, q1.2.1, q1.2.2)
theorem X5_athlete_ok {h : Nat → Bool} {lk : Nat × Nat} {S : CS} {a1 : Int32} {q : Int32 × CS × (Nat → Bool)} (hw : cWf h lk) (e : f_X5_athlete h lk S a1 = some q) : hle h q.2.2 ∧ cWf q.2.2 lk := by
  unfold f_X5_athlete at e
  obtain ⟨q1, z18, e⟩ := op_bd e
  have zz := X0_enter_ok hw.1 hw z18
  obtain rfl := Option.some.inj e
  exact zz
set_option maxHeartbeats 4000000 in
set_option maxRecDepth 100000 in
theorem c_X5_athlete (l : Launch) (B : CB) (sa : Nat → Nat) (h : Nat → Bool) (lk : Nat × Nat) (hw : cWf h lk) (A : Nat → Prop) (S : CS) (a1 : Int32) (q : Int32 × CS × (Nat → Bool)) (hf : f_X5_athlete h lk S a1 = some q) : CAi l yX5_athlete cX5_athlete 2 (some .int) 4 76 B (cKf B A) A sa h lk lk S [.ref (cAf B 0), .int a1] q.1 q.2.1 q.2.2 := by
  refine met_ai (by decide +kernel) (Nat.le_of_ble_eq_true rfl) (fun K hl hA hn hRm F hR => ?_)
  subst hl; subst hA
  have hok := cKf_ok B (kA K)
  unfold f_X5_athlete at hf
  show G K (cX B (kA K) sa h lk) 0 0 0 S [(0, .ref (cAf B 0)), (1, .int a1)] []
  refine g_aload_n 1 0 F dX5_athlete_0 rfl rfl ?_
  refine cg_X5_live 4 F fl_X5_10 dX5_athlete_1 rfl ?_
  refine g_iload_n 5 1 F dX5_athlete_4 rfl rfl ?_
  obtain ⟨q1, e2, hf⟩ := op_bd hf
  have hq : q.2.2 = q1.2.2 := by
    obtain rfl := Option.some.inj hf
    rfl
  refine g_aVi 8 (st := []) F hok (c_X0_enter (kl K) B sa h lk hw (kA K) S lk.1 a1 hw.1 q1 e2) wy_X0_enter ml_X5_72 (c_rc_X0 F hw.1) ⟨Nat.le_of_ble_eq_true rfl, Nat.le_of_ble_eq_true rfl⟩ rfl rfl (Nat.le_of_ble_eq_true rfl) ⟨by rw [hRm, hq, Nat.zero_add]; exact Nat.le_refl _, by rw [hRm, hq, Nat.zero_add]; exact Nat.le_refl _⟩ dX5_athlete_5 rfl (fun sa hag1 => ?_)
  have hw := (X0_enter_ok hw.1 hw e2).2
  obtain rfl := Option.some.inj hf
  exact G.widen _ _ (Nat.le_of_eq (Nat.zero_add _)) (Nat.le_of_eq (Nat.zero_add _)) (hR sa hag1 _ _ dX5_athlete_8)
