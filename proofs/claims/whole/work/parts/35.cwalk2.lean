set_option maxHeartbeats 4000000 in
set_option maxRecDepth 100000 in
theorem w_J0_coder_7d493 (B : CB) (sa : Nat → Nat) (h : Nat → Bool) (lk : Nat × Nat) (hw : cWf h lk) (K : Ctx) (F : Fx K cJ0_coder_7d493 RJ0 (cKf B (kA K)) 0 0) (hn : kn K = 1) (S : CS) (i : Nat) (hi : i < 10) (q : Int32) (hf : f_J0_coder_7d493 i = q) (hR : ∀ (pc : Nat) (lv : List (Nat × Value)), decode cJ0_coder_7d493 pc = .ok (.ireturn, 1) → G K (cX B (kA K) sa h lk) 0 0 pc S lv [.int q]) : G K (cX B (kA K) sa h lk) 0 0 0 S [(0, .ref (cK B i))] [] := by
  have hok := cKf_ok B (kA K)
  unfold f_J0_coder_7d493 at hf
  refine c_gets 3 F F.2.2.2.2.2.1.2.2.2.1 fl_J0_38 dJ0_coder_7d493_0 rfl ?_
  refine g_if_eq 13 6 F dJ0_coder_7d493_3 rfl rfl hf (fun _ hf => ?_) (fun _ hf => ?_)
  · refine g_iconst 14 (v := 1) F dJ0_coder_7d493_13 (by decide) rfl ?_
    subst hf
    exact hR _ _ dJ0_coder_7d493_14
  · refine g_aload_n 7 0 F dJ0_coder_7d493_6 rfl rfl ?_
    refine c_kget 10 (v := .int 0) F (F.2.2.2.2.2.1.2.2.2.2.2.1.1 i hi).2.1 fl_J0_15 dJ0_coder_7d493_7 rfl ?_
    refine g_goto 14 F dJ0_coder_7d493_10 rfl ?_
    subst hf
    exact hR _ _ dJ0_coder_7d493_14
theorem c_J0_coder_7d493 (l : Launch) (B : CB) (sa : Nat → Nat) (h : Nat → Bool) (lk : Nat × Nat) (hw : cWf h lk) (A : Nat → Prop) (S : CS) (i : Nat) (hi : i < 10) (q : Int32) (hf : f_J0_coder_7d493 i = q) (hnar : narrow .byte (.int q) = .int q) : Ci l yJ0_coder_7d493 cJ0_coder_7d493 1 (some .byte) 0 0 (cX B A sa h lk) (cKf B A) A S [.ref (cK B i)] q S := by
  refine met_ty hnar (by decide +kernel) (Nat.le_of_ble_eq_true rfl) (fun K hl hA hn F hR => ?_)
  subst hl; subst hA
  exact w_J0_coder_7d493 B sa h lk hw K F hn S i hi q hf hR
set_option maxHeartbeats 4000000 in
set_option maxRecDepth 100000 in
theorem w_J0_length_8abf5 (B : CB) (sa : Nat → Nat) (h : Nat → Bool) (lk : Nat × Nat) (hw : cWf h lk) (K : Ctx) (F : Fx K cJ0_length_8abf5 RJ0 (cKf B (kA K)) 1 20) (hn : kn K = 1) (S : CS) (i : Nat) (hi : i < 10) (q : Int32) (hf : f_J0_length_8abf5 i = q) (hR : ∀ (pc : Nat) (lv : List (Nat × Value)), decode cJ0_length_8abf5 pc = .ok (.ireturn, 1) → G K (cX B (kA K) sa h lk) 0 0 pc S lv [.int q]) : G K (cX B (kA K) sa h lk) 0 0 0 S [(0, .ref (cK B i))] [] := by
  have hok := cKf_ok B (kA K)
  unfold f_J0_length_8abf5 at hf
  refine g_aload_n 1 0 F dJ0_length_8abf5_0 rfl rfl ?_
  refine c_kget 4 (v := .ref (cV B i)) F (F.2.2.2.2.2.1.2.2.2.2.2.1.1 i hi).2.2.1 fl_J0_9 dJ0_length_8abf5_1 rfl ?_
  refine c_tlen 5 F (F.2.2.2.2.2.1.2.2.2.2.2.1.1 i hi).2.2.2 dJ0_length_8abf5_4 rfl ?_
  refine g_aload_n 6 0 F dJ0_length_8abf5_5 rfl rfl ?_
  refine g_cVi 9 (st := [.int (Int32.ofNat (cLen.getD i 0))]) F hok (c_J0_coder_7d493 (kl K) B sa h lk hw (kA K) S i hi _ rfl (by unfold f_J0_coder_7d493; decide +kernel)) wy_J0_coder_7d493 ml_J0_335 (c_rc_S F hi) ⟨Nat.le_of_ble_eq_true rfl, Nat.le_of_ble_eq_true rfl⟩ rfl rfl (Nat.le_of_ble_eq_true rfl) ⟨Nat.zero_le _, Nat.zero_le _⟩ dJ0_length_8abf5_6 rfl ?_
  refine g_ishr 10 F dJ0_length_8abf5_9 rfl ?_
  subst hf
  exact hR _ _ dJ0_length_8abf5_10
theorem c_J0_length_8abf5 (l : Launch) (B : CB) (sa : Nat → Nat) (h : Nat → Bool) (lk : Nat × Nat) (hw : cWf h lk) (A : Nat → Prop) (S : CS) (i : Nat) (hi : i < 10) (q : Int32) (hf : f_J0_length_8abf5 i = q) : Ci l yJ0_length_8abf5 cJ0_length_8abf5 1 (some .int) 1 20 (cX B A sa h lk) (cKf B A) A S [.ref (cK B i)] q S := by
  refine met_i (by decide +kernel) (Nat.le_of_ble_eq_true rfl) (fun K hl hA hn F hR => ?_)
  subst hl; subst hA
  exact w_J0_length_8abf5 B sa h lk hw K F hn S i hi q hf hR
set_option maxHeartbeats 4000000 in
set_option maxRecDepth 100000 in
theorem w_J0_isLatin1_aae02 (B : CB) (sa : Nat → Nat) (h : Nat → Bool) (lk : Nat × Nat) (hw : cWf h lk) (K : Ctx) (F : Fx K cJ0_isLatin1_aae02 RJ0 (cKf B (kA K)) 0 0) (hn : kn K = 1) (S : CS) (i : Nat) (hi : i < 10) (q : Bool) (hf : f_J0_isLatin1_aae02 i = q) (hR : ∀ (pc : Nat) (lv : List (Nat × Value)), decode cJ0_isLatin1_aae02 pc = .ok (.ireturn, 1) → G K (cX B (kA K) sa h lk) 0 0 pc S lv [.int (bI q)]) : G K (cX B (kA K) sa h lk) 0 0 0 S [(0, .ref (cK B i))] [] := by
  have hok := cKf_ok B (kA K)
  unfold f_J0_isLatin1_aae02 at hf
  refine c_gets 3 F F.2.2.2.2.2.1.2.2.2.1 fl_J0_38 dJ0_isLatin1_aae02_0 rfl ?_
  refine g_if_eq 17 6 F dJ0_isLatin1_aae02_3 rfl rfl hf (fun _ hf => ?_) (fun _ hf => ?_)
  · refine g_iconst 18 (v := 0) F dJ0_isLatin1_aae02_17 (by decide) rfl ?_
    subst hf
    exact hR _ _ dJ0_isLatin1_aae02_18
  · refine g_aload_n 7 0 F dJ0_isLatin1_aae02_6 rfl rfl ?_
    refine c_kget 10 (v := .int 0) F (F.2.2.2.2.2.1.2.2.2.2.2.1.1 i hi).2.1 fl_J0_15 dJ0_isLatin1_aae02_7 rfl ?_
    refine g_if_ne 17 13 F dJ0_isLatin1_aae02_10 rfl rfl hf (fun _ hf => ?_) (fun _ hf => ?_)
    · refine g_iconst 18 (v := 0) F dJ0_isLatin1_aae02_17 (by decide) rfl ?_
      subst hf
      exact hR _ _ dJ0_isLatin1_aae02_18
    · refine g_iconst 14 (v := 1) F dJ0_isLatin1_aae02_13 (by decide) rfl ?_
      refine g_goto 18 F dJ0_isLatin1_aae02_14 rfl ?_
      subst hf
      exact hR _ _ dJ0_isLatin1_aae02_18
theorem c_J0_isLatin1_aae02 (l : Launch) (B : CB) (sa : Nat → Nat) (h : Nat → Bool) (lk : Nat × Nat) (hw : cWf h lk) (A : Nat → Prop) (S : CS) (i : Nat) (hi : i < 10) (q : Bool) (hf : f_J0_isLatin1_aae02 i = q) : Ci l yJ0_isLatin1_aae02 cJ0_isLatin1_aae02 1 (some .boolean) 0 0 (cX B A sa h lk) (cKf B A) A S [.ref (cK B i)] (bI q) S := by
  refine met_z (by decide +kernel) (Nat.le_of_ble_eq_true rfl) (fun K hl hA hn F hR => ?_)
  subst hl; subst hA
  exact w_J0_isLatin1_aae02 B sa h lk hw K F hn S i hi q hf hR
set_option maxRecDepth 100000 in
theorem c_J3_checkIndex_8e157 (l : Launch) (B : CB) (sa : Nat → Nat) (h : Nat → Bool) (lk : Nat × Nat) (A : Nat → Prop) (S : CS) (i n : Int32) (v : Value) (hv : v.category = 1) (q : Int32) (hf : f_J3_checkIndex_8e157 i n = some q) : Ci l yJ3_checkIndex_8e157 cJ3_checkIndex_8e157 3 (some .int) 0 0 (cX B A sa h lk) (cKf B A) A S [.int i, .int n, v] q S := by
  refine met_i (by decide +kernel) (Nat.le_of_eq (by unfold lg_sl; simp [hv, show (Value.int i).category = 1 from rfl, show (Value.int n).category = 1 from rfl])) (fun K hl hA hn F hR => ?_)
  have e : lv_args 0 [Value.int i, Value.int n, v] = [(0, .int i), (1, .int n), (2, v)] := rfl
  rw [e]
  unfold f_J3_checkIndex_8e157 at hf
  rcases op_if hf with ⟨_, hf⟩ | ⟨c1, hf⟩
  · cases hf
  rcases op_if hf with ⟨c2, hf⟩ | ⟨_, hf⟩
  · obtain rfl := Option.some.inj hf
    refine g_iload_n 1 0 F dJ3_checkIndex_8e157_0 rfl rfl ?_
    refine g_if_lt 9 4 (a := 0) (b := 1) F dJ3_checkIndex_8e157_1 rfl rfl (if_neg c1) (fun c _ => absurd c c1) (fun _ _ => ?_)
    refine g_iload_n 5 0 F dJ3_checkIndex_8e157_4 rfl rfl ?_
    refine g_iload_n 6 1 F dJ3_checkIndex_8e157_5 rfl rfl ?_
    refine g_icmp_lt 16 9 (a := 0) (b := 1) F dJ3_checkIndex_8e157_6 rfl rfl (if_pos c2) (fun _ _ => ?_) (fun c _ => absurd c2 c)
    refine g_iload_n 17 0 F dJ3_checkIndex_8e157_16 rfl rfl ?_
    exact hR _ _ dJ3_checkIndex_8e157_17
  · cases hf
set_option maxRecDepth 100000 in
theorem c_J0_checkIndex_df160 (l : Launch) (B : CB) (sa : Nat → Nat) (h : Nat → Bool) (lk : Nat × Nat) (hw : cWf h lk) (A : Nat → Prop) (S : CS) (i n : Int32) (q : Unit) (hf : f_J0_checkIndex_df160 i n = some q) : Cv l yJ0_checkIndex_df160 cJ0_checkIndex_df160 2 none 1 22 (cX B A sa h lk) (cKf B A) A S [.int i, .int n] S := by
  refine met_v (by decide +kernel) (Nat.le_of_ble_eq_true rfl) (fun K hl hA hn F hR => ?_)
  subst hl; subst hA
  have hok := cKf_ok B (kA K)
  have hq : f_J3_checkIndex_8e157 i n = some i := by
    unfold f_J0_checkIndex_df160 at hf
    unfold f_J3_checkIndex_8e157
    rcases op_if hf with ⟨_, hf⟩ | ⟨c1, hf⟩
    · cases hf
    rcases op_if hf with ⟨c2, hf⟩ | ⟨_, hf⟩
    · rw [if_neg c1, if_pos c2]
    · cases hf
  show G K (cX B (kA K) sa h lk) 0 0 0 S [(0, .int i), (1, .int n)] []
  refine g_iload_n 1 0 F dJ0_checkIndex_df160_0 rfl rfl ?_
  refine g_iload_n 2 1 F dJ0_checkIndex_df160_1 rfl rfl ?_
  rcases F.2.2.2.2.2.1.2.2.2.2.1 with hz | ⟨t, hz⟩
  · refine c_gets 5 F hz fl_J0_1053 dJ0_checkIndex_df160_2 rfl ?_
    refine g_cSi 8 (st := []) F hok (c_J3_checkIndex_8e157 (kl K) B sa h lk (kA K) S i n .null rfl i hq) ws_J3_checkIndex_8e157 ml_J0_1059 ⟨Nat.le_of_ble_eq_true rfl, Nat.le_of_ble_eq_true rfl⟩ rfl rfl (Nat.le_of_ble_eq_true rfl) ⟨Nat.zero_le _, Nat.zero_le _⟩ dJ0_checkIndex_df160_5 rfl ?_
    refine g_pop 9 F dJ0_checkIndex_df160_8 rfl rfl ?_
    exact hR _ _ dJ0_checkIndex_df160_9
  · refine c_gets 5 F hz fl_J0_1053 dJ0_checkIndex_df160_2 rfl ?_
    refine g_cSi 8 (st := []) F hok (c_J3_checkIndex_8e157 (kl K) B sa h lk (kA K) S i n (.ref t) rfl i hq) ws_J3_checkIndex_8e157 ml_J0_1059 ⟨Nat.le_of_ble_eq_true rfl, Nat.le_of_ble_eq_true rfl⟩ rfl rfl (Nat.le_of_ble_eq_true rfl) ⟨Nat.zero_le _, Nat.zero_le _⟩ dJ0_checkIndex_df160_5 rfl ?_
    refine g_pop 9 F dJ0_checkIndex_df160_8 rfl rfl ?_
    exact hR _ _ dJ0_checkIndex_df160_9
set_option maxHeartbeats 4000000 in
set_option maxRecDepth 100000 in
theorem w_J1_charAt_3b067 (B : CB) (sa : Nat → Nat) (h : Nat → Bool) (lk : Nat × Nat) (hw : cWf h lk) (K : Ctx) (F : Fx K cJ1_charAt_3b067 RJ1 (cKf B (kA K)) 2 43) (hn : kn K = 2) (S : CS) (i : Nat) (a2 : Int32) (hi : i < 10) (q : Int32) (hf : f_J1_charAt_3b067 S i a2 = some q) (hR : ∀ (pc : Nat) (lv : List (Nat × Value)), decode cJ1_charAt_3b067 pc = .ok (.ireturn, 1) → G K (cX B (kA K) sa h lk) 0 0 pc S lv [.int q]) : G K (cX B (kA K) sa h lk) 0 0 0 S [(0, .ref (cV B i)), (1, .int a2)] [] := by
  have hok := cKf_ok B (kA K)
  unfold f_J1_charAt_3b067 at hf
  refine g_iload_n 1 1 F dJ1_charAt_3b067_0 rfl rfl ?_
  refine g_aload_n 2 0 F dJ1_charAt_3b067_1 rfl rfl ?_
  refine c_tlen 3 F (F.2.2.2.2.2.1.2.2.2.2.2.1.1 i hi).2.2.2 dJ1_charAt_3b067_2 rfl ?_
  obtain ⟨q1, e2, hf⟩ := op_bd hf
  refine g_cSv 6 (st := []) F hok (c_J0_checkIndex_df160 (kl K) B sa h lk hw (kA K) S a2 (Int32.ofNat (cLen.getD i 0)) q1 e2) ws_J0_checkIndex_df160 ml_J1_9 ⟨Nat.le_of_ble_eq_true rfl, Nat.le_of_ble_eq_true rfl⟩ rfl rfl (Nat.le_of_ble_eq_true rfl) ⟨Nat.zero_le _, Nat.zero_le _⟩ dJ1_charAt_3b067_3 rfl ?_
  refine g_aload_n 7 0 F dJ1_charAt_3b067_6 rfl rfl ?_
  refine g_iload_n 8 1 F dJ1_charAt_3b067_7 rfl rfl ?_
  obtain ⟨h3, hf⟩ := op_ok hf
  refine c_tldB 9 (f := fun j => (cByt.getD i []).getD j 0) F (F.2.2.2.2.2.1.2.2.2.2.2.1.1 i hi).2.2.2 h3 dJ1_charAt_3b067_8 rfl ?_
  refine g_sipush 12 (v := 255) F dJ1_charAt_3b067_9 (by decide) rfl ?_
  refine g_iand 13 F dJ1_charAt_3b067_12 rfl ?_
  refine g_i2c 14 F dJ1_charAt_3b067_13 rfl ?_
  obtain rfl := Option.some.inj hf
  exact hR _ _ dJ1_charAt_3b067_14
theorem c_J1_charAt_3b067 (l : Launch) (B : CB) (sa : Nat → Nat) (h : Nat → Bool) (lk : Nat × Nat) (hw : cWf h lk) (A : Nat → Prop) (S : CS) (i : Nat) (a2 : Int32) (hi : i < 10) (q : Int32) (hf : f_J1_charAt_3b067 S i a2 = some q) (hnar : narrow .char (.int q) = .int q) : Ci l yJ1_charAt_3b067 cJ1_charAt_3b067 2 (some .char) 2 43 (cX B A sa h lk) (cKf B A) A S [.ref (cV B i), .int a2] q S := by
  refine met_ty hnar (by decide +kernel) (Nat.le_of_ble_eq_true rfl) (fun K hl hA hn F hR => ?_)
  subst hl; subst hA
  exact w_J1_charAt_3b067 B sa h lk hw K F hn S i a2 hi q hf hR
set_option maxHeartbeats 4000000 in
set_option maxRecDepth 100000 in
theorem w_J0_charAt_5068e (B : CB) (sa : Nat → Nat) (h : Nat → Bool) (lk : Nat × Nat) (hw : cWf h lk) (K : Ctx) (F : Fx K cJ0_charAt_5068e RJ0 (cKf B (kA K)) 3 64) (hn : kn K = 2) (S : CS) (i : Nat) (a1 : Int32) (hi : i < 10) (q : Int32) (hf : f_J0_charAt_5068e S i a1 = some q) (hR : ∀ (pc : Nat) (lv : List (Nat × Value)), decode cJ0_charAt_5068e pc = .ok (.ireturn, 1) → G K (cX B (kA K) sa h lk) 0 0 pc S lv [.int q]) : G K (cX B (kA K) sa h lk) 0 0 0 S [(0, .ref (cK B i)), (1, .int a1)] [] := by
  have hok := cKf_ok B (kA K)
  unfold f_J0_charAt_5068e at hf
  refine g_aload_n 1 0 F dJ0_charAt_5068e_0 rfl rfl ?_
  refine g_cVi 4 (st := []) F hok (c_J0_isLatin1_aae02 (kl K) B sa h lk hw (kA K) S i hi _ rfl) wy_J0_isLatin1_aae02 ml_J0_492 (c_rc_S F hi) ⟨Nat.le_of_ble_eq_true rfl, Nat.le_of_ble_eq_true rfl⟩ rfl rfl (Nat.le_of_ble_eq_true rfl) ⟨Nat.zero_le _, Nat.zero_le _⟩ dJ0_charAt_5068e_1 rfl ?_
  refine g_ifeq_b 16 7 F dJ0_charAt_5068e_4 rfl rfl hf (fun _ hf => ?_) (fun _ hf => ?_)
  · refine g_aload_n 17 0 F dJ0_charAt_5068e_16 rfl rfl ?_
    refine c_kget 20 (v := .ref (cV B i)) F (F.2.2.2.2.2.1.2.2.2.2.2.1.1 i hi).2.2.1 fl_J0_9 dJ0_charAt_5068e_17 rfl ?_
    refine g_iload_n 21 1 F dJ0_charAt_5068e_20 rfl rfl ?_
    cases hf
  · refine g_aload_n 8 0 F dJ0_charAt_5068e_7 rfl rfl ?_
    refine c_kget 11 (v := .ref (cV B i)) F (F.2.2.2.2.2.1.2.2.2.2.2.1.1 i hi).2.2.1 fl_J0_9 dJ0_charAt_5068e_8 rfl ?_
    refine g_iload_n 12 1 F dJ0_charAt_5068e_11 rfl rfl ?_
    obtain ⟨q1, e2, hf⟩ := op_bd hf
    refine g_cSi 15 (st := []) F hok (c_J1_charAt_3b067 (kl K) B sa h lk hw (kA K) S i a1 hi q1 e2 (f_J1_charAt_3b067_nar e2)) ws_J1_charAt_3b067 ml_J0_495 ⟨Nat.le_of_ble_eq_true rfl, Nat.le_of_ble_eq_true rfl⟩ rfl rfl (Nat.le_of_ble_eq_true rfl) ⟨Nat.zero_le _, Nat.zero_le _⟩ dJ0_charAt_5068e_12 rfl ?_
    obtain rfl := Option.some.inj hf
    exact hR _ _ dJ0_charAt_5068e_15
theorem c_J0_charAt_5068e (l : Launch) (B : CB) (sa : Nat → Nat) (h : Nat → Bool) (lk : Nat × Nat) (hw : cWf h lk) (A : Nat → Prop) (S : CS) (i : Nat) (a1 : Int32) (hi : i < 10) (q : Int32) (hf : f_J0_charAt_5068e S i a1 = some q) (hnar : narrow .char (.int q) = .int q) : Ci l yJ0_charAt_5068e cJ0_charAt_5068e 2 (some .char) 3 64 (cX B A sa h lk) (cKf B A) A S [.ref (cK B i), .int a1] q S := by
  refine met_ty hnar (by decide +kernel) (Nat.le_of_ble_eq_true rfl) (fun K hl hA hn F hR => ?_)
  subst hl; subst hA
  exact w_J0_charAt_5068e B sa h lk hw K F hn S i a1 hi q hf hR
set_option maxHeartbeats 4000000 in
set_option maxRecDepth 100000 in
theorem w_X3_isWord (B : CB) (sa : Nat → Nat) (h : Nat → Bool) (lk : Nat × Nat) (hw : cWf h lk) (K : Ctx) (F : Fx K cX3_isWord RX3 (cKf B (kA K)) 4 85) (hn : kn K = 3) (S : CS) (i : Nat) (hi : i < 10) (q : Bool) (hf : f_X3_isWord S i = some q) (hR : ∀ (pc : Nat) (lv : List (Nat × Value)), decode cX3_isWord pc = .ok (.ireturn, 1) → G K (cX B (kA K) sa h lk) 0 0 pc S lv [.int (bI q)]) : G K (cX B (kA K) sa h lk) 0 0 0 S [(0, .ref (cAf B 11)), (1, .ref (cK B i))] [] := by
  have hok := cKf_ok B (kA K)
  have L_28 : ∀ (n : Nat) (x2 : Int32), l_X3_isWord_28 i S n x2 = some q → G K (cX B (kA K) sa h lk) 0 0 28 S [(0, .ref (cAf B 11)), (1, .ref (cK B i)), (2, .int x2)] [] := by
    intro n
    induction n with
    | zero =>
      intro x2 hf
      rw [l_X3_isWord_28] at hf
      cases hf
    | succ n ih =>
      intro x2 hf
      rw [l_X3_isWord_28] at hf
      refine g_iload_n 29 2 F dX3_isWord_28 rfl rfl ?_
      refine g_aload_n 30 1 F dX3_isWord_29 rfl rfl ?_
      refine g_cVi 33 (st := [.int x2]) F hok (c_J0_length_8abf5 (kl K) B sa h lk hw (kA K) S i hi _ rfl) wy_J0_length_8abf5 ml_X3_51 (c_rc_S F hi) ⟨Nat.le_of_ble_eq_true rfl, Nat.le_of_ble_eq_true rfl⟩ rfl rfl (Nat.le_of_ble_eq_true rfl) ⟨Nat.zero_le _, Nat.zero_le _⟩ dX3_isWord_30 rfl ?_
      refine g_icmp_ge 62 36 F dX3_isWord_33 rfl rfl hf (fun _ hf => ?_) (fun _ hf => ?_)
      · refine g_iconst 63 (v := 1) F dX3_isWord_62 (by decide) rfl ?_
        obtain rfl := Option.some.inj hf
        exact hR _ _ dX3_isWord_63
      · refine g_aload_n 37 0 F dX3_isWord_36 rfl rfl ?_
        refine g_aload_n 38 0 F dX3_isWord_37 rfl rfl ?_
        refine cg_X3_first 41 F fl_X3_30 dX3_isWord_38 rfl ?_
        refine g_iload_n 42 2 F dX3_isWord_41 rfl rfl ?_
        refine g_iadd 43 F dX3_isWord_42 rfl ?_
        obtain ⟨q1, e2, hf⟩ := op_bd hf
        refine g_cVi 46 (st := []) F hok (c_X3_byteAt (kl K) B sa h lk hw (kA K) S ((cF S 10) + x2) q1 e2) wy_X3_byteAt ml_X3_22 (c_rc_X3 F) ⟨Nat.le_of_ble_eq_true rfl, Nat.le_of_ble_eq_true rfl⟩ rfl rfl (Nat.le_of_ble_eq_true rfl) ⟨Nat.zero_le _, Nat.zero_le _⟩ dX3_isWord_43 rfl ?_
        refine g_aload_n 47 1 F dX3_isWord_46 rfl rfl ?_
        refine g_iload_n 48 2 F dX3_isWord_47 rfl rfl ?_
        obtain ⟨q3, e4, hf⟩ := op_bd hf
        refine g_cVi 51 (st := [.int q1]) F hok (c_J0_charAt_5068e (kl K) B sa h lk hw (kA K) S i x2 hi q3 e4 (f_J0_charAt_5068e_nar e4)) wy_J0_charAt_5068e ml_X3_57 (c_rc_S F hi) ⟨Nat.le_of_ble_eq_true rfl, Nat.le_of_ble_eq_true rfl⟩ rfl rfl (Nat.le_of_ble_eq_true rfl) ⟨Nat.zero_le _, Nat.zero_le _⟩ dX3_isWord_48 rfl ?_
        refine g_icmp_eq 56 54 F dX3_isWord_51 rfl rfl hf (fun _ hf => ?_) (fun _ hf => ?_)
        · refine g_iinc 59 2 (x2 + 1) [(2, .int (x2 + 1)), (0, .ref (cAf B 11)), (1, .ref (cK B i))] F dX3_isWord_56 rfl rfl (lt_kn hn (by decide)) rfl rfl ?_
          refine g_goto 28 F dX3_isWord_59 rfl ?_
          exact G.lvs [1, 2, 0] rfl (ih (x2 + 1) hf)
        · refine g_iconst 55 (v := 0) F dX3_isWord_54 (by decide) rfl ?_
          obtain rfl := Option.some.inj hf
          exact hR _ _ dX3_isWord_55
  unfold f_X3_isWord at hf
  refine g_aload_n 1 0 F dX3_isWord_0 rfl rfl ?_
  refine cg_X3_token 4 F fl_X3_33 dX3_isWord_1 rfl ?_
  refine g_iconst 5 (v := 1) F dX3_isWord_4 (by decide) rfl ?_
  refine g_icmp_ne 24 8 F dX3_isWord_5 rfl rfl hf (fun _ hf => ?_) (fun _ hf => ?_)
  · refine g_iconst 25 (v := 0) F dX3_isWord_24 (by decide) rfl ?_
    obtain rfl := Option.some.inj hf
    exact hR _ _ dX3_isWord_25
  · refine g_aload_n 9 0 F dX3_isWord_8 rfl rfl ?_
    refine cg_X3_next 12 F fl_X3_19 dX3_isWord_9 rfl ?_
    refine g_aload_n 13 0 F dX3_isWord_12 rfl rfl ?_
    refine cg_X3_first 16 F fl_X3_30 dX3_isWord_13 rfl ?_
    refine g_isub 17 F dX3_isWord_16 rfl ?_
    refine g_aload_n 18 1 F dX3_isWord_17 rfl rfl ?_
    refine g_cVi 21 (st := [.int ((cF S 12) - (cF S 10))]) F hok (c_J0_length_8abf5 (kl K) B sa h lk hw (kA K) S i hi _ rfl) wy_J0_length_8abf5 ml_X3_51 (c_rc_S F hi) ⟨Nat.le_of_ble_eq_true rfl, Nat.le_of_ble_eq_true rfl⟩ rfl rfl (Nat.le_of_ble_eq_true rfl) ⟨Nat.zero_le _, Nat.zero_le _⟩ dX3_isWord_18 rfl ?_
    refine g_icmp_eq 26 24 F dX3_isWord_21 rfl rfl hf (fun _ hf => ?_) (fun _ hf => ?_)
    · refine g_iconst 27 (v := 0) F dX3_isWord_26 (by decide) rfl ?_
      refine g_istore_n 28 [(2, .int 0), (0, .ref (cAf B 11)), (1, .ref (cK B i))] F dX3_isWord_27 (lt_kn hn (by decide)) rfl rfl ?_
      exact G.lvs [1, 2, 0] rfl (L_28 fu 0 hf)
    · refine g_iconst 25 (v := 0) F dX3_isWord_24 (by decide) rfl ?_
      obtain rfl := Option.some.inj hf
      exact hR _ _ dX3_isWord_25
theorem c_X3_isWord (l : Launch) (B : CB) (sa : Nat → Nat) (h : Nat → Bool) (lk : Nat × Nat) (hw : cWf h lk) (A : Nat → Prop) (S : CS) (i : Nat) (hi : i < 10) (q : Bool) (hf : f_X3_isWord S i = some q) : Ci l yX3_isWord cX3_isWord 3 (some .boolean) 4 85 (cX B A sa h lk) (cKf B A) A S [.ref (cAf B 11), .ref (cK B i)] (bI q) S := by
  refine met_z (by decide +kernel) (Nat.le_of_ble_eq_true rfl) (fun K hl hA hn F hR => ?_)
  subst hl; subst hA
  exact w_X3_isWord B sa h lk hw K F hn S i hi q hf hR
set_option maxHeartbeats 4000000 in
set_option maxRecDepth 100000 in
theorem w_X4_refuse (B : CB) (sa : Nat → Nat) (h : Nat → Bool) (lk : Nat × Nat) (hw : cWf h lk) (K : Ctx) (F : Fx K cX4_refuse RX4 (cKf B (kA K)) 0 0) (hn : kn K = 3) (S : CS) (a1 : Int32) (a2 : Int32) (q : Bool × CS) (hf : f_X4_refuse S a1 a2 = q) (hR : ∀ (pc : Nat) (lv : List (Nat × Value)), decode cX4_refuse pc = .ok (.ireturn, 1) → G K (cX B (kA K) sa h lk) 0 0 pc q.2 lv [.int (bI q.1)]) : G K (cX B (kA K) sa h lk) 0 0 0 S [(0, .ref (cAf B 13)), (1, .int a1), (2, .int a2)] [] := by
  have hok := cKf_ok B (kA K)
  unfold f_X4_refuse at hf
  refine g_aload_n 1 0 F dX4_refuse_0 rfl rfl ?_
  refine g_iload_n 2 1 F dX4_refuse_1 rfl rfl ?_
  refine g_bipush 4 (v := 8) F dX4_refuse_2 (by decide) rfl ?_
  refine g_iload_n 5 2 F dX4_refuse_4 rfl rfl ?_
  refine g_imul 6 F dX4_refuse_5 rfl ?_
  refine g_iadd 7 F dX4_refuse_6 rfl ?_
  refine cp_X4_foundFault 10 F fl_X4_19 dX4_refuse_7 rfl ?_
  refine g_iconst 11 (v := 0) F dX4_refuse_10 (by decide) rfl ?_
  subst hf
  exact hR _ _ dX4_refuse_11
theorem c_X4_refuse (l : Launch) (B : CB) (sa : Nat → Nat) (h : Nat → Bool) (lk : Nat × Nat) (hw : cWf h lk) (A : Nat → Prop) (S : CS) (a1 : Int32) (a2 : Int32) (q : Bool × CS) (hf : f_X4_refuse S a1 a2 = q) : Ci l yX4_refuse cX4_refuse 3 (some .boolean) 0 0 (cX B A sa h lk) (cKf B A) A S [.ref (cAf B 13), .int a1, .int a2] (bI q.1) q.2 := by
  refine met_z (by decide +kernel) (Nat.le_of_ble_eq_true rfl) (fun K hl hA hn F hR => ?_)
  subst hl; subst hA
  exact w_X4_refuse B sa h lk hw K F hn S a1 a2 q hf hR
set_option maxHeartbeats 4000000 in
set_option maxRecDepth 100000 in
theorem w_X4_formOfWord (B : CB) (sa : Nat → Nat) (h : Nat → Bool) (lk : Nat × Nat) (hw : cWf h lk) (K : Ctx) (F : Fx K cX4_formOfWord RX4 (cKf B (kA K)) 5 107) (hn : kn K = 1) (S : CS) (q : Int32) (hf : f_X4_formOfWord S = some q) (hR : ∀ (pc : Nat) (lv : List (Nat × Value)), decode cX4_formOfWord pc = .ok (.ireturn, 1) → G K (cX B (kA K) sa h lk) 0 0 pc S lv [.int q]) : G K (cX B (kA K) sa h lk) 0 0 0 S [(0, .ref (cAf B 13))] [] := by
  have hok := cKf_ok B (kA K)
  unfold f_X4_formOfWord at hf
  refine g_aload_n 1 0 F dX4_formOfWord_0 rfl rfl ?_
  refine cg_X4_tape 4 F fl_X4_15 dX4_formOfWord_1 rfl ?_
  refine c_ldcS (i := 0) 6 F (by decide) (by decide) (by decide) dX4_formOfWord_4 rfl ?_
  obtain ⟨q1, e2, hf⟩ := op_bd hf
  refine g_cVi 9 (st := []) F hok (c_X3_isWord (kl K) B sa h lk hw (kA K) S 0 (by decide) q1 e2) wy_X3_isWord ml_X4_62 (c_rc_X3 F) ⟨Nat.le_of_ble_eq_true rfl, Nat.le_of_ble_eq_true rfl⟩ rfl rfl (Nat.le_of_ble_eq_true rfl) ⟨Nat.zero_le _, Nat.zero_le _⟩ dX4_formOfWord_6 rfl ?_
  refine g_ifeq_b 14 12 F dX4_formOfWord_9 rfl rfl hf (fun _ hf => ?_) (fun _ hf => ?_)
  · refine g_aload_n 15 0 F dX4_formOfWord_14 rfl rfl ?_
    refine cg_X4_tape 18 F fl_X4_15 dX4_formOfWord_15 rfl ?_
    refine c_ldcS (i := 1) 20 F (by decide) (by decide) (by decide) dX4_formOfWord_18 rfl ?_
    obtain ⟨q3, e4, hf⟩ := op_bd hf
    refine g_cVi 23 (st := []) F hok (c_X3_isWord (kl K) B sa h lk hw (kA K) S 1 (by decide) q3 e4) wy_X3_isWord ml_X4_62 (c_rc_X3 F) ⟨Nat.le_of_ble_eq_true rfl, Nat.le_of_ble_eq_true rfl⟩ rfl rfl (Nat.le_of_ble_eq_true rfl) ⟨Nat.zero_le _, Nat.zero_le _⟩ dX4_formOfWord_20 rfl ?_
    refine g_ifeq_b 28 26 F dX4_formOfWord_23 rfl rfl hf (fun _ hf => ?_) (fun _ hf => ?_)
    · refine g_aload_n 29 0 F dX4_formOfWord_28 rfl rfl ?_
      refine cg_X4_tape 32 F fl_X4_15 dX4_formOfWord_29 rfl ?_
      refine c_ldcS (i := 2) 34 F (by decide) (by decide) (by decide) dX4_formOfWord_32 rfl ?_
      obtain ⟨q5, e6, hf⟩ := op_bd hf
      refine g_cVi 37 (st := []) F hok (c_X3_isWord (kl K) B sa h lk hw (kA K) S 2 (by decide) q5 e6) wy_X3_isWord ml_X4_62 (c_rc_X3 F) ⟨Nat.le_of_ble_eq_true rfl, Nat.le_of_ble_eq_true rfl⟩ rfl rfl (Nat.le_of_ble_eq_true rfl) ⟨Nat.zero_le _, Nat.zero_le _⟩ dX4_formOfWord_34 rfl ?_
      refine g_ifeq_b 42 40 F dX4_formOfWord_37 rfl rfl hf (fun _ hf => ?_) (fun _ hf => ?_)
      · refine g_aload_n 43 0 F dX4_formOfWord_42 rfl rfl ?_
        refine cg_X4_tape 46 F fl_X4_15 dX4_formOfWord_43 rfl ?_
        refine c_ldcS (i := 3) 48 F (by decide) (by decide) (by decide) dX4_formOfWord_46 rfl ?_
        obtain ⟨q7, e8, hf⟩ := op_bd hf
        refine g_cVi 51 (st := []) F hok (c_X3_isWord (kl K) B sa h lk hw (kA K) S 3 (by decide) q7 e8) wy_X3_isWord ml_X4_62 (c_rc_X3 F) ⟨Nat.le_of_ble_eq_true rfl, Nat.le_of_ble_eq_true rfl⟩ rfl rfl (Nat.le_of_ble_eq_true rfl) ⟨Nat.zero_le _, Nat.zero_le _⟩ dX4_formOfWord_48 rfl ?_
        refine g_ifeq_b 56 54 F dX4_formOfWord_51 rfl rfl hf (fun _ hf => ?_) (fun _ hf => ?_)
        · refine g_aload_n 57 0 F dX4_formOfWord_56 rfl rfl ?_
          refine cg_X4_tape 60 F fl_X4_15 dX4_formOfWord_57 rfl ?_
          refine c_ldcS (i := 4) 62 F (by decide) (by decide) (by decide) dX4_formOfWord_60 rfl ?_
          obtain ⟨q9, e10, hf⟩ := op_bd hf
          refine g_cVi 65 (st := []) F hok (c_X3_isWord (kl K) B sa h lk hw (kA K) S 4 (by decide) q9 e10) wy_X3_isWord ml_X4_62 (c_rc_X3 F) ⟨Nat.le_of_ble_eq_true rfl, Nat.le_of_ble_eq_true rfl⟩ rfl rfl (Nat.le_of_ble_eq_true rfl) ⟨Nat.zero_le _, Nat.zero_le _⟩ dX4_formOfWord_62 rfl ?_
          refine g_ifeq_b 70 68 F dX4_formOfWord_65 rfl rfl hf (fun _ hf => ?_) (fun _ hf => ?_)
          · refine g_aload_n 71 0 F dX4_formOfWord_70 rfl rfl ?_
            refine cg_X4_tape 74 F fl_X4_15 dX4_formOfWord_71 rfl ?_
            refine c_ldcS (i := 5) 76 F (by decide) (by decide) (by decide) dX4_formOfWord_74 rfl ?_
            obtain ⟨q11, e12, hf⟩ := op_bd hf
            refine g_cVi 79 (st := []) F hok (c_X3_isWord (kl K) B sa h lk hw (kA K) S 5 (by decide) q11 e12) wy_X3_isWord ml_X4_62 (c_rc_X3 F) ⟨Nat.le_of_ble_eq_true rfl, Nat.le_of_ble_eq_true rfl⟩ rfl rfl (Nat.le_of_ble_eq_true rfl) ⟨Nat.zero_le _, Nat.zero_le _⟩ dX4_formOfWord_76 rfl ?_
            refine g_ifeq_b 86 82 F dX4_formOfWord_79 rfl rfl hf (fun _ hf => ?_) (fun _ hf => ?_)
            · refine g_iconst 87 (v := (-1)) F dX4_formOfWord_86 (by decide) rfl ?_
              obtain rfl := Option.some.inj hf
              exact hR _ _ dX4_formOfWord_87
            · refine g_iconst 83 (v := 5) F dX4_formOfWord_82 (by decide) rfl ?_
              refine g_goto 87 F dX4_formOfWord_83 rfl ?_
              obtain rfl := Option.some.inj hf
              exact hR _ _ dX4_formOfWord_87
          · refine g_iconst 69 (v := 4) F dX4_formOfWord_68 (by decide) rfl ?_
            obtain rfl := Option.some.inj hf
            exact hR _ _ dX4_formOfWord_69
        · refine g_iconst 55 (v := 3) F dX4_formOfWord_54 (by decide) rfl ?_
          obtain rfl := Option.some.inj hf
          exact hR _ _ dX4_formOfWord_55
      · refine g_iconst 41 (v := 2) F dX4_formOfWord_40 (by decide) rfl ?_
        obtain rfl := Option.some.inj hf
        exact hR _ _ dX4_formOfWord_41
    · refine g_iconst 27 (v := 1) F dX4_formOfWord_26 (by decide) rfl ?_
      obtain rfl := Option.some.inj hf
      exact hR _ _ dX4_formOfWord_27
  · refine g_iconst 13 (v := 0) F dX4_formOfWord_12 (by decide) rfl ?_
    obtain rfl := Option.some.inj hf
    exact hR _ _ dX4_formOfWord_13
theorem c_X4_formOfWord (l : Launch) (B : CB) (sa : Nat → Nat) (h : Nat → Bool) (lk : Nat × Nat) (hw : cWf h lk) (A : Nat → Prop) (S : CS) (q : Int32) (hf : f_X4_formOfWord S = some q) : Ci l yX4_formOfWord cX4_formOfWord 1 (some .int) 5 107 (cX B A sa h lk) (cKf B A) A S [.ref (cAf B 13)] q S := by
  refine met_i (by decide +kernel) (Nat.le_of_ble_eq_true rfl) (fun K hl hA hn F hR => ?_)
  subst hl; subst hA
  exact w_X4_formOfWord B sa h lk hw K F hn S q hf hR
set_option maxHeartbeats 4000000 in
set_option maxRecDepth 100000 in
theorem w_X5_canBeRisk (B : CB) (sa : Nat → Nat) (h : Nat → Bool) (lk : Nat × Nat) (hw : cWf h lk) (K : Ctx) (F : Fx K cX5_canBeRisk RX5 (cKf B (kA K)) 0 0) (hn : kn K = 1) (S : CS) (a1 : Int32) (q : Bool) (hf : f_X5_canBeRisk a1 = q) (hR : ∀ (pc : Nat) (lv : List (Nat × Value)), decode cX5_canBeRisk pc = .ok (.ireturn, 1) → G K (cX B (kA K) sa h lk) 0 0 pc S lv [.int (bI q)]) : G K (cX B (kA K) sa h lk) 0 0 0 S [(0, .int a1)] [] := by
  have hok := cKf_ok B (kA K)
  unfold f_X5_canBeRisk at hf
  refine g_iload_n 1 0 F dX5_canBeRisk_0 rfl rfl ?_
  refine g_iconst 2 (v := 1) F dX5_canBeRisk_1 (by decide) rfl ?_
  refine g_icmp_lt 15 5 F dX5_canBeRisk_2 rfl rfl hf (fun _ hf => ?_) (fun _ hf => ?_)
  · refine g_iconst 16 (v := 0) F dX5_canBeRisk_15 (by decide) rfl ?_
    subst hf
    exact hR _ _ dX5_canBeRisk_16
  · refine g_iload_n 6 0 F dX5_canBeRisk_5 rfl rfl ?_
    refine g_bipush 8 (v := 9) F dX5_canBeRisk_6 (by decide) rfl ?_
    refine g_icmp_gt 15 11 F dX5_canBeRisk_8 rfl rfl hf (fun _ hf => ?_) (fun _ hf => ?_)
    · refine g_iconst 16 (v := 0) F dX5_canBeRisk_15 (by decide) rfl ?_
      subst hf
      exact hR _ _ dX5_canBeRisk_16
    · refine g_iconst 12 (v := 1) F dX5_canBeRisk_11 (by decide) rfl ?_
      refine g_goto 16 F dX5_canBeRisk_12 rfl ?_
      subst hf
      exact hR _ _ dX5_canBeRisk_16
theorem c_X5_canBeRisk (l : Launch) (B : CB) (sa : Nat → Nat) (h : Nat → Bool) (lk : Nat × Nat) (hw : cWf h lk) (A : Nat → Prop) (S : CS) (a1 : Int32) (q : Bool) (hf : f_X5_canBeRisk a1 = q) : Ci l yX5_canBeRisk cX5_canBeRisk 1 (some .boolean) 0 0 (cX B A sa h lk) (cKf B A) A S [.int a1] (bI q) S := by
  refine met_z (by decide +kernel) (Nat.le_of_ble_eq_true rfl) (fun K hl hA hn F hR => ?_)
  subst hl; subst hA
  exact w_X5_canBeRisk B sa h lk hw K F hn S a1 q hf hR
set_option maxHeartbeats 4000000 in
set_option maxRecDepth 100000 in
theorem w_X4_canBeOfFiling (B : CB) (sa : Nat → Nat) (h : Nat → Bool) (lk : Nat × Nat) (hw : cWf h lk) (K : Ctx) (F : Fx K cX4_canBeOfFiling RX4 (cKf B (kA K)) 1 21) (hn : kn K = 3) (S : CS) (a1 : Int32) (a2 : Int32) (q : Bool) (hf : f_X4_canBeOfFiling S a1 a2 = q) (hR : ∀ (pc : Nat) (lv : List (Nat × Value)), decode cX4_canBeOfFiling pc = .ok (.ireturn, 1) → G K (cX B (kA K) sa h lk) 0 0 pc S lv [.int (bI q)]) : G K (cX B (kA K) sa h lk) 0 0 0 S [(0, .ref (cAf B 13)), (1, .int a1), (2, .int a2)] [] := by
  have hok := cKf_ok B (kA K)
  unfold f_X4_canBeOfFiling at hf
  refine g_iload_n 1 1 F dX4_canBeOfFiling_0 rfl rfl ?_
  rcases op_if hf with ⟨c1, hf⟩ | ⟨c1, hf⟩
  · refine g_tab 1 28 F dX4_canBeOfFiling_1 c1 (by decide) (by decide) rfl rfl ?_
    refine g_iload_n 29 2 F dX4_canBeOfFiling_28 rfl rfl ?_
    refine g_cSNi 32 (st := []) F hok (c_X5_canBeFiledDay (kl K) B sa h lk hw (kA K) S a2 _ rfl) ws_X5_canBeFiledDay (F.2.2.2.2.2.1.2.1 _ nl_X4_124) ⟨Nat.le_of_ble_eq_true rfl, Nat.le_of_ble_eq_true rfl⟩ rfl rfl (Nat.le_of_ble_eq_true rfl) ⟨Nat.zero_le _, Nat.zero_le _⟩ dX4_canBeOfFiling_29 rfl ?_
    subst hf
    exact hR _ _ dX4_canBeOfFiling_32
  · rcases op_if hf with ⟨c2, hf⟩ | ⟨c2, hf⟩
    · refine g_tab 2 33 F dX4_canBeOfFiling_1 c2 (by decide) (by decide) rfl rfl ?_
      refine g_aload_n 34 0 F dX4_canBeOfFiling_33 rfl rfl ?_
      refine cg_X4_numbers 37 F fl_X4_11 dX4_canBeOfFiling_34 rfl ?_
      refine g_iconst 38 (v := 1) F dX4_canBeOfFiling_37 (by decide) rfl ?_
      refine clK_A6 39 1 F (by decide) (by decide) dX4_canBeOfFiling_38 rfl ?_
      refine g_iload_n 40 2 F dX4_canBeOfFiling_39 rfl rfl ?_
      refine g_cSNi 43 (st := []) F hok (c_X5_canBeSpan (kl K) B sa h lk hw (kA K) S (cA S 6 1) a2 _ rfl) ws_X5_canBeSpan (F.2.2.2.2.2.1.2.1 _ nl_X4_127) ⟨Nat.le_of_ble_eq_true rfl, Nat.le_of_ble_eq_true rfl⟩ rfl rfl (Nat.le_of_ble_eq_true rfl) ⟨Nat.zero_le _, Nat.zero_le _⟩ dX4_canBeOfFiling_40 rfl ?_
      subst hf
      exact hR _ _ dX4_canBeOfFiling_43
    · rcases op_if hf with ⟨c3, hf⟩ | ⟨c3, hf⟩
      · refine g_tab 3 44 F dX4_canBeOfFiling_1 c3 (by decide) (by decide) rfl rfl ?_
        refine g_iload_n 45 2 F dX4_canBeOfFiling_44 rfl rfl ?_
        refine g_cSNi 48 (st := []) F hok (c_X5_canBeFiledHour (kl K) B sa h lk hw (kA K) S a2 _ rfl) ws_X5_canBeFiledHour (F.2.2.2.2.2.1.2.1 _ nl_X4_130) ⟨Nat.le_of_ble_eq_true rfl, Nat.le_of_ble_eq_true rfl⟩ rfl rfl (Nat.le_of_ble_eq_true rfl) ⟨Nat.zero_le _, Nat.zero_le _⟩ dX4_canBeOfFiling_45 rfl ?_
        subst hf
        exact hR _ _ dX4_canBeOfFiling_48
      · refine g_tabD 49 F dX4_canBeOfFiling_1 (by have := lv_neT c1 (by decide : (1 : Int32).toInt = 1); have := lv_neT c2 (by decide : (2 : Int32).toInt = 2); have := lv_neT c3 (by decide : (3 : Int32).toInt = 3); omega) rfl ?_
        refine g_iload_n 50 2 F dX4_canBeOfFiling_49 rfl rfl ?_
        refine g_cSNi 53 (st := []) F hok (c_X5_canBePlace (kl K) B sa h lk hw (kA K) S a2 _ rfl) ws_X5_canBePlace (F.2.2.2.2.2.1.2.1 _ nl_X4_118) ⟨Nat.le_of_ble_eq_true rfl, Nat.le_of_ble_eq_true rfl⟩ rfl rfl (Nat.le_of_ble_eq_true rfl) ⟨Nat.zero_le _, Nat.zero_le _⟩ dX4_canBeOfFiling_50 rfl ?_
        subst hf
        exact hR _ _ dX4_canBeOfFiling_53
theorem c_X4_canBeOfFiling (l : Launch) (B : CB) (sa : Nat → Nat) (h : Nat → Bool) (lk : Nat × Nat) (hw : cWf h lk) (A : Nat → Prop) (S : CS) (a1 : Int32) (a2 : Int32) (q : Bool) (hf : f_X4_canBeOfFiling S a1 a2 = q) : Ci l yX4_canBeOfFiling cX4_canBeOfFiling 3 (some .boolean) 1 21 (cX B A sa h lk) (cKf B A) A S [.ref (cAf B 13), .int a1, .int a2] (bI q) S := by
  refine met_z (by decide +kernel) (Nat.le_of_ble_eq_true rfl) (fun K hl hA hn F hR => ?_)
  subst hl; subst hA
  exact w_X4_canBeOfFiling B sa h lk hw K F hn S a1 a2 q hf hR
set_option maxHeartbeats 4000000 in
set_option maxRecDepth 100000 in
theorem w_X4_isFailure (B : CB) (sa : Nat → Nat) (h : Nat → Bool) (lk : Nat × Nat) (hw : cWf h lk) (K : Ctx) (F : Fx K cX4_isFailure RX4 (cKf B (kA K)) 1 21) (hn : kn K = 4) (S : CS) (r : Nat) (a2 : Int32) (hr : r < 2) (q : Bool) (hf : f_X4_isFailure h S r a2 = some q) (hR : ∀ (pc : Nat) (lv : List (Nat × Value)), decode cX4_isFailure pc = .ok (.ireturn, 1) → G K (cX B (kA K) sa h lk) 0 0 pc S lv [.int (bI q)]) : G K (cX B (kA K) sa h lk) 0 0 0 S [(0, .ref (cAf B 13)), (1, .ref (cAf B (1 + r))), (2, .int a2)] [] := by
  have hok := cKf_ok B (kA K)
  unfold f_X4_isFailure at hf
  refine g_aload_n 1 1 F dX4_isFailure_0 rfl rfl ?_
  refine g_aload_n 2 0 F dX4_isFailure_1 rfl rfl ?_
  refine cg_X4_numbers 5 F fl_X4_11 dX4_isFailure_2 rfl ?_
  refine g_iconst 6 (v := 0) F dX4_isFailure_5 (by decide) rfl ?_
  refine clK_A6 7 0 F (by decide) (by decide) dX4_isFailure_6 rfl ?_
  obtain ⟨q1, e2, hf⟩ := op_bd hf
  refine g_cVq 10 (st := []) F hok (c_X0_find (kl K) B sa h lk hw (kA K) S r (cA S 6 0) hr q1 e2) wy_X0_find ml_X4_109 (c_rc_X0 F hr) ⟨Nat.le_of_ble_eq_true rfl, Nat.le_of_ble_eq_true rfl⟩ rfl rfl (Nat.le_of_ble_eq_true rfl) ⟨Nat.zero_le _, Nat.zero_le _⟩ dX4_isFailure_7 rfl ?_
  rcases op_oc hf with ⟨e4, hf⟩ | ⟨j3, e4, hf⟩
  · subst e4
    change G K (cX B (kA K) sa h lk) 0 0 10 S [(0, .ref (cAf B 13)), (1, .ref (cAf B (1 + r))), (2, .int a2)] [.null]
    refine g_astore_nN 11 [(3, .null), (0, .ref (cAf B 13)), (1, .ref (cAf B (1 + r))), (2, .int a2)] F dX4_isFailure_10 (lt_kn hn (by decide)) rfl rfl ?_
    refine g_aload_nN 12 0 F dX4_isFailure_11 rfl rfl ?_
    refine g_ifnullN 27 F dX4_isFailure_12 rfl ?_
    refine g_iconst 28 (v := 0) F dX4_isFailure_27 (by decide) rfl ?_
    obtain rfl := Option.some.inj hf
    exact hR _ _ dX4_isFailure_28
  · subst e4
    have hj3 : h j3 = true := find_has e2
    change G K (cX B (kA K) sa h lk) 0 0 10 S [(0, .ref (cAf B 13)), (1, .ref (cAf B (1 + r))), (2, .int a2)] [.ref (sa (5 * j3))]
    refine g_astore_n 11 [(3, .ref (sa (5 * j3))), (0, .ref (cAf B 13)), (1, .ref (cAf B (1 + r))), (2, .int a2)] F dX4_isFailure_10 (lt_kn hn (by decide)) rfl rfl ?_
    refine g_aload_n 12 0 F dX4_isFailure_11 rfl rfl ?_
    refine g_ifnull 15 F dX4_isFailure_12 rfl ?_
    refine g_aload_n 16 0 F dX4_isFailure_15 rfl rfl ?_
    refine g_iload_n 17 3 F dX4_isFailure_16 rfl rfl ?_
    refine g_cVi 20 (st := []) F hok (c_X1_hasFailure (kl K) B sa h lk hw (kA K) S j3 a2 hj3 _ rfl) wy_X1_hasFailure ml_X4_133 (c_rc_X1 F hw hj3) ⟨Nat.le_of_ble_eq_true rfl, Nat.le_of_ble_eq_true rfl⟩ rfl rfl (Nat.le_of_ble_eq_true rfl) ⟨Nat.zero_le _, Nat.zero_le _⟩ dX4_isFailure_17 rfl ?_
    refine g_ifeq_b 27 23 F dX4_isFailure_20 rfl rfl hf (fun _ hf => ?_) (fun _ hf => ?_)
    · refine g_iconst 28 (v := 0) F dX4_isFailure_27 (by decide) rfl ?_
      obtain rfl := Option.some.inj hf
      exact hR _ _ dX4_isFailure_28
    · refine g_iconst 24 (v := 1) F dX4_isFailure_23 (by decide) rfl ?_
      refine g_goto 28 F dX4_isFailure_24 rfl ?_
      obtain rfl := Option.some.inj hf
      exact hR _ _ dX4_isFailure_28
theorem c_X4_isFailure (l : Launch) (B : CB) (sa : Nat → Nat) (h : Nat → Bool) (lk : Nat × Nat) (hw : cWf h lk) (A : Nat → Prop) (S : CS) (r : Nat) (a2 : Int32) (hr : r < 2) (q : Bool) (hf : f_X4_isFailure h S r a2 = some q) : Ci l yX4_isFailure cX4_isFailure 4 (some .boolean) 1 21 (cX B A sa h lk) (cKf B A) A S [.ref (cAf B 13), .ref (cAf B (1 + r)), .int a2] (bI q) S := by
  refine met_z (by decide +kernel) (Nat.le_of_ble_eq_true rfl) (fun K hl hA hn F hR => ?_)
  subst hl; subst hA
  exact w_X4_isFailure B sa h lk hw K F hn S r a2 hr q hf hR
set_option maxHeartbeats 4000000 in
set_option maxRecDepth 100000 in
theorem w_X4_canBeNumber (B : CB) (sa : Nat → Nat) (h : Nat → Bool) (lk : Nat × Nat) (hw : cWf h lk) (K : Ctx) (F : Fx K cX4_canBeNumber RX4 (cKf B (kA K)) 2 44) (hn : kn K = 5) (S : CS) (r : Nat) (a2 : Int32) (a3 : Int32) (a4 : Int32) (hr : r < 2) (q : Bool) (hf : f_X4_canBeNumber h S r a2 a3 a4 = some q) (hR : ∀ (pc : Nat) (lv : List (Nat × Value)), decode cX4_canBeNumber pc = .ok (.ireturn, 1) → G K (cX B (kA K) sa h lk) 0 0 pc S lv [.int (bI q)]) : G K (cX B (kA K) sa h lk) 0 0 0 S [(0, .ref (cAf B 13)), (1, .ref (cAf B (1 + r))), (2, .int a2), (3, .int a3), (4, .int a4)] [] := by
  have hok := cKf_ok B (kA K)
  unfold f_X4_canBeNumber at hf
  refine g_iload_n 1 2 F dX4_canBeNumber_0 rfl rfl ?_
  rcases op_if hf with ⟨c1, hf⟩ | ⟨c1, hf⟩
  · refine g_tab 0 36 F dX4_canBeNumber_1 c1 (by decide) (by decide) rfl rfl ?_
    refine g_iload 38 4 F dX4_canBeNumber_36 rfl rfl ?_
    refine g_cSNi 41 (st := []) F hok (c_X5_canBeRisk (kl K) B sa h lk hw (kA K) S a4 _ rfl) ws_X5_canBeRisk (F.2.2.2.2.2.1.2.1 _ nl_X4_93) ⟨Nat.le_of_ble_eq_true rfl, Nat.le_of_ble_eq_true rfl⟩ rfl rfl (Nat.le_of_ble_eq_true rfl) ⟨Nat.zero_le _, Nat.zero_le _⟩ dX4_canBeNumber_38 rfl ?_
    obtain rfl := Option.some.inj hf
    exact hR _ _ dX4_canBeNumber_41
  · rcases op_if hf with ⟨c2, hf⟩ | ⟨c2, hf⟩
    · refine g_tab 1 42 F dX4_canBeNumber_1 c2 (by decide) (by decide) rfl rfl ?_
      refine g_iload_n 43 3 F dX4_canBeNumber_42 rfl rfl ?_
      refine g_if_ne 54 46 F dX4_canBeNumber_43 rfl rfl hf (fun _ hf => ?_) (fun _ hf => ?_)
      · refine g_aload_n 55 0 F dX4_canBeNumber_54 rfl rfl ?_
        refine cg_X4_numbers 58 F fl_X4_11 dX4_canBeNumber_55 rfl ?_
        refine g_iconst 59 (v := 0) F dX4_canBeNumber_58 (by decide) rfl ?_
        refine clK_A6 60 0 F (by decide) (by decide) dX4_canBeNumber_59 rfl ?_
        refine g_iload 62 4 F dX4_canBeNumber_60 rfl rfl ?_
        obtain ⟨q3, e4, hf⟩ := op_bd hf
        refine g_cSNi 65 (st := []) F hok (c_X5_canBeSetting (kl K) B sa h lk hw (kA K) S (cA S 6 0) a4 q3 e4) ws_X5_canBeSetting (F.2.2.2.2.2.1.2.1 _ nl_X4_100) ⟨Nat.le_of_ble_eq_true rfl, Nat.le_of_ble_eq_true rfl⟩ rfl rfl (Nat.le_of_ble_eq_true rfl) ⟨Nat.zero_le _, Nat.zero_le _⟩ dX4_canBeNumber_62 rfl ?_
        obtain rfl := Option.some.inj hf
        exact hR _ _ dX4_canBeNumber_65
      · refine g_iload 48 4 F dX4_canBeNumber_46 rfl rfl ?_
        refine g_cSNi 51 (st := []) F hok (c_X5_isSetting (kl K) B sa h lk hw (kA K) S a4 _ rfl) ws_X5_isSetting (F.2.2.2.2.2.1.2.1 _ nl_X4_97) ⟨Nat.le_of_ble_eq_true rfl, Nat.le_of_ble_eq_true rfl⟩ rfl rfl (Nat.le_of_ble_eq_true rfl) ⟨Nat.zero_le _, Nat.zero_le _⟩ dX4_canBeNumber_48 rfl ?_
        refine g_goto 65 F dX4_canBeNumber_51 rfl ?_
        obtain rfl := Option.some.inj hf
        exact hR _ _ dX4_canBeNumber_65
    · rcases op_if hf with ⟨c5, hf⟩ | ⟨c5, hf⟩
      · refine g_tab 2 66 F dX4_canBeNumber_1 c5 (by decide) (by decide) rfl rfl ?_
        refine g_iload_n 67 3 F dX4_canBeNumber_66 rfl rfl ?_
        refine g_if_ne 78 70 F dX4_canBeNumber_67 rfl rfl hf (fun _ hf => ?_) (fun _ hf => ?_)
        · refine g_iload 80 4 F dX4_canBeNumber_78 rfl rfl ?_
          refine g_cSNi 83 (st := []) F hok (c_X5_canBeHour (kl K) B sa h lk hw (kA K) S a4 _ rfl) ws_X5_canBeHour (F.2.2.2.2.2.1.2.1 _ nl_X4_106) ⟨Nat.le_of_ble_eq_true rfl, Nat.le_of_ble_eq_true rfl⟩ rfl rfl (Nat.le_of_ble_eq_true rfl) ⟨Nat.zero_le _, Nat.zero_le _⟩ dX4_canBeNumber_80 rfl ?_
          obtain rfl := Option.some.inj hf
          exact hR _ _ dX4_canBeNumber_83
        · refine g_iload 72 4 F dX4_canBeNumber_70 rfl rfl ?_
          refine g_cSNi 75 (st := []) F hok (c_X5_canBeDay (kl K) B sa h lk hw (kA K) S a4 _ rfl) ws_X5_canBeDay (F.2.2.2.2.2.1.2.1 _ nl_X4_103) ⟨Nat.le_of_ble_eq_true rfl, Nat.le_of_ble_eq_true rfl⟩ rfl rfl (Nat.le_of_ble_eq_true rfl) ⟨Nat.zero_le _, Nat.zero_le _⟩ dX4_canBeNumber_72 rfl ?_
          refine g_goto 83 F dX4_canBeNumber_75 rfl ?_
          obtain rfl := Option.some.inj hf
          exact hR _ _ dX4_canBeNumber_83
      · rcases op_if hf with ⟨c6, hf⟩ | ⟨c6, hf⟩
        · refine g_tab 3 84 F dX4_canBeNumber_1 c6 (by decide) (by decide) rfl rfl ?_
          refine g_iload_n 85 3 F dX4_canBeNumber_84 rfl rfl ?_
          refine g_if_ne 105 88 F dX4_canBeNumber_85 rfl rfl hf (fun _ hf => ?_) (fun _ hf => ?_)
          · refine g_aload_n 106 0 F dX4_canBeNumber_105 rfl rfl ?_
            refine g_iload_n 107 3 F dX4_canBeNumber_106 rfl rfl ?_
            refine g_iload 109 4 F dX4_canBeNumber_107 rfl rfl ?_
            refine g_cVi 112 (st := []) F hok (c_X4_canBeOfFiling (kl K) B sa h lk hw (kA K) S a3 a4 _ rfl) wy_X4_canBeOfFiling ml_X4_115 (c_rc_X4 F) ⟨Nat.le_of_ble_eq_true rfl, Nat.le_of_ble_eq_true rfl⟩ rfl rfl (Nat.le_of_ble_eq_true rfl) ⟨Nat.zero_le _, Nat.zero_le _⟩ dX4_canBeNumber_109 rfl ?_
            obtain rfl := Option.some.inj hf
            exact hR _ _ dX4_canBeNumber_112
          · refine g_aload_n 89 1 F dX4_canBeNumber_88 rfl rfl ?_
            refine g_iload 91 4 F dX4_canBeNumber_89 rfl rfl ?_
            obtain ⟨q7, e8, hf⟩ := op_bd hf
            refine g_cVq 94 (st := []) F hok (c_X0_find (kl K) B sa h lk hw (kA K) S r a4 hr q7 e8) wy_X0_find ml_X4_109 (c_rc_X0 F hr) ⟨Nat.le_of_ble_eq_true rfl, Nat.le_of_ble_eq_true rfl⟩ rfl rfl (Nat.le_of_ble_eq_true rfl) ⟨Nat.zero_le _, Nat.zero_le _⟩ dX4_canBeNumber_91 rfl ?_
            rcases op_oc hf with ⟨e10, hf⟩ | ⟨j9, e10, hf⟩
            · subst e10
              change G K (cX B (kA K) sa h lk) 0 0 94 S [(0, .ref (cAf B 13)), (1, .ref (cAf B (1 + r))), (2, .int a2), (3, .int a3), (4, .int a4)] [.null]
              refine g_ifnullN 101 F dX4_canBeNumber_94 rfl ?_
              refine g_iconst 102 (v := 0) F dX4_canBeNumber_101 (by decide) rfl ?_
              refine g_goto 112 F dX4_canBeNumber_102 rfl ?_
              obtain rfl := Option.some.inj hf
              exact hR _ _ dX4_canBeNumber_112
            · subst e10
              have hj9 : h j9 = true := find_has e8
              change G K (cX B (kA K) sa h lk) 0 0 94 S [(0, .ref (cAf B 13)), (1, .ref (cAf B (1 + r))), (2, .int a2), (3, .int a3), (4, .int a4)] [.ref (sa (5 * j9))]
              refine g_ifnull 97 F dX4_canBeNumber_94 rfl ?_
              refine g_iconst 98 (v := 1) F dX4_canBeNumber_97 (by decide) rfl ?_
              refine g_goto 112 F dX4_canBeNumber_98 rfl ?_
              obtain rfl := Option.some.inj hf
              exact hR _ _ dX4_canBeNumber_112
        · rcases op_if hf with ⟨c11, hf⟩ | ⟨c11, hf⟩
          · refine g_tab 4 113 F dX4_canBeNumber_1 c11 (by decide) (by decide) rfl rfl ?_
            refine g_iload_n 114 3 F dX4_canBeNumber_113 rfl rfl ?_
            refine g_if_ne 134 117 F dX4_canBeNumber_114 rfl rfl hf (fun _ hf => ?_) (fun _ hf => ?_)
            · refine g_iload 136 4 F dX4_canBeNumber_134 rfl rfl ?_
              refine g_cSNi 139 (st := []) F hok (c_X5_canBePlace (kl K) B sa h lk hw (kA K) S a4 _ rfl) ws_X5_canBePlace (F.2.2.2.2.2.1.2.1 _ nl_X4_118) ⟨Nat.le_of_ble_eq_true rfl, Nat.le_of_ble_eq_true rfl⟩ rfl rfl (Nat.le_of_ble_eq_true rfl) ⟨Nat.zero_le _, Nat.zero_le _⟩ dX4_canBeNumber_136 rfl ?_
              obtain rfl := Option.some.inj hf
              exact hR _ _ dX4_canBeNumber_139
            · refine g_aload_n 118 1 F dX4_canBeNumber_117 rfl rfl ?_
              refine g_iload 120 4 F dX4_canBeNumber_118 rfl rfl ?_
              obtain ⟨q12, e13, hf⟩ := op_bd hf
              refine g_cVq 123 (st := []) F hok (c_X0_find (kl K) B sa h lk hw (kA K) S r a4 hr q12 e13) wy_X0_find ml_X4_109 (c_rc_X0 F hr) ⟨Nat.le_of_ble_eq_true rfl, Nat.le_of_ble_eq_true rfl⟩ rfl rfl (Nat.le_of_ble_eq_true rfl) ⟨Nat.zero_le _, Nat.zero_le _⟩ dX4_canBeNumber_120 rfl ?_
              rcases op_oc hf with ⟨e15, hf⟩ | ⟨j14, e15, hf⟩
              · subst e15
                change G K (cX B (kA K) sa h lk) 0 0 123 S [(0, .ref (cAf B 13)), (1, .ref (cAf B (1 + r))), (2, .int a2), (3, .int a3), (4, .int a4)] [.null]
                refine g_ifnullN 130 F dX4_canBeNumber_123 rfl ?_
                refine g_iconst 131 (v := 0) F dX4_canBeNumber_130 (by decide) rfl ?_
                refine g_goto 139 F dX4_canBeNumber_131 rfl ?_
                obtain rfl := Option.some.inj hf
                exact hR _ _ dX4_canBeNumber_139
              · subst e15
                have hj14 : h j14 = true := find_has e13
                change G K (cX B (kA K) sa h lk) 0 0 123 S [(0, .ref (cAf B 13)), (1, .ref (cAf B (1 + r))), (2, .int a2), (3, .int a3), (4, .int a4)] [.ref (sa (5 * j14))]
                refine g_ifnull 126 F dX4_canBeNumber_123 rfl ?_
                refine g_iconst 127 (v := 1) F dX4_canBeNumber_126 (by decide) rfl ?_
                refine g_goto 139 F dX4_canBeNumber_127 rfl ?_
                obtain rfl := Option.some.inj hf
                exact hR _ _ dX4_canBeNumber_139
          · refine g_tabD 140 F dX4_canBeNumber_1 (by have := lv_neT c1 (by decide : (0 : Int32).toInt = 0); have := lv_neT c2 (by decide : (1 : Int32).toInt = 1); have := lv_neT c5 (by decide : (2 : Int32).toInt = 2); have := lv_neT c6 (by decide : (3 : Int32).toInt = 3); have := lv_neT c11 (by decide : (4 : Int32).toInt = 4); omega) rfl ?_
            refine g_iload_n 141 3 F dX4_canBeNumber_140 rfl rfl ?_
            refine g_if_ne 161 144 F dX4_canBeNumber_141 rfl rfl hf (fun _ hf => ?_) (fun _ hf => ?_)
            · refine g_aload_n 162 0 F dX4_canBeNumber_161 rfl rfl ?_
              refine g_aload_n 163 1 F dX4_canBeNumber_162 rfl rfl ?_
              refine g_iload 165 4 F dX4_canBeNumber_163 rfl rfl ?_
              obtain ⟨q16, e17, hf⟩ := op_bd hf
              refine g_cVi 168 (st := []) F hok (c_X4_isFailure (kl K) B sa h lk hw (kA K) S r a4 hr q16 e17) wy_X4_isFailure ml_X4_121 (c_rc_X4 F) ⟨Nat.le_of_ble_eq_true rfl, Nat.le_of_ble_eq_true rfl⟩ rfl rfl (Nat.le_of_ble_eq_true rfl) ⟨Nat.zero_le _, Nat.zero_le _⟩ dX4_canBeNumber_165 rfl ?_
              obtain rfl := Option.some.inj hf
              exact hR _ _ dX4_canBeNumber_168
            · refine g_aload_n 145 1 F dX4_canBeNumber_144 rfl rfl ?_
              refine g_iload 147 4 F dX4_canBeNumber_145 rfl rfl ?_
              obtain ⟨q18, e19, hf⟩ := op_bd hf
              refine g_cVq 150 (st := []) F hok (c_X0_find (kl K) B sa h lk hw (kA K) S r a4 hr q18 e19) wy_X0_find ml_X4_109 (c_rc_X0 F hr) ⟨Nat.le_of_ble_eq_true rfl, Nat.le_of_ble_eq_true rfl⟩ rfl rfl (Nat.le_of_ble_eq_true rfl) ⟨Nat.zero_le _, Nat.zero_le _⟩ dX4_canBeNumber_147 rfl ?_
              rcases op_oc hf with ⟨e21, hf⟩ | ⟨j20, e21, hf⟩
              · subst e21
                change G K (cX B (kA K) sa h lk) 0 0 150 S [(0, .ref (cAf B 13)), (1, .ref (cAf B (1 + r))), (2, .int a2), (3, .int a3), (4, .int a4)] [.null]
                refine g_ifnullN 157 F dX4_canBeNumber_150 rfl ?_
                refine g_iconst 158 (v := 0) F dX4_canBeNumber_157 (by decide) rfl ?_
                refine g_goto 168 F dX4_canBeNumber_158 rfl ?_
                obtain rfl := Option.some.inj hf
                exact hR _ _ dX4_canBeNumber_168
              · subst e21
                have hj20 : h j20 = true := find_has e19
                change G K (cX B (kA K) sa h lk) 0 0 150 S [(0, .ref (cAf B 13)), (1, .ref (cAf B (1 + r))), (2, .int a2), (3, .int a3), (4, .int a4)] [.ref (sa (5 * j20))]
                refine g_ifnull 153 F dX4_canBeNumber_150 rfl ?_
                refine g_iconst 154 (v := 1) F dX4_canBeNumber_153 (by decide) rfl ?_
                refine g_goto 168 F dX4_canBeNumber_154 rfl ?_
                obtain rfl := Option.some.inj hf
                exact hR _ _ dX4_canBeNumber_168
theorem c_X4_canBeNumber (l : Launch) (B : CB) (sa : Nat → Nat) (h : Nat → Bool) (lk : Nat × Nat) (hw : cWf h lk) (A : Nat → Prop) (S : CS) (r : Nat) (a2 : Int32) (a3 : Int32) (a4 : Int32) (hr : r < 2) (q : Bool) (hf : f_X4_canBeNumber h S r a2 a3 a4 = some q) : Ci l yX4_canBeNumber cX4_canBeNumber 5 (some .boolean) 2 44 (cX B A sa h lk) (cKf B A) A S [.ref (cAf B 13), .ref (cAf B (1 + r)), .int a2, .int a3, .int a4] (bI q) S := by
  refine met_z (by decide +kernel) (Nat.le_of_ble_eq_true rfl) (fun K hl hA hn F hR => ?_)
  subst hl; subst hA
  exact w_X4_canBeNumber B sa h lk hw K F hn S r a2 a3 a4 hr q hf hR
set_option maxHeartbeats 4000000 in
set_option maxRecDepth 100000 in
theorem w_X4_readNumbers (B : CB) (sa : Nat → Nat) (h : Nat → Bool) (lk : Nat × Nat) (hw : cWf h lk) (K : Ctx) (F : Fx K cX4_readNumbers RX4 (cKf B (kA K)) 3 68) (hn : kn K = 5) (S : CS) (r : Nat) (a2 : Int32) (hr : r < 2) (q : Bool × CS) (hf : f_X4_readNumbers h S r a2 = some q) (hR : ∀ (pc : Nat) (lv : List (Nat × Value)), decode cX4_readNumbers pc = .ok (.ireturn, 1) → G K (cX B (kA K) sa h lk) 0 0 pc q.2 lv [.int (bI q.1)]) : G K (cX B (kA K) sa h lk) 0 0 0 S [(0, .ref (cAf B 13)), (1, .ref (cAf B (1 + r))), (2, .int a2)] [] := by
  have hok := cKf_ok B (kA K)
  have L_9 : ∀ (n : Nat) (S : CS) (x2 : Int32) (x3 : Int32) (x4 : Int32), l_X4_readNumbers_9 h r n S x2 x3 x4 = some q → G K (cX B (kA K) sa h lk) 0 0 9 S [(0, .ref (cAf B 13)), (1, .ref (cAf B (1 + r))), (2, .int x2), (3, .int x3), (4, .int x4)] [] := by
    intro n
    induction n with
    | zero =>
      intro S x2 x3 x4 hf
      rw [l_X4_readNumbers_9] at hf
      cases hf
    | succ n ih =>
      intro S x2 x3 x4 hf
      rw [l_X4_readNumbers_9] at hf
      refine g_iload 11 4 F dX4_readNumbers_9 rfl rfl ?_
      refine g_iload_n 12 3 F dX4_readNumbers_11 rfl rfl ?_
      refine g_icmp_ge 103 15 F dX4_readNumbers_12 rfl rfl hf (fun _ hf => ?_) (fun _ hf => ?_)
      · refine g_iconst 104 (v := 1) F dX4_readNumbers_103 (by decide) rfl ?_
        obtain rfl := Option.some.inj hf
        exact hR _ _ dX4_readNumbers_104
      · refine g_iload 17 4 F dX4_readNumbers_15 rfl rfl ?_
        refine g_iconst 18 (v := 5) F dX4_readNumbers_17 (by decide) rfl ?_
        refine g_icmp_ge 103 21 F dX4_readNumbers_18 rfl rfl hf (fun _ hf => ?_) (fun _ hf => ?_)
        · refine g_iconst 104 (v := 1) F dX4_readNumbers_103 (by decide) rfl ?_
          obtain rfl := Option.some.inj hf
          exact hR _ _ dX4_readNumbers_104
        · refine g_aload_n 22 0 F dX4_readNumbers_21 rfl rfl ?_
          refine cg_X4_tape 25 F fl_X4_15 dX4_readNumbers_22 rfl ?_
          obtain ⟨q2, e3, hf⟩ := op_bd hf
          refine g_cVv 28 (st := []) F hok (c_X3_readToken (kl K) B sa h lk hw (kA K) S q2 e3) wy_X3_readToken ml_X4_28 (c_rc_X3 F) ⟨Nat.le_of_ble_eq_true rfl, Nat.le_of_ble_eq_true rfl⟩ rfl rfl (Nat.le_of_ble_eq_true rfl) ⟨Nat.zero_le _, Nat.zero_le _⟩ dX4_readNumbers_25 rfl ?_
          refine g_aload_n 29 0 F dX4_readNumbers_28 rfl rfl ?_
          refine cg_X4_tape 32 F fl_X4_15 dX4_readNumbers_29 rfl ?_
          refine cg_X3_token 35 F fl_X4_31 dX4_readNumbers_32 rfl ?_
          refine g_iconst 36 (v := 2) F dX4_readNumbers_35 (by decide) rfl ?_
          refine g_icmp_eq 52 39 F dX4_readNumbers_36 rfl rfl hf (fun _ hf => ?_) (fun _ hf => ?_)
          · refine g_aload_n 53 0 F dX4_readNumbers_52 rfl rfl ?_
            refine g_aload_n 54 1 F dX4_readNumbers_53 rfl rfl ?_
            refine g_iload_n 55 2 F dX4_readNumbers_54 rfl rfl ?_
            refine g_iload 57 4 F dX4_readNumbers_55 rfl rfl ?_
            refine g_aload_n 58 0 F dX4_readNumbers_57 rfl rfl ?_
            refine cg_X4_tape 61 F fl_X4_15 dX4_readNumbers_58 rfl ?_
            refine cg_X3_value 64 F fl_X4_79 dX4_readNumbers_61 rfl ?_
            obtain ⟨q4, e5, hf⟩ := op_bd hf
            refine g_cVi 67 (st := []) F hok (c_X4_canBeNumber (kl K) B sa h lk hw (kA K) q2 r x2 x4 (cF q2 11) hr q4 e5) wy_X4_canBeNumber ml_X4_82 (c_rc_X4 F) ⟨Nat.le_of_ble_eq_true rfl, Nat.le_of_ble_eq_true rfl⟩ rfl rfl (Nat.le_of_ble_eq_true rfl) ⟨Nat.zero_le _, Nat.zero_le _⟩ dX4_readNumbers_64 rfl ?_
            refine g_ifne_b 83 70 F dX4_readNumbers_67 rfl rfl hf (fun _ hf => ?_) (fun _ hf => ?_)
            · refine g_aload_n 84 0 F dX4_readNumbers_83 rfl rfl ?_
              refine cg_X4_numbers 87 F fl_X4_11 dX4_readNumbers_84 rfl ?_
              refine g_iload 89 4 F dX4_readNumbers_87 rfl rfl ?_
              refine g_aload_n 90 0 F dX4_readNumbers_89 rfl rfl ?_
              refine cg_X4_tape 93 F fl_X4_15 dX4_readNumbers_90 rfl ?_
              refine cg_X3_value 96 F fl_X4_79 dX4_readNumbers_93 rfl ?_
              obtain ⟨h6, hf⟩ := op_ok hf
              refine cs_A6 97 F h6 dX4_readNumbers_96 rfl ?_
              refine g_iinc 100 4 (x4 + 1) [(4, .int (x4 + 1)), (0, .ref (cAf B 13)), (1, .ref (cAf B (1 + r))), (2, .int x2), (3, .int x3)] F dX4_readNumbers_97 rfl rfl (lt_kn hn (by decide)) rfl rfl ?_
              refine g_goto 9 F dX4_readNumbers_100 rfl ?_
              exact G.lvs [1, 2, 3, 4, 0] rfl (ih (sA q2 6 x4.toNatClampNeg (cF q2 11)) x2 x3 (x4 + 1) hf)
            · refine g_aload_n 71 0 F dX4_readNumbers_70 rfl rfl ?_
              refine g_iconst 72 (v := 2) F dX4_readNumbers_71 (by decide) rfl ?_
              refine g_aload_n 73 0 F dX4_readNumbers_72 rfl rfl ?_
              refine cg_X4_tape 76 F fl_X4_15 dX4_readNumbers_73 rfl ?_
              refine cg_X3_first 79 F fl_X4_38 dX4_readNumbers_76 rfl ?_
              refine g_cVi 82 (st := []) F hok (c_X4_refuse (kl K) B sa h lk hw (kA K) q2 2 (cF q2 10) _ rfl) wy_X4_refuse ml_X4_45 (c_rc_X4 F) ⟨Nat.le_of_ble_eq_true rfl, Nat.le_of_ble_eq_true rfl⟩ rfl rfl (Nat.le_of_ble_eq_true rfl) ⟨Nat.zero_le _, Nat.zero_le _⟩ dX4_readNumbers_79 rfl ?_
              obtain rfl := Option.some.inj hf
              exact hR _ _ dX4_readNumbers_82
          · refine g_aload_n 40 0 F dX4_readNumbers_39 rfl rfl ?_
            refine g_iconst 41 (v := 1) F dX4_readNumbers_40 (by decide) rfl ?_
            refine g_aload_n 42 0 F dX4_readNumbers_41 rfl rfl ?_
            refine cg_X4_tape 45 F fl_X4_15 dX4_readNumbers_42 rfl ?_
            refine cg_X3_first 48 F fl_X4_38 dX4_readNumbers_45 rfl ?_
            refine g_cVi 51 (st := []) F hok (c_X4_refuse (kl K) B sa h lk hw (kA K) q2 1 (cF q2 10) _ rfl) wy_X4_refuse ml_X4_45 (c_rc_X4 F) ⟨Nat.le_of_ble_eq_true rfl, Nat.le_of_ble_eq_true rfl⟩ rfl rfl (Nat.le_of_ble_eq_true rfl) ⟨Nat.zero_le _, Nat.zero_le _⟩ dX4_readNumbers_48 rfl ?_
            obtain rfl := Option.some.inj hf
            exact hR _ _ dX4_readNumbers_51
  unfold f_X4_readNumbers at hf
  refine c_gets 3 F F.2.2.2.2.2.1.2.2.1.2.2.2.1 fl_X4_76 dX4_readNumbers_0 rfl ?_
  refine g_iload_n 4 2 F dX4_readNumbers_3 rfl rfl ?_
  obtain ⟨h1, hf⟩ := op_ok hf
  refine c_tld 5 (f := cTab 3) F F.2.2.2.2.2.1.2.2.1.2.2.2.2 h1 dX4_readNumbers_4 rfl ?_
  refine g_istore_n 6 [(3, .int (cTab 3 a2.toNatClampNeg)), (0, .ref (cAf B 13)), (1, .ref (cAf B (1 + r))), (2, .int a2)] F dX4_readNumbers_5 (lt_kn hn (by decide)) rfl rfl ?_
  refine g_iconst 7 (v := 0) F dX4_readNumbers_6 (by decide) rfl ?_
  refine g_istore 9 [(4, .int 0), (3, .int (cTab 3 a2.toNatClampNeg)), (0, .ref (cAf B 13)), (1, .ref (cAf B (1 + r))), (2, .int a2)] F dX4_readNumbers_7 (lt_kn hn (by decide)) rfl rfl ?_
  exact G.lvs [2, 3, 4, 1, 0] rfl (L_9 fu S a2 (cTab 3 a2.toNatClampNeg) 0 hf)
theorem c_X4_readNumbers (l : Launch) (B : CB) (sa : Nat → Nat) (h : Nat → Bool) (lk : Nat × Nat) (hw : cWf h lk) (A : Nat → Prop) (S : CS) (r : Nat) (a2 : Int32) (hr : r < 2) (q : Bool × CS) (hf : f_X4_readNumbers h S r a2 = some q) : Ci l yX4_readNumbers cX4_readNumbers 5 (some .boolean) 3 68 (cX B A sa h lk) (cKf B A) A S [.ref (cAf B 13), .ref (cAf B (1 + r)), .int a2] (bI q.1) q.2 := by
  refine met_z (by decide +kernel) (Nat.le_of_ble_eq_true rfl) (fun K hl hA hn F hR => ?_)
  subst hl; subst hA
  exact w_X4_readNumbers B sa h lk hw K F hn S r a2 hr q hf hR
set_option maxHeartbeats 4000000 in
set_option maxRecDepth 100000 in
theorem w_X4_readOutcome (B : CB) (sa : Nat → Nat) (h : Nat → Bool) (lk : Nat × Nat) (hw : cWf h lk) (K : Ctx) (F : Fx K cX4_readOutcome RX4 (cKf B (kA K)) 5 107) (hn : kn K = 1) (S : CS) (q : Bool × CS) (hf : f_X4_readOutcome S = some q) (hR : ∀ (pc : Nat) (lv : List (Nat × Value)), decode cX4_readOutcome pc = .ok (.ireturn, 1) → G K (cX B (kA K) sa h lk) 0 0 pc q.2 lv [.int (bI q.1)]) : G K (cX B (kA K) sa h lk) 0 0 0 S [(0, .ref (cAf B 13))] [] := by
  have hok := cKf_ok B (kA K)
  unfold f_X4_readOutcome at hf
  refine g_aload_n 1 0 F dX4_readOutcome_0 rfl rfl ?_
  refine cg_X4_tape 4 F fl_X4_15 dX4_readOutcome_1 rfl ?_
  obtain ⟨q1, e2, hf⟩ := op_bd hf
  refine g_cVv 7 (st := []) F hok (c_X3_readToken (kl K) B sa h lk hw (kA K) S q1 e2) wy_X3_readToken ml_X4_28 (c_rc_X3 F) ⟨Nat.le_of_ble_eq_true rfl, Nat.le_of_ble_eq_true rfl⟩ rfl rfl (Nat.le_of_ble_eq_true rfl) ⟨Nat.zero_le _, Nat.zero_le _⟩ dX4_readOutcome_4 rfl ?_
  refine g_aload_n 8 0 F dX4_readOutcome_7 rfl rfl ?_
  refine g_aload_n 9 0 F dX4_readOutcome_8 rfl rfl ?_
  refine cg_X4_tape 12 F fl_X4_15 dX4_readOutcome_9 rfl ?_
  refine c_ldcS (i := 6) 14 F (by decide) (by decide) (by decide) dX4_readOutcome_12 rfl ?_
  obtain ⟨q3, e4, hf⟩ := op_bd hf
  refine g_cVi 17 (st := [.ref (cAf B 13)]) F hok (c_X3_isWord (kl K) B sa h lk hw (kA K) q1 6 (by decide) q3 e4) wy_X3_isWord ml_X4_62 (c_rc_X3 F) ⟨Nat.le_of_ble_eq_true rfl, Nat.le_of_ble_eq_true rfl⟩ rfl rfl (Nat.le_of_ble_eq_true rfl) ⟨Nat.zero_le _, Nat.zero_le _⟩ dX4_readOutcome_14 rfl ?_
  refine cp_X4_found 20 F fl_X4_88 dX4_readOutcome_17 rfl ?_
  refine g_aload_n 21 0 F dX4_readOutcome_20 rfl rfl ?_
  refine cg_X4_found 24 F fl_X4_88 dX4_readOutcome_21 rfl ?_
  refine g_if_ne 54 27 F dX4_readOutcome_24 rfl rfl hf (fun _ hf => ?_) (fun _ hf => ?_)
  · refine g_iconst 55 (v := 1) F dX4_readOutcome_54 (by decide) rfl ?_
    refine g_goto 59 F dX4_readOutcome_55 rfl ?_
    obtain rfl := Option.some.inj hf
    exact hR _ _ dX4_readOutcome_59
  · refine g_aload_n 28 0 F dX4_readOutcome_27 rfl rfl ?_
    refine cg_X4_tape 31 F fl_X4_15 dX4_readOutcome_28 rfl ?_
    refine c_ldcS (i := 7) 33 F (by decide) (by decide) (by decide) dX4_readOutcome_31 rfl ?_
    obtain ⟨q5, e6, hf⟩ := op_bd hf
    refine g_cVi 36 (st := []) F hok (c_X3_isWord (kl K) B sa h lk hw (kA K) (sF q1 14 (bI q3)) 7 (by decide) q5 e6) wy_X3_isWord ml_X4_62 (c_rc_X3 F) ⟨Nat.le_of_ble_eq_true rfl, Nat.le_of_ble_eq_true rfl⟩ rfl rfl (Nat.le_of_ble_eq_true rfl) ⟨Nat.zero_le _, Nat.zero_le _⟩ dX4_readOutcome_33 rfl ?_
    refine g_ifne_b 54 39 F dX4_readOutcome_36 rfl rfl hf (fun _ hf => ?_) (fun _ hf => ?_)
    · refine g_iconst 55 (v := 1) F dX4_readOutcome_54 (by decide) rfl ?_
      refine g_goto 59 F dX4_readOutcome_55 rfl ?_
      obtain rfl := Option.some.inj hf
      exact hR _ _ dX4_readOutcome_59
    · refine g_aload_n 40 0 F dX4_readOutcome_39 rfl rfl ?_
      refine g_iconst 41 (v := 1) F dX4_readOutcome_40 (by decide) rfl ?_
      refine g_aload_n 42 0 F dX4_readOutcome_41 rfl rfl ?_
      refine cg_X4_tape 45 F fl_X4_15 dX4_readOutcome_42 rfl ?_
      refine cg_X3_first 48 F fl_X4_38 dX4_readOutcome_45 rfl ?_
      refine g_cVi 51 (st := []) F hok (c_X4_refuse (kl K) B sa h lk hw (kA K) (sF q1 14 (bI q3)) 1 (cF (sF q1 14 (bI q3)) 10) _ rfl) wy_X4_refuse ml_X4_45 (c_rc_X4 F) ⟨Nat.le_of_ble_eq_true rfl, Nat.le_of_ble_eq_true rfl⟩ rfl rfl (Nat.le_of_ble_eq_true rfl) ⟨Nat.zero_le _, Nat.zero_le _⟩ dX4_readOutcome_48 rfl ?_
      refine g_ifeq_b 58 54 F dX4_readOutcome_51 rfl rfl hf (fun _ hf => ?_) (fun _ hf => ?_)
      · refine g_iconst 59 (v := 0) F dX4_readOutcome_58 (by decide) rfl ?_
        obtain rfl := Option.some.inj hf
        exact hR _ _ dX4_readOutcome_59
      · refine g_iconst 55 (v := 1) F dX4_readOutcome_54 (by decide) rfl ?_
        refine g_goto 59 F dX4_readOutcome_55 rfl ?_
        obtain rfl := Option.some.inj hf
        exact hR _ _ dX4_readOutcome_59
theorem c_X4_readOutcome (l : Launch) (B : CB) (sa : Nat → Nat) (h : Nat → Bool) (lk : Nat × Nat) (hw : cWf h lk) (A : Nat → Prop) (S : CS) (q : Bool × CS) (hf : f_X4_readOutcome S = some q) : Ci l yX4_readOutcome cX4_readOutcome 1 (some .boolean) 5 107 (cX B A sa h lk) (cKf B A) A S [.ref (cAf B 13)] (bI q.1) q.2 := by
  refine met_z (by decide +kernel) (Nat.le_of_ble_eq_true rfl) (fun K hl hA hn F hR => ?_)
  subst hl; subst hA
  exact w_X4_readOutcome B sa h lk hw K F hn S q hf hR
set_option maxHeartbeats 4000000 in
set_option maxRecDepth 100000 in
theorem w_X5_feed (B : CB) (sa : Nat → Nat) (h : Nat → Bool) (lk : Nat × Nat) (hw : cWf h lk) (K : Ctx) (F : Fx K cX5_feed RX5 (cKf B (kA K)) 1 22) (hn : kn K = 6) (S : CS) (a1 : Int32) (a2 : Int32) (a3 : Int32) (a4 : Int32) (a5 : Int32) (q : Int32 × CS) (hf : f_X5_feed S a1 a2 a3 a4 a5 = some q) (hR : ∀ (pc : Nat) (lv : List (Nat × Value)), decode cX5_feed pc = .ok (.ireturn, 1) → G K (cX B (kA K) sa h lk) 0 0 pc q.2 lv [.int q.1]) : G K (cX B (kA K) sa h lk) 0 0 0 S [(0, .ref (cAf B 0)), (1, .int a1), (2, .int a2), (3, .int a3), (4, .int a4), (5, .int a5)] [] := by
  have hok := cKf_ok B (kA K)
  unfold f_X5_feed at hf
  refine g_aload_n 1 0 F dX5_feed_0 rfl rfl ?_
  refine cg_X5_tape 4 F fl_X5_29 dX5_feed_1 rfl ?_
  refine g_cVi 7 (st := []) F hok (c_X3_hasRoomForFive (kl K) B sa h lk hw (kA K) S _ rfl) wy_X3_hasRoomForFive ml_X5_50 (c_rc_X3 F) ⟨Nat.le_of_ble_eq_true rfl, Nat.le_of_ble_eq_true rfl⟩ rfl rfl (Nat.le_of_ble_eq_true rfl) ⟨Nat.zero_le _, Nat.zero_le _⟩ dX5_feed_4 rfl ?_
  refine g_ifne_b 12 10 F dX5_feed_7 rfl rfl hf (fun _ hf => ?_) (fun _ hf => ?_)
  · refine g_aload_n 13 0 F dX5_feed_12 rfl rfl ?_
    refine cg_X5_tape 16 F fl_X5_29 dX5_feed_13 rfl ?_
    refine g_iload_n 17 1 F dX5_feed_16 rfl rfl ?_
    obtain ⟨q1, e2, hf⟩ := op_bd hf
    refine g_cVv 20 (st := []) F hok (c_X3_put (kl K) B sa h lk hw (kA K) S a1 q1 e2) wy_X3_put ml_X5_54 (c_rc_X3 F) ⟨Nat.le_of_ble_eq_true rfl, Nat.le_of_ble_eq_true rfl⟩ rfl rfl (Nat.le_of_ble_eq_true rfl) ⟨Nat.zero_le _, Nat.zero_le _⟩ dX5_feed_17 rfl ?_
    refine g_aload_n 21 0 F dX5_feed_20 rfl rfl ?_
    refine cg_X5_tape 24 F fl_X5_29 dX5_feed_21 rfl ?_
    refine g_iload_n 25 2 F dX5_feed_24 rfl rfl ?_
    obtain ⟨q3, e4, hf⟩ := op_bd hf
    refine g_cVv 28 (st := []) F hok (c_X3_put (kl K) B sa h lk hw (kA K) q1 a2 q3 e4) wy_X3_put ml_X5_54 (c_rc_X3 F) ⟨Nat.le_of_ble_eq_true rfl, Nat.le_of_ble_eq_true rfl⟩ rfl rfl (Nat.le_of_ble_eq_true rfl) ⟨Nat.zero_le _, Nat.zero_le _⟩ dX5_feed_25 rfl ?_
    refine g_aload_n 29 0 F dX5_feed_28 rfl rfl ?_
    refine cg_X5_tape 32 F fl_X5_29 dX5_feed_29 rfl ?_
    refine g_iload_n 33 3 F dX5_feed_32 rfl rfl ?_
    obtain ⟨q5, e6, hf⟩ := op_bd hf
    refine g_cVv 36 (st := []) F hok (c_X3_put (kl K) B sa h lk hw (kA K) q3 a3 q5 e6) wy_X3_put ml_X5_54 (c_rc_X3 F) ⟨Nat.le_of_ble_eq_true rfl, Nat.le_of_ble_eq_true rfl⟩ rfl rfl (Nat.le_of_ble_eq_true rfl) ⟨Nat.zero_le _, Nat.zero_le _⟩ dX5_feed_33 rfl ?_
    refine g_aload_n 37 0 F dX5_feed_36 rfl rfl ?_
    refine cg_X5_tape 40 F fl_X5_29 dX5_feed_37 rfl ?_
    refine g_iload 42 4 F dX5_feed_40 rfl rfl ?_
    obtain ⟨q7, e8, hf⟩ := op_bd hf
    refine g_cVv 45 (st := []) F hok (c_X3_put (kl K) B sa h lk hw (kA K) q5 a4 q7 e8) wy_X3_put ml_X5_54 (c_rc_X3 F) ⟨Nat.le_of_ble_eq_true rfl, Nat.le_of_ble_eq_true rfl⟩ rfl rfl (Nat.le_of_ble_eq_true rfl) ⟨Nat.zero_le _, Nat.zero_le _⟩ dX5_feed_42 rfl ?_
    refine g_aload_n 46 0 F dX5_feed_45 rfl rfl ?_
    refine cg_X5_tape 49 F fl_X5_29 dX5_feed_46 rfl ?_
    refine g_iload 51 5 F dX5_feed_49 rfl rfl ?_
    obtain ⟨q9, e10, hf⟩ := op_bd hf
    refine g_cVv 54 (st := []) F hok (c_X3_put (kl K) B sa h lk hw (kA K) q7 a5 q9 e10) wy_X3_put ml_X5_54 (c_rc_X3 F) ⟨Nat.le_of_ble_eq_true rfl, Nat.le_of_ble_eq_true rfl⟩ rfl rfl (Nat.le_of_ble_eq_true rfl) ⟨Nat.zero_le _, Nat.zero_le _⟩ dX5_feed_51 rfl ?_
    refine g_aload_n 55 0 F dX5_feed_54 rfl rfl ?_
    refine cg_X5_tape 58 F fl_X5_29 dX5_feed_55 rfl ?_
    refine cg_X3_size 61 F fl_X5_58 dX5_feed_58 rfl ?_
    obtain rfl := Option.some.inj hf
    exact hR _ _ dX5_feed_61
  · refine g_iconst 11 (v := (-1)) F dX5_feed_10 (by decide) rfl ?_
    obtain rfl := Option.some.inj hf
    exact hR _ _ dX5_feed_11
theorem c_X5_feed (l : Launch) (B : CB) (sa : Nat → Nat) (h : Nat → Bool) (lk : Nat × Nat) (hw : cWf h lk) (A : Nat → Prop) (S : CS) (a1 : Int32) (a2 : Int32) (a3 : Int32) (a4 : Int32) (a5 : Int32) (q : Int32 × CS) (hf : f_X5_feed S a1 a2 a3 a4 a5 = some q) : Ci l yX5_feed cX5_feed 6 (some .int) 1 22 (cX B A sa h lk) (cKf B A) A S [.ref (cAf B 0), .int a1, .int a2, .int a3, .int a4, .int a5] q.1 q.2 := by
  refine met_i (by decide +kernel) (Nat.le_of_ble_eq_true rfl) (fun K hl hA hn F hR => ?_)
  subst hl; subst hA
  exact w_X5_feed B sa h lk hw K F hn S a1 a2 a3 a4 a5 q hf hR
set_option maxHeartbeats 4000000 in
set_option maxRecDepth 100000 in
theorem w_X5_end (B : CB) (sa : Nat → Nat) (h : Nat → Bool) (lk : Nat × Nat) (hw : cWf h lk) (K : Ctx) (F : Fx K cX5_end RX5 (cKf B (kA K)) 0 0) (hn : kn K = 2) (S : CS) (a1 : Int32) (q : Bool × CS) (hf : f_X5_end S a1 = q) (hR : ∀ (pc : Nat) (lv : List (Nat × Value)), decode cX5_end pc = .ok (.ireturn, 1) → G K (cX B (kA K) sa h lk) 0 0 pc q.2 lv [.int (bI q.1)]) : G K (cX B (kA K) sa h lk) 0 0 0 S [(0, .ref (cAf B 0)), (1, .int a1)] [] := by
  have hok := cKf_ok B (kA K)
  unfold f_X5_end at hf
  refine g_iload_n 1 1 F dX5_end_0 rfl rfl ?_
  refine g_if_lt 15 4 F dX5_end_1 rfl rfl hf (fun _ hf => ?_) (fun _ hf => ?_)
  · refine g_iconst 16 (v := 0) F dX5_end_15 (by decide) rfl ?_
    subst hf
    exact hR _ _ dX5_end_16
  · refine g_iload_n 5 1 F dX5_end_4 rfl rfl ?_
    refine g_aload_n 6 0 F dX5_end_5 rfl rfl ?_
    refine cg_X5_tape 9 F fl_X5_29 dX5_end_6 rfl ?_
    refine cg_X3_size 12 F fl_X5_58 dX5_end_9 rfl ?_
    refine g_icmp_le 17 15 F dX5_end_12 rfl rfl hf (fun _ hf => ?_) (fun _ hf => ?_)
    · refine g_aload_n 18 0 F dX5_end_17 rfl rfl ?_
      refine cg_X5_tape 21 F fl_X5_29 dX5_end_18 rfl ?_
      refine g_iload_n 22 1 F dX5_end_21 rfl rfl ?_
      refine cp_X3_size 25 F fl_X5_58 dX5_end_22 rfl ?_
      refine g_iconst 26 (v := 1) F dX5_end_25 (by decide) rfl ?_
      subst hf
      exact hR _ _ dX5_end_26
    · refine g_iconst 16 (v := 0) F dX5_end_15 (by decide) rfl ?_
      subst hf
      exact hR _ _ dX5_end_16
theorem c_X5_end (l : Launch) (B : CB) (sa : Nat → Nat) (h : Nat → Bool) (lk : Nat × Nat) (hw : cWf h lk) (A : Nat → Prop) (S : CS) (a1 : Int32) (q : Bool × CS) (hf : f_X5_end S a1 = q) : Ci l yX5_end cX5_end 2 (some .boolean) 0 0 (cX B A sa h lk) (cKf B A) A S [.ref (cAf B 0), .int a1] (bI q.1) q.2 := by
  refine met_z (by decide +kernel) (Nat.le_of_ble_eq_true rfl) (fun K hl hA hn F hR => ?_)
  subst hl; subst hA
  exact w_X5_end B sa h lk hw K F hn S a1 q hf hR
set_option maxHeartbeats 4000000 in
set_option maxRecDepth 100000 in
theorem w_X5_fault (B : CB) (sa : Nat → Nat) (h : Nat → Bool) (lk : Nat × Nat) (hw : cWf h lk) (K : Ctx) (F : Fx K cX5_fault RX5 (cKf B (kA K)) 0 0) (hn : kn K = 1) (S : CS) (q : Int32) (hf : f_X5_fault S = q) (hR : ∀ (pc : Nat) (lv : List (Nat × Value)), decode cX5_fault pc = .ok (.ireturn, 1) → G K (cX B (kA K) sa h lk) 0 0 pc S lv [.int q]) : G K (cX B (kA K) sa h lk) 0 0 0 S [(0, .ref (cAf B 0))] [] := by
  have hok := cKf_ok B (kA K)
  unfold f_X5_fault at hf
  refine g_aload_n 1 0 F dX5_fault_0 rfl rfl ?_
  refine cg_X5_latestFault 4 F fl_X5_46 dX5_fault_1 rfl ?_
  subst hf
  exact hR _ _ dX5_fault_4
theorem c_X5_fault (l : Launch) (B : CB) (sa : Nat → Nat) (h : Nat → Bool) (lk : Nat × Nat) (hw : cWf h lk) (A : Nat → Prop) (S : CS) (q : Int32) (hf : f_X5_fault S = q) : Ci l yX5_fault cX5_fault 1 (some .int) 0 0 (cX B A sa h lk) (cKf B A) A S [.ref (cAf B 0)] q S := by
  refine met_i (by decide +kernel) (Nat.le_of_ble_eq_true rfl) (fun K hl hA hn F hR => ?_)
  subst hl; subst hA
  exact w_X5_fault B sa h lk hw K F hn S q hf hR
set_option maxHeartbeats 4000000 in
set_option maxRecDepth 100000 in
theorem w_X5_set (B : CB) (sa : Nat → Nat) (h : Nat → Bool) (lk : Nat × Nat) (hw : cWf h lk) (K : Ctx) (F : Fx K cX5_set RX5 (cKf B (kA K)) 3 63) (hn : kn K = 3) (S : CS) (a1 : Int32) (a2 : Int32) (q : Bool × CS) (hf : f_X5_set lk S a1 a2 = some q) (hR : ∀ (pc : Nat) (lv : List (Nat × Value)), decode cX5_set pc = .ok (.ireturn, 1) → G K (cX B (kA K) sa h lk) 0 0 pc q.2 lv [.int (bI q.1)]) : G K (cX B (kA K) sa h lk) 0 0 0 S [(0, .ref (cAf B 0)), (1, .int a1), (2, .int a2)] [] := by
  have hok := cKf_ok B (kA K)
  unfold f_X5_set at hf
  refine g_aload_n 1 0 F dX5_set_0 rfl rfl ?_
  refine cg_X5_live 4 F fl_X5_10 dX5_set_1 rfl ?_
  refine g_iload_n 5 1 F dX5_set_4 rfl rfl ?_
  refine g_iload_n 6 2 F dX5_set_5 rfl rfl ?_
  obtain ⟨q1, e2, hf⟩ := op_bd hf
  refine g_cVi 9 (st := []) F hok (c_X0_change (kl K) B sa h lk hw (kA K) S lk.1 a1 a2 hw.1 q1 e2) wy_X0_change ml_X5_76 (c_rc_X0 F hw.1) ⟨Nat.le_of_ble_eq_true rfl, Nat.le_of_ble_eq_true rfl⟩ rfl rfl (Nat.le_of_ble_eq_true rfl) ⟨Nat.zero_le _, Nat.zero_le _⟩ dX5_set_6 rfl ?_
  obtain rfl := Option.some.inj hf
  exact hR _ _ dX5_set_9
theorem c_X5_set (l : Launch) (B : CB) (sa : Nat → Nat) (h : Nat → Bool) (lk : Nat × Nat) (hw : cWf h lk) (A : Nat → Prop) (S : CS) (a1 : Int32) (a2 : Int32) (q : Bool × CS) (hf : f_X5_set lk S a1 a2 = some q) : Ci l yX5_set cX5_set 3 (some .boolean) 3 63 (cX B A sa h lk) (cKf B A) A S [.ref (cAf B 0), .int a1, .int a2] (bI q.1) q.2 := by
  refine met_z (by decide +kernel) (Nat.le_of_ble_eq_true rfl) (fun K hl hA hn F hR => ?_)
  subst hl; subst hA
  exact w_X5_set B sa h lk hw K F hn S a1 a2 q hf hR
set_option maxHeartbeats 4000000 in
set_option maxRecDepth 100000 in
theorem w_X5_at (B : CB) (sa : Nat → Nat) (h : Nat → Bool) (lk : Nat × Nat) (hw : cWf h lk) (K : Ctx) (F : Fx K cX5_at RX5 (cKf B (kA K)) 3 72) (hn : kn K = 3) (S : CS) (a1 : Int32) (a2 : Int32) (q : Int32 × CS) (hf : f_X5_at h lk S a1 a2 = some q) (hR : ∀ (pc : Nat) (lv : List (Nat × Value)), decode cX5_at pc = .ok (.ireturn, 1) → G K (cX B (kA K) sa h lk) 0 0 pc q.2 lv [.int q.1]) : G K (cX B (kA K) sa h lk) 0 0 0 S [(0, .ref (cAf B 0)), (1, .int a1), (2, .int a2)] [] := by
  have hok := cKf_ok B (kA K)
  unfold f_X5_at at hf
  refine g_aload_n 1 0 F dX5_at_0 rfl rfl ?_
  refine cg_X5_live 4 F fl_X5_10 dX5_at_1 rfl ?_
  refine g_iload_n 5 1 F dX5_at_4 rfl rfl ?_
  refine g_iload_n 6 2 F dX5_at_5 rfl rfl ?_
  obtain ⟨q1, e2, hf⟩ := op_bd hf
  refine g_cVi 9 (st := []) F hok (c_X0_goOn (kl K) B sa h lk hw (kA K) S lk.1 a1 a2 hw.1 q1 e2) wy_X0_goOn ml_X5_80 (c_rc_X0 F hw.1) ⟨Nat.le_of_ble_eq_true rfl, Nat.le_of_ble_eq_true rfl⟩ rfl rfl (Nat.le_of_ble_eq_true rfl) ⟨Nat.zero_le _, Nat.zero_le _⟩ dX5_at_6 rfl ?_
  obtain rfl := Option.some.inj hf
  exact hR _ _ dX5_at_9
theorem c_X5_at (l : Launch) (B : CB) (sa : Nat → Nat) (h : Nat → Bool) (lk : Nat × Nat) (hw : cWf h lk) (A : Nat → Prop) (S : CS) (a1 : Int32) (a2 : Int32) (q : Int32 × CS) (hf : f_X5_at h lk S a1 a2 = some q) : Ci l yX5_at cX5_at 3 (some .int) 3 72 (cX B A sa h lk) (cKf B A) A S [.ref (cAf B 0), .int a1, .int a2] q.1 q.2 := by
  refine met_i (by decide +kernel) (Nat.le_of_ble_eq_true rfl) (fun K hl hA hn F hR => ?_)
  subst hl; subst hA
  exact w_X5_at B sa h lk hw K F hn S a1 a2 q hf hR
set_option maxHeartbeats 4000000 in
set_option maxRecDepth 100000 in
theorem w_X5_file (B : CB) (sa : Nat → Nat) (h : Nat → Bool) (lk : Nat × Nat) (hw : cWf h lk) (K : Ctx) (F : Fx K cX5_file RX5 (cKf B (kA K)) 3 75) (hn : kn K = 6) (S : CS) (a1 : Int32) (a2 : Int32) (a3 : Int32) (a4 : Int32) (a5 : Int32) (q : Int32 × CS) (hf : f_X5_file h lk S a1 a2 a3 a4 a5 = some q) (hR : ∀ (pc : Nat) (lv : List (Nat × Value)), decode cX5_file pc = .ok (.ireturn, 1) → G K (cX B (kA K) sa h lk) 0 0 pc q.2 lv [.int q.1]) : G K (cX B (kA K) sa h lk) 0 0 0 S [(0, .ref (cAf B 0)), (1, .int a1), (2, .int a2), (3, .int a3), (4, .int a4), (5, .int a5)] [] := by
  have hok := cKf_ok B (kA K)
  unfold f_X5_file at hf
  refine g_aload_n 1 0 F dX5_file_0 rfl rfl ?_
  refine cg_X5_live 4 F fl_X5_10 dX5_file_1 rfl ?_
  refine g_iload_n 5 1 F dX5_file_4 rfl rfl ?_
  refine g_iload_n 6 2 F dX5_file_5 rfl rfl ?_
  refine g_iload_n 7 3 F dX5_file_6 rfl rfl ?_
  refine g_iload 9 4 F dX5_file_7 rfl rfl ?_
  refine g_iload 11 5 F dX5_file_9 rfl rfl ?_
  obtain ⟨q1, e2, hf⟩ := op_bd hf
  refine g_cVi 14 (st := []) F hok (c_X0_enterSpan (kl K) B sa h lk hw (kA K) S lk.1 a1 a2 a3 a4 a5 hw.1 q1 e2) wy_X0_enterSpan ml_X5_84 (c_rc_X0 F hw.1) ⟨Nat.le_of_ble_eq_true rfl, Nat.le_of_ble_eq_true rfl⟩ rfl rfl (Nat.le_of_ble_eq_true rfl) ⟨Nat.zero_le _, Nat.zero_le _⟩ dX5_file_11 rfl ?_
  obtain rfl := Option.some.inj hf
  exact hR _ _ dX5_file_14
theorem c_X5_file (l : Launch) (B : CB) (sa : Nat → Nat) (h : Nat → Bool) (lk : Nat × Nat) (hw : cWf h lk) (A : Nat → Prop) (S : CS) (a1 : Int32) (a2 : Int32) (a3 : Int32) (a4 : Int32) (a5 : Int32) (q : Int32 × CS) (hf : f_X5_file h lk S a1 a2 a3 a4 a5 = some q) : Ci l yX5_file cX5_file 6 (some .int) 3 75 (cX B A sa h lk) (cKf B A) A S [.ref (cAf B 0), .int a1, .int a2, .int a3, .int a4, .int a5] q.1 q.2 := by
  refine met_i (by decide +kernel) (Nat.le_of_ble_eq_true rfl) (fun K hl hA hn F hR => ?_)
  subst hl; subst hA
  exact w_X5_file B sa h lk hw K F hn S a1 a2 a3 a4 a5 q hf hR
set_option maxHeartbeats 4000000 in
set_option maxRecDepth 100000 in
theorem w_X5_test (B : CB) (sa : Nat → Nat) (h : Nat → Bool) (lk : Nat × Nat) (hw : cWf h lk) (K : Ctx) (F : Fx K cX5_test RX5 (cKf B (kA K)) 2 46) (hn : kn K = 4) (S : CS) (a1 : Int32) (a2 : Int32) (a3 : Bool) (q : Int32 × CS) (hf : f_X5_test h lk S a1 a2 a3 = some q) (hR : ∀ (pc : Nat) (lv : List (Nat × Value)), decode cX5_test pc = .ok (.ireturn, 1) → G K (cX B (kA K) sa h lk) 0 0 pc q.2 lv [.int q.1]) : G K (cX B (kA K) sa h lk) 0 0 0 S [(0, .ref (cAf B 0)), (1, .int a1), (2, .int a2), (3, .int (bI a3))] [] := by
  have hok := cKf_ok B (kA K)
  unfold f_X5_test at hf
  refine g_aload_n 1 0 F dX5_test_0 rfl rfl ?_
  refine cg_X5_live 4 F fl_X5_10 dX5_test_1 rfl ?_
  refine g_iload_n 5 1 F dX5_test_4 rfl rfl ?_
  refine g_iload_n 6 2 F dX5_test_5 rfl rfl ?_
  refine g_iload_n 7 3 F dX5_test_6 rfl rfl ?_
  obtain ⟨q1, e2, hf⟩ := op_bd hf
  refine g_cVi 10 (st := []) F hok (c_X0_visit (kl K) B sa h lk hw (kA K) S lk.1 a1 a2 a3 hw.1 q1 e2) wy_X0_visit ml_X5_88 (c_rc_X0 F hw.1) ⟨Nat.le_of_ble_eq_true rfl, Nat.le_of_ble_eq_true rfl⟩ rfl rfl (Nat.le_of_ble_eq_true rfl) ⟨Nat.zero_le _, Nat.zero_le _⟩ dX5_test_7 rfl ?_
  obtain rfl := Option.some.inj hf
  exact hR _ _ dX5_test_10
theorem c_X5_test (l : Launch) (B : CB) (sa : Nat → Nat) (h : Nat → Bool) (lk : Nat × Nat) (hw : cWf h lk) (A : Nat → Prop) (S : CS) (a1 : Int32) (a2 : Int32) (a3 : Bool) (q : Int32 × CS) (hf : f_X5_test h lk S a1 a2 a3 = some q) : Ci l yX5_test cX5_test 4 (some .int) 2 46 (cX B A sa h lk) (cKf B A) A S [.ref (cAf B 0), .int a1, .int a2, .int (bI a3)] q.1 q.2 := by
  refine met_i (by decide +kernel) (Nat.le_of_ble_eq_true rfl) (fun K hl hA hn F hR => ?_)
  subst hl; subst hA
  exact w_X5_test B sa h lk hw K F hn S a1 a2 a3 q hf hR
set_option maxHeartbeats 4000000 in
set_option maxRecDepth 100000 in
theorem w_X5_appeal (B : CB) (sa : Nat → Nat) (h : Nat → Bool) (lk : Nat × Nat) (hw : cWf h lk) (K : Ctx) (F : Fx K cX5_appeal RX5 (cKf B (kA K)) 2 44) (hn : kn K = 3) (S : CS) (a1 : Int32) (a2 : Int32) (q : Bool × CS) (hf : f_X5_appeal h lk S a1 a2 = some q) (hR : ∀ (pc : Nat) (lv : List (Nat × Value)), decode cX5_appeal pc = .ok (.ireturn, 1) → G K (cX B (kA K) sa h lk) 0 0 pc q.2 lv [.int (bI q.1)]) : G K (cX B (kA K) sa h lk) 0 0 0 S [(0, .ref (cAf B 0)), (1, .int a1), (2, .int a2)] [] := by
  have hok := cKf_ok B (kA K)
  unfold f_X5_appeal at hf
  refine g_aload_n 1 0 F dX5_appeal_0 rfl rfl ?_
  refine cg_X5_live 4 F fl_X5_10 dX5_appeal_1 rfl ?_
  refine g_iload_n 5 1 F dX5_appeal_4 rfl rfl ?_
  refine g_iload_n 6 2 F dX5_appeal_5 rfl rfl ?_
  obtain ⟨q1, e2, hf⟩ := op_bd hf
  refine g_cVi 9 (st := []) F hok (c_X0_strike (kl K) B sa h lk hw (kA K) S lk.1 a1 a2 hw.1 q1 e2) wy_X0_strike ml_X5_92 (c_rc_X0 F hw.1) ⟨Nat.le_of_ble_eq_true rfl, Nat.le_of_ble_eq_true rfl⟩ rfl rfl (Nat.le_of_ble_eq_true rfl) ⟨Nat.zero_le _, Nat.zero_le _⟩ dX5_appeal_6 rfl ?_
  obtain rfl := Option.some.inj hf
  exact hR _ _ dX5_appeal_9
theorem c_X5_appeal (l : Launch) (B : CB) (sa : Nat → Nat) (h : Nat → Bool) (lk : Nat × Nat) (hw : cWf h lk) (A : Nat → Prop) (S : CS) (a1 : Int32) (a2 : Int32) (q : Bool × CS) (hf : f_X5_appeal h lk S a1 a2 = some q) : Ci l yX5_appeal cX5_appeal 3 (some .boolean) 2 44 (cX B A sa h lk) (cKf B A) A S [.ref (cAf B 0), .int a1, .int a2] (bI q.1) q.2 := by
  refine met_z (by decide +kernel) (Nat.le_of_ble_eq_true rfl) (fun K hl hA hn F hR => ?_)
  subst hl; subst hA
  exact w_X5_appeal B sa h lk hw K F hn S a1 a2 q hf hR
set_option maxHeartbeats 4000000 in
set_option maxRecDepth 100000 in
theorem w_X5_count (B : CB) (sa : Nat → Nat) (h : Nat → Bool) (lk : Nat × Nat) (hw : cWf h lk) (K : Ctx) (F : Fx K cX5_count RX5 (cKf B (kA K)) 2 41) (hn : kn K = 2) (S : CS) (a1 : Int32) (q : Int32) (hf : f_X5_count lk S a1 = some q) (hR : ∀ (pc : Nat) (lv : List (Nat × Value)), decode cX5_count pc = .ok (.ireturn, 1) → G K (cX B (kA K) sa h lk) 0 0 pc S lv [.int q]) : G K (cX B (kA K) sa h lk) 0 0 0 S [(0, .ref (cAf B 0)), (1, .int a1)] [] := by
  have hok := cKf_ok B (kA K)
  unfold f_X5_count at hf
  refine g_iload_n 1 1 F dX5_count_0 rfl rfl ?_
  rcases op_if hf with ⟨c1, hf⟩ | ⟨c1, hf⟩
  · refine g_tab 0 32 F dX5_count_1 c1 (by decide) (by decide) rfl rfl ?_
    refine g_aload_n 33 0 F dX5_count_32 rfl rfl ?_
    refine cg_X5_live 36 F fl_X5_10 dX5_count_33 rfl ?_
    refine cg_X0_athletes 39 F hw.1 fl_X5_95 dX5_count_36 rfl ?_
    obtain rfl := Option.some.inj hf
    exact hR _ _ dX5_count_39
  · rcases op_if hf with ⟨c2, hf⟩ | ⟨c2, hf⟩
    · refine g_tab 1 40 F dX5_count_1 c2 (by decide) (by decide) rfl rfl ?_
      refine g_aload_n 41 0 F dX5_count_40 rfl rfl ?_
      refine cg_X5_live 44 F fl_X5_10 dX5_count_41 rfl ?_
      refine cg_X0_day 47 F hw.1 fl_X5_98 dX5_count_44 rfl ?_
      obtain rfl := Option.some.inj hf
      exact hR _ _ dX5_count_47
    · rcases op_if hf with ⟨c3, hf⟩ | ⟨c3, hf⟩
      · refine g_tab 2 48 F dX5_count_1 c3 (by decide) (by decide) rfl rfl ?_
        refine g_aload_n 49 0 F dX5_count_48 rfl rfl ?_
        refine cg_X5_live 52 F fl_X5_10 dX5_count_49 rfl ?_
        refine cg_X0_hour 55 F hw.1 fl_X5_101 dX5_count_52 rfl ?_
        obtain rfl := Option.some.inj hf
        exact hR _ _ dX5_count_55
      · rcases op_if hf with ⟨c4, hf⟩ | ⟨c4, hf⟩
        · refine g_tab 3 56 F dX5_count_1 c4 (by decide) (by decide) rfl rfl ?_
          refine g_aload_n 57 0 F dX5_count_56 rfl rfl ?_
          refine cg_X5_tape 60 F fl_X5_29 dX5_count_57 rfl ?_
          refine cg_X3_size 63 F fl_X5_58 dX5_count_60 rfl ?_
          obtain rfl := Option.some.inj hf
          exact hR _ _ dX5_count_63
        · refine g_tabD 64 F dX5_count_1 (by have := lv_neT c1 (by decide : (0 : Int32).toInt = 0); have := lv_neT c2 (by decide : (1 : Int32).toInt = 1); have := lv_neT c3 (by decide : (2 : Int32).toInt = 2); have := lv_neT c4 (by decide : (3 : Int32).toInt = 3); omega) rfl ?_
          refine g_aload_n 65 0 F dX5_count_64 rfl rfl ?_
          refine cg_X5_live 68 F fl_X5_10 dX5_count_65 rfl ?_
          refine g_iload_n 69 1 F dX5_count_68 rfl rfl ?_
          refine g_bipush 71 (v := 10) F dX5_count_69 (by decide) rfl ?_
          refine g_icmp_ge 78 74 F dX5_count_71 rfl rfl hf (fun _ hf => ?_) (fun _ hf => ?_)
          · refine g_iload_n 79 1 F dX5_count_78 rfl rfl ?_
            refine g_bipush 81 (v := 10) F dX5_count_79 (by decide) rfl ?_
            refine g_isub 82 F dX5_count_81 rfl ?_
            obtain ⟨q5, e6, hf⟩ := op_bd hf
            refine g_cVi 85 (st := []) F hok (c_X0_settingOrNone (kl K) B sa h lk hw (kA K) S lk.1 (a1 - 10) hw.1 q5 e6) wy_X0_settingOrNone ml_X5_104 (c_rc_X0 F hw.1) ⟨Nat.le_of_ble_eq_true rfl, Nat.le_of_ble_eq_true rfl⟩ rfl rfl (Nat.le_of_ble_eq_true rfl) ⟨Nat.zero_le _, Nat.zero_le _⟩ dX5_count_82 rfl ?_
            obtain rfl := Option.some.inj hf
            exact hR _ _ dX5_count_85
          · refine g_iconst 75 (v := (-1)) F dX5_count_74 (by decide) rfl ?_
            refine g_goto 82 F dX5_count_75 rfl ?_
            obtain ⟨q7, e8, hf⟩ := op_bd hf
            refine g_cVi 85 (st := []) F hok (c_X0_settingOrNone (kl K) B sa h lk hw (kA K) S lk.1 (-1) hw.1 q7 e8) wy_X0_settingOrNone ml_X5_104 (c_rc_X0 F hw.1) ⟨Nat.le_of_ble_eq_true rfl, Nat.le_of_ble_eq_true rfl⟩ rfl rfl (Nat.le_of_ble_eq_true rfl) ⟨Nat.zero_le _, Nat.zero_le _⟩ dX5_count_82 rfl ?_
            obtain rfl := Option.some.inj hf
            exact hR _ _ dX5_count_85
theorem c_X5_count (l : Launch) (B : CB) (sa : Nat → Nat) (h : Nat → Bool) (lk : Nat × Nat) (hw : cWf h lk) (A : Nat → Prop) (S : CS) (a1 : Int32) (q : Int32) (hf : f_X5_count lk S a1 = some q) : Ci l yX5_count cX5_count 2 (some .int) 2 41 (cX B A sa h lk) (cKf B A) A S [.ref (cAf B 0), .int a1] q S := by
  refine met_i (by decide +kernel) (Nat.le_of_ble_eq_true rfl) (fun K hl hA hn F hR => ?_)
  subst hl; subst hA
  exact w_X5_count B sa h lk hw K F hn S a1 q hf hR
set_option maxHeartbeats 4000000 in
set_option maxRecDepth 100000 in
theorem w_X5_filed (B : CB) (sa : Nat → Nat) (h : Nat → Bool) (lk : Nat × Nat) (hw : cWf h lk) (K : Ctx) (F : Fx K cX5_filed RX5 (cKf B (kA K)) 1 21) (hn : kn K = 6) (S : CS) (a1 : Int32) (a2 : Int32) (a3 : Int32) (q : Int32) (hf : f_X5_filed h lk S a1 a2 a3 = some q) (hR : ∀ (pc : Nat) (lv : List (Nat × Value)), decode cX5_filed pc = .ok (.ireturn, 1) → G K (cX B (kA K) sa h lk) 0 0 pc S lv [.int q]) : G K (cX B (kA K) sa h lk) 0 0 0 S [(0, .ref (cAf B 0)), (1, .int a1), (2, .int a2), (3, .int a3)] [] := by
  have hok := cKf_ok B (kA K)
  unfold f_X5_filed at hf
  refine g_aload_n 1 0 F dX5_filed_0 rfl rfl ?_
  refine cg_X5_live 4 F fl_X5_10 dX5_filed_1 rfl ?_
  refine g_iload_n 5 1 F dX5_filed_4 rfl rfl ?_
  obtain ⟨q1, e2, hf⟩ := op_bd hf
  refine g_cVq 8 (st := []) F hok (c_X0_find (kl K) B sa h lk hw (kA K) S lk.1 a1 hw.1 q1 e2) wy_X0_find ml_X5_107 (c_rc_X0 F hw.1) ⟨Nat.le_of_ble_eq_true rfl, Nat.le_of_ble_eq_true rfl⟩ rfl rfl (Nat.le_of_ble_eq_true rfl) ⟨Nat.zero_le _, Nat.zero_le _⟩ dX5_filed_5 rfl ?_
  rcases op_oc hf with ⟨e4, hf⟩ | ⟨j3, e4, hf⟩
  · subst e4
    change G K (cX B (kA K) sa h lk) 0 0 8 S [(0, .ref (cAf B 0)), (1, .int a1), (2, .int a2), (3, .int a3)] [.null]
    refine g_astoreN 10 [(4, .null), (0, .ref (cAf B 0)), (1, .int a1), (2, .int a2), (3, .int a3)] F dX5_filed_8 (lt_kn hn (by decide)) rfl rfl ?_
    refine g_aloadN 12 0 F dX5_filed_10 rfl rfl ?_
    refine g_ifnullN 22 F dX5_filed_12 rfl ?_
    refine g_iconst 23 (v := (-1)) F dX5_filed_22 (by decide) rfl ?_
    obtain rfl := Option.some.inj hf
    exact hR _ _ dX5_filed_23
  · subst e4
    have hj3 : h j3 = true := find_has e2
    change G K (cX B (kA K) sa h lk) 0 0 8 S [(0, .ref (cAf B 0)), (1, .int a1), (2, .int a2), (3, .int a3)] [.ref (sa (5 * j3))]
    refine g_astore 10 [(4, .ref (sa (5 * j3))), (0, .ref (cAf B 0)), (1, .int a1), (2, .int a2), (3, .int a3)] F dX5_filed_8 (lt_kn hn (by decide)) rfl rfl ?_
    refine g_aload 12 0 F dX5_filed_10 rfl rfl ?_
    refine g_ifnull 15 F dX5_filed_12 rfl ?_
    refine g_iload_n 16 3 F dX5_filed_15 rfl rfl ?_
    refine g_cSi 19 (st := []) F hok (c_X5_canBeFiledDay (kl K) B sa h lk hw (kA K) S a2 _ rfl) ws_X5_canBeFiledDay ml_X5_153 ⟨Nat.le_of_ble_eq_true rfl, Nat.le_of_ble_eq_true rfl⟩ rfl rfl (Nat.le_of_ble_eq_true rfl) ⟨Nat.zero_le _, Nat.zero_le _⟩ dX5_filed_16 rfl ?_
    refine g_ifne_b 24 22 F dX5_filed_19 rfl rfl hf (fun _ hf => ?_) (fun _ hf => ?_)
    · refine g_aload 26 0 F dX5_filed_24 rfl rfl ?_
      refine cg_X1_slots 29 F hw hj3 fl_X5_157 dX5_filed_26 rfl ?_
      refine g_iload_n 30 3 F dX5_filed_29 rfl rfl ?_
      obtain ⟨h5, hf⟩ := op_ok hf
      refine cl_Q3 31 F hw hj3 h5 dX5_filed_30 rfl ?_
      refine g_istore 33 [(5, .int (cQ S j3 3 a2.toNatClampNeg)), (4, .ref (sa (5 * j3))), (0, .ref (cAf B 0)), (1, .int a1), (2, .int a2), (3, .int a3)] F dX5_filed_31 (lt_kn hn (by decide)) rfl rfl ?_
      refine g_iload 35 0 F dX5_filed_33 rfl rfl ?_
      refine g_if_ne 40 38 F dX5_filed_35 rfl rfl hf (fun _ hf => ?_) (fun _ hf => ?_)
      · refine g_iload_n 41 5 F dX5_filed_40 rfl rfl ?_
        rcases op_if hf with ⟨c6, hf⟩ | ⟨c6, hf⟩
        · refine g_look 68 (off := 27) F dX5_filed_41 (by decide) (by rw [c6]; decide) rfl ?_
          refine g_iload 70 0 F dX5_filed_68 rfl rfl ?_
          refine g_cSi 73 (st := []) F hok (c_X1_hourOf (kl K) B sa h lk hw (kA K) S (cQ S j3 3 a2.toNatClampNeg) _ rfl) ws_X1_hourOf ml_X5_160 ⟨Nat.le_of_ble_eq_true rfl, Nat.le_of_ble_eq_true rfl⟩ rfl rfl (Nat.le_of_ble_eq_true rfl) ⟨Nat.zero_le _, Nat.zero_le _⟩ dX5_filed_70 rfl ?_
          obtain rfl := Option.some.inj hf
          exact hR _ _ dX5_filed_73
        · rcases op_if hf with ⟨c7, hf⟩ | ⟨c7, hf⟩
          · refine g_look 74 (off := 33) F dX5_filed_41 (by decide) (by rw [c7]; decide) rfl ?_
            refine g_iload 76 0 F dX5_filed_74 rfl rfl ?_
            refine g_cSi 79 (st := []) F hok (c_X1_placeOf (kl K) B sa h lk hw (kA K) S (cQ S j3 3 a2.toNatClampNeg) _ rfl) ws_X1_placeOf ml_X5_163 ⟨Nat.le_of_ble_eq_true rfl, Nat.le_of_ble_eq_true rfl⟩ rfl rfl (Nat.le_of_ble_eq_true rfl) ⟨Nat.zero_le _, Nat.zero_le _⟩ dX5_filed_76 rfl ?_
            obtain rfl := Option.some.inj hf
            exact hR _ _ dX5_filed_79
          · refine g_look 80 (off := 39) F dX5_filed_41 (by decide) (by show Op.lookupswitch.offset [(0, 27), (1, 33)] _ _ = _; rw [lv_osw c6 (by decide), lv_osw c7 (by decide)]; rfl) rfl ?_
            refine g_iconst 81 (v := (-1)) F dX5_filed_80 (by decide) rfl ?_
            obtain rfl := Option.some.inj hf
            exact hR _ _ dX5_filed_81
      · refine g_iconst 39 (v := (-1)) F dX5_filed_38 (by decide) rfl ?_
        obtain rfl := Option.some.inj hf
        exact hR _ _ dX5_filed_39
    · refine g_iconst 23 (v := (-1)) F dX5_filed_22 (by decide) rfl ?_
      obtain rfl := Option.some.inj hf
      exact hR _ _ dX5_filed_23
theorem c_X5_filed (l : Launch) (B : CB) (sa : Nat → Nat) (h : Nat → Bool) (lk : Nat × Nat) (hw : cWf h lk) (A : Nat → Prop) (S : CS) (a1 : Int32) (a2 : Int32) (a3 : Int32) (q : Int32) (hf : f_X5_filed h lk S a1 a2 a3 = some q) : Ci l yX5_filed cX5_filed 6 (some .int) 1 21 (cX B A sa h lk) (cKf B A) A S [.ref (cAf B 0), .int a1, .int a2, .int a3] q S := by
  refine met_i (by decide +kernel) (Nat.le_of_ble_eq_true rfl) (fun K hl hA hn F hR => ?_)
  subst hl; subst hA
  exact w_X5_filed B sa h lk hw K F hn S a1 a2 a3 q hf hR
set_option maxHeartbeats 4000000 in
set_option maxRecDepth 100000 in
theorem w_X5_failure (B : CB) (sa : Nat → Nat) (h : Nat → Bool) (lk : Nat × Nat) (hw : cWf h lk) (K : Ctx) (F : Fx K cX5_failure RX5 (cKf B (kA K)) 3 70) (hn : kn K = 5) (S : CS) (a1 : Int32) (a2 : Int32) (a3 : Int32) (q : Int32 × CS) (hf : f_X5_failure h lk S a1 a2 a3 = some q) (hR : ∀ (pc : Nat) (lv : List (Nat × Value)), decode cX5_failure pc = .ok (.ireturn, 1) → G K (cX B (kA K) sa h lk) 0 0 pc q.2 lv [.int q.1]) : G K (cX B (kA K) sa h lk) 0 0 0 S [(0, .ref (cAf B 0)), (1, .int a1), (2, .int a2), (3, .int a3)] [] := by
  have hok := cKf_ok B (kA K)
  unfold f_X5_failure at hf
  refine g_aload_n 1 0 F dX5_failure_0 rfl rfl ?_
  refine cg_X5_live 4 F fl_X5_10 dX5_failure_1 rfl ?_
  refine g_iload_n 5 1 F dX5_failure_4 rfl rfl ?_
  obtain ⟨q1, e2, hf⟩ := op_bd hf
  refine g_cVq 8 (st := []) F hok (c_X0_find (kl K) B sa h lk hw (kA K) S lk.1 a1 hw.1 q1 e2) wy_X0_find ml_X5_107 (c_rc_X0 F hw.1) ⟨Nat.le_of_ble_eq_true rfl, Nat.le_of_ble_eq_true rfl⟩ rfl rfl (Nat.le_of_ble_eq_true rfl) ⟨Nat.zero_le _, Nat.zero_le _⟩ dX5_failure_5 rfl ?_
  rcases op_oc hf with ⟨e4, hf⟩ | ⟨j3, e4, hf⟩
  · subst e4
    change G K (cX B (kA K) sa h lk) 0 0 8 S [(0, .ref (cAf B 0)), (1, .int a1), (2, .int a2), (3, .int a3)] [.null]
    refine g_astoreN 10 [(4, .null), (0, .ref (cAf B 0)), (1, .int a1), (2, .int a2), (3, .int a3)] F dX5_failure_8 (lt_kn hn (by decide)) rfl rfl ?_
    refine g_aloadN 12 0 F dX5_failure_10 rfl rfl ?_
    refine g_ifnullN 24 F dX5_failure_12 rfl ?_
    refine g_iconst 25 (v := (-1)) F dX5_failure_24 (by decide) rfl ?_
    obtain rfl := Option.some.inj hf
    exact hR _ _ dX5_failure_25
  · subst e4
    have hj3 : h j3 = true := find_has e2
    change G K (cX B (kA K) sa h lk) 0 0 8 S [(0, .ref (cAf B 0)), (1, .int a1), (2, .int a2), (3, .int a3)] [.ref (sa (5 * j3))]
    refine g_astore 10 [(4, .ref (sa (5 * j3))), (0, .ref (cAf B 0)), (1, .int a1), (2, .int a2), (3, .int a3)] F dX5_failure_8 (lt_kn hn (by decide)) rfl rfl ?_
    refine g_aload 12 0 F dX5_failure_10 rfl rfl ?_
    refine g_ifnull 15 F dX5_failure_12 rfl ?_
    refine g_aload 17 0 F dX5_failure_15 rfl rfl ?_
    refine g_iload_n 18 3 F dX5_failure_17 rfl rfl ?_
    refine g_cVi 21 (st := []) F hok (c_X1_hasFailure (kl K) B sa h lk hw (kA K) S j3 a2 hj3 _ rfl) wy_X1_hasFailure ml_X5_166 (c_rc_X1 F hw hj3) ⟨Nat.le_of_ble_eq_true rfl, Nat.le_of_ble_eq_true rfl⟩ rfl rfl (Nat.le_of_ble_eq_true rfl) ⟨Nat.zero_le _, Nat.zero_le _⟩ dX5_failure_18 rfl ?_
    refine g_ifne_b 26 24 F dX5_failure_21 rfl rfl hf (fun _ hf => ?_) (fun _ hf => ?_)
    · refine g_aload_n 27 1 F dX5_failure_26 rfl rfl ?_
      refine cg_X5_tally 30 F fl_X5_22 dX5_failure_27 rfl ?_
      refine g_aload 32 0 F dX5_failure_30 rfl rfl ?_
      refine g_aload_n 33 1 F dX5_failure_32 rfl rfl ?_
      refine cg_X5_live 36 F fl_X5_10 dX5_failure_33 rfl ?_
      refine cg_X0_settings 39 F hw.1 fl_X5_169 dX5_failure_36 rfl ?_
      refine g_iconst 40 (v := (-1)) F dX5_failure_39 (by decide) rfl ?_
      obtain ⟨q5, e6, hf⟩ := op_bd hf
      refine g_cVv 43 (st := []) F hok (c_X2_goThrough (kl K) B sa h lk hw (kA K) S j3 lk.1 (-1) hj3 hw.1 q5 e6) wy_X2_goThrough ml_X5_172 (c_rc_X2 F) ⟨Nat.le_of_ble_eq_true rfl, Nat.le_of_ble_eq_true rfl⟩ rfl rfl (Nat.le_of_ble_eq_true rfl) ⟨Nat.zero_le _, Nat.zero_le _⟩ dX5_failure_40 rfl ?_
      refine g_iload_n 44 4 F dX5_failure_43 rfl rfl ?_
      rcases op_if hf with ⟨c7, hf⟩ | ⟨c7, hf⟩
      · refine g_tab 0 80 F dX5_failure_44 c7 (by decide) (by decide) rfl rfl ?_
        refine g_aload 82 0 F dX5_failure_80 rfl rfl ?_
        refine cg_X1_failureDay 85 F hw hj3 fl_X5_176 dX5_failure_82 rfl ?_
        refine g_iload_n 86 3 F dX5_failure_85 rfl rfl ?_
        obtain ⟨h8, hf⟩ := op_ok hf
        refine cl_Q0 87 F hw hj3 h8 dX5_failure_86 rfl ?_
        obtain rfl := Option.some.inj hf
        exact hR _ _ dX5_failure_87
      · rcases op_if hf with ⟨c9, hf⟩ | ⟨c9, hf⟩
        · refine g_tab 1 88 F dX5_failure_44 c9 (by decide) (by decide) rfl rfl ?_
          refine g_aload 90 0 F dX5_failure_88 rfl rfl ?_
          refine cg_X1_failureKind 93 F hw hj3 fl_X5_179 dX5_failure_90 rfl ?_
          refine g_iload_n 94 3 F dX5_failure_93 rfl rfl ?_
          obtain ⟨h10, hf⟩ := op_ok hf
          refine cl_Q1 95 F hw hj3 h10 dX5_failure_94 rfl ?_
          obtain rfl := Option.some.inj hf
          exact hR _ _ dX5_failure_95
        · rcases op_if hf with ⟨c11, hf⟩ | ⟨c11, hf⟩
          · refine g_tab 2 96 F dX5_failure_44 c11 (by decide) (by decide) rfl rfl ?_
            refine g_aload 98 0 F dX5_failure_96 rfl rfl ?_
            refine cg_X1_struck 101 F hw hj3 fl_X5_182 dX5_failure_98 rfl ?_
            refine g_iload_n 102 3 F dX5_failure_101 rfl rfl ?_
            obtain ⟨h12, hf⟩ := op_ok hf
            refine cl_Q2 103 F hw hj3 h12 dX5_failure_102 rfl ?_
            obtain rfl := Option.some.inj hf
            exact hR _ _ dX5_failure_103
          · rcases op_if hf with ⟨c13, hf⟩ | ⟨c13, hf⟩
            · refine g_tab 3 104 F dX5_failure_44 c13 (by decide) (by decide) rfl rfl ?_
              refine g_aload_n 105 1 F dX5_failure_104 rfl rfl ?_
              refine cg_X5_tally 108 F fl_X5_22 dX5_failure_105 rfl ?_
              refine g_iload_n 109 3 F dX5_failure_108 rfl rfl ?_
              obtain ⟨q14, e15, hf⟩ := op_bd hf
              refine g_cVi 112 (st := []) F hok (c_X2_doesCount (kl K) B sa h lk hw (kA K) q5 a2 q14 e15) wy_X2_doesCount ml_X5_185 (c_rc_X2 F) ⟨Nat.le_of_ble_eq_true rfl, Nat.le_of_ble_eq_true rfl⟩ rfl rfl (Nat.le_of_ble_eq_true rfl) ⟨Nat.zero_le _, Nat.zero_le _⟩ dX5_failure_109 rfl ?_
              refine g_ifeq_b 119 115 F dX5_failure_112 rfl rfl hf (fun _ hf => ?_) (fun _ hf => ?_)
              · refine g_iconst 120 (v := 0) F dX5_failure_119 (by decide) rfl ?_
                obtain rfl := Option.some.inj hf
                exact hR _ _ dX5_failure_120
              · refine g_iconst 116 (v := 1) F dX5_failure_115 (by decide) rfl ?_
                refine g_goto 120 F dX5_failure_116 rfl ?_
                obtain rfl := Option.some.inj hf
                exact hR _ _ dX5_failure_120
            · rcases op_if hf with ⟨c16, hf⟩ | ⟨c16, hf⟩
              · refine g_tab 4 121 F dX5_failure_44 c16 (by decide) (by decide) rfl rfl ?_
                refine g_aload_n 122 1 F dX5_failure_121 rfl rfl ?_
                refine cg_X5_tally 125 F fl_X5_22 dX5_failure_122 rfl ?_
                refine g_iload_n 126 3 F dX5_failure_125 rfl rfl ?_
                obtain ⟨q17, e18, hf⟩ := op_bd hf
                refine g_cVi 129 (st := []) F hok (c_X2_isOpen (kl K) B sa h lk hw (kA K) q5 a2 q17 e18) wy_X2_isOpen ml_X5_188 (c_rc_X2 F) ⟨Nat.le_of_ble_eq_true rfl, Nat.le_of_ble_eq_true rfl⟩ rfl rfl (Nat.le_of_ble_eq_true rfl) ⟨Nat.zero_le _, Nat.zero_le _⟩ dX5_failure_126 rfl ?_
                refine g_ifeq_b 136 132 F dX5_failure_129 rfl rfl hf (fun _ hf => ?_) (fun _ hf => ?_)
                · refine g_iconst 137 (v := 0) F dX5_failure_136 (by decide) rfl ?_
                  obtain rfl := Option.some.inj hf
                  exact hR _ _ dX5_failure_137
                · refine g_iconst 133 (v := 1) F dX5_failure_132 (by decide) rfl ?_
                  refine g_goto 137 F dX5_failure_133 rfl ?_
                  obtain rfl := Option.some.inj hf
                  exact hR _ _ dX5_failure_137
              · refine g_tabD 138 F dX5_failure_44 (by have := lv_neT c7 (by decide : (0 : Int32).toInt = 0); have := lv_neT c9 (by decide : (1 : Int32).toInt = 1); have := lv_neT c11 (by decide : (2 : Int32).toInt = 2); have := lv_neT c13 (by decide : (3 : Int32).toInt = 3); have := lv_neT c16 (by decide : (4 : Int32).toInt = 4); omega) rfl ?_
                refine g_iconst 139 (v := (-1)) F dX5_failure_138 (by decide) rfl ?_
                obtain rfl := Option.some.inj hf
                exact hR _ _ dX5_failure_139
    · refine g_iconst 25 (v := (-1)) F dX5_failure_24 (by decide) rfl ?_
      obtain rfl := Option.some.inj hf
      exact hR _ _ dX5_failure_25
theorem c_X5_failure (l : Launch) (B : CB) (sa : Nat → Nat) (h : Nat → Bool) (lk : Nat × Nat) (hw : cWf h lk) (A : Nat → Prop) (S : CS) (a1 : Int32) (a2 : Int32) (a3 : Int32) (q : Int32 × CS) (hf : f_X5_failure h lk S a1 a2 a3 = some q) : Ci l yX5_failure cX5_failure 5 (some .int) 3 70 (cX B A sa h lk) (cKf B A) A S [.ref (cAf B 0), .int a1, .int a2, .int a3] q.1 q.2 := by
  refine met_i (by decide +kernel) (Nat.le_of_ble_eq_true rfl) (fun K hl hA hn F hR => ?_)
  subst hl; subst hA
  exact w_X5_failure B sa h lk hw K F hn S a1 a2 a3 q hf hR
