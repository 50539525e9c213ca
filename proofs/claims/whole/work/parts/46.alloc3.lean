def l_X0_become (r r2 : Nat) : Nat → CS → (Nat → Bool) → Int32 → Option (CS × (Nat → Bool))
  | 0, _, _, _ => none
  | n + 1, S, h, x => if 6 ≤ x then some (S, h) else ((f_X0_find h S r2 x).bind fun q => oC q (l_X0_become r r2 n S h (x + 1)) (fun j => (f_X0_rowOf h S r x).bind fun p => l_X0_become r r2 n (f_X1_become p.2.1 p.1 j) p.2.2 (x + 1)))
def j_X0_become (S : CS) (r r2 : Nat) : CS := sAw S r (va_cpy (cA S r2) (cA S r) 0 0 6)
def f_X0_become (h : Nat → Bool) (S : CS) (r r2 : Nat) : Option (CS × (Nat → Bool)) :=
  l_X0_become r r2 fu (j_X0_become (sR (sR (sR S r 0 (cR S r2 0)) r 1 (cR (sR S r 0 (cR S r2 0)) r2 1)) r 2 (cR (sR (sR S r 0 (cR S r2 0)) r 1 (cR (sR S r 0 (cR S r2 0)) r2 1)) r2 2)) r r2) h 0
theorem l_X0_become_ok {lk : Nat × Nat} {r r2 : Nat} (hr : r < 2) : ∀ (n : Nat) (S : CS) (h : Nat → Bool) (x : Int32) (q : CS × (Nat → Bool)), cWf h lk → l_X0_become r r2 n S h x = some q → hle h q.2 ∧ cWf q.2 lk := by
  intro n
  induction n with
  | zero =>
    intro S h x q hw e
    rw [l_X0_become] at e
    cases e
  | succ n ih =>
    intro S h x q hw e
    rw [l_X0_become] at e
    rcases op_if e with ⟨_, e⟩ | ⟨_, e⟩
    · obtain rfl := Option.some.inj e
      exact ⟨hle_refl h, hw⟩
    · obtain ⟨o, _, e⟩ := op_bd e
      rcases op_oc e with ⟨_, e⟩ | ⟨j, _, e⟩
      · exact ih S h _ q hw e
      · obtain ⟨p, ep, e⟩ := op_bd e
        obtain ⟨k1, k2, _⟩ := rowOf_ok hr hw ep
        obtain ⟨i1, i2⟩ := ih _ _ _ q k2 e
        exact ⟨hle_trans k1 i1, i2⟩
theorem X0_become_ok {h : Nat → Bool} {lk : Nat × Nat} {S : CS} {r r2 : Nat} {q : CS × (Nat → Bool)} (hr : r < 2) (hw : cWf h lk) (e : f_X0_become h S r r2 = some q) : hle h q.2 ∧ cWf q.2 lk := by
  unfold f_X0_become at e
  exact l_X0_become_ok hr _ _ _ _ q hw e
set_option maxHeartbeats 4000000 in
set_option maxRecDepth 100000 in
theorem c_X0_become (l : Launch) (B : CB) (sa0 : Nat → Nat) (h0 : Nat → Bool) (lk : Nat × Nat) (hw0 : cWf h0 lk) (A : Nat → Prop) (S0 : CS) (r r2 : Nat) (hr : r < 2) (hr2 : r2 < 2) (q : CS × (Nat → Bool)) (hf : f_X0_become h0 S0 r r2 = some q) : CAv l yX0_become cX0_become 4 none 3 81 B (cKf B A) A sa0 h0 lk S0 [.ref (cAf B (1 + r)), .ref (cAf B (1 + r2))] q.1 q.2 := by
  refine met_av (by decide +kernel) (Nat.le_of_ble_eq_true rfl) (fun K hl hA hn hRm F hR => ?_)
  subst hl; subst hA
  have hok := cKf_ok B (kA K)
  have L : ∀ (n : Nat) (S : CS) (h : Nat → Bool) (sa : Nat → Nat) (x : Int32), agr h0 sa0 sa → hle h0 h → cWf h lk → l_X0_become r r2 n S h x = some q → G K (cX B (kA K) sa h lk) (5 * (cn h - cn h0)) (1291 * (cn h - cn h0)) 41 S [(0, .ref (cAf B (1 + r))), (1, .ref (cAf B (1 + r2))), (2, .int x)] [] := by
    intro n
    induction n with
    | zero =>
      intro S h sa x _ _ _ hf
      rw [l_X0_become] at hf
      cases hf
    | succ n ih =>
      intro S h sa x hag0 hle0 hw hf
      have hq := cn_mono (l_X0_become_ok hr _ _ _ _ q hw hf).1
      have hq0 := cn_mono hle0
      rw [l_X0_become] at hf
      have hcs : 5 * (cn h - cn h0) ≤ (kR K).cells ∧ 1291 * (cn h - cn h0) ≤ (kR K).slots := by
        rw [hRm]; exact ⟨Nat.mul_le_mul_left 5 (Nat.sub_le_sub_right hq _), Nat.mul_le_mul_left 1291 (Nat.sub_le_sub_right hq _)⟩
      refine g_iload_n 42 2 F dX0_become_41 rfl rfl ?_
      refine g_bipush 44 (v := 6) F dX0_become_42 (by decide) rfl ?_
      refine g_icmp_ge 72 47 F dX0_become_44 rfl rfl hf (fun _ hf => ?_) (fun _ hf => ?_)
      · obtain rfl := Option.some.inj hf
        exact hR sa hag0 _ _ dX0_become_72
      · refine g_aload_n 48 1 F dX0_become_47 rfl rfl ?_
        refine g_iload_n 49 2 F dX0_become_48 rfl rfl ?_
        obtain ⟨o, eo, hf⟩ := op_bd hf
        refine g_cVq 52 (st := []) F hok (c_X0_find (kl K) B sa h lk hw (kA K) S r2 x hr2 o eo) wy_X0_find ml_X0_46 (c_rc_X0 F hr2) ⟨Nat.le_of_ble_eq_true rfl, Nat.le_of_ble_eq_true rfl⟩ rfl rfl (Nat.le_of_ble_eq_true rfl) hcs dX0_become_49 rfl ?_
        rcases op_oc hf with ⟨z, hf⟩ | ⟨j, z, hf⟩
        · subst z
          change G K (cX B (kA K) sa h lk) _ _ 52 S [(0, .ref (cAf B (1 + r))), (1, .ref (cAf B (1 + r2))), (2, .int x)] [.null]
          refine g_astore_nN 53 [(3, .null), (0, .ref (cAf B (1 + r))), (1, .ref (cAf B (1 + r2))), (2, .int x)] F dX0_become_52 (lt_kn hn (by decide)) rfl rfl ?_
          refine g_aload_nN 54 0 F dX0_become_53 rfl rfl ?_
          refine g_ifnullN 66 F dX0_become_54 rfl ?_
          refine g_iinc 69 3 (x + 1) [(2, .int (x + 1)), (3, .null), (0, .ref (cAf B (1 + r))), (1, .ref (cAf B (1 + r2)))] F dX0_become_66 rfl rfl (lt_kn hn (by decide)) rfl rfl ?_
          refine g_goto 41 F dX0_become_69 rfl ?_
          exact G.lvs [2, 3, 0] rfl (ih S h sa (x + 1) hag0 hle0 hw hf)
        · subst z
          have hj : h j = true := find_has eo
          change G K (cX B (kA K) sa h lk) _ _ 52 S [(0, .ref (cAf B (1 + r))), (1, .ref (cAf B (1 + r2))), (2, .int x)] [.ref (sa (5 * j))]
          refine g_astore_n 53 [(3, .ref (sa (5 * j))), (0, .ref (cAf B (1 + r))), (1, .ref (cAf B (1 + r2))), (2, .int x)] F dX0_become_52 (lt_kn hn (by decide)) rfl rfl ?_
          refine g_aload_n 54 0 F dX0_become_53 rfl rfl ?_
          refine g_ifnull 57 F dX0_become_54 rfl ?_
          refine g_aload_n 58 1 F dX0_become_57 rfl rfl ?_
          refine g_iload_n 59 3 F dX0_become_58 rfl rfl ?_
          obtain ⟨p, ep, hf⟩ := op_bd hf
          obtain ⟨k1, k2, k3⟩ := rowOf_ok hr hw ep
          have hq1 := cn_mono (l_X0_become_ok hr _ _ _ _ q k2 hf).1
          have hq2 := cn_mono k1
          have hcs1 : 5 * (cn h - cn h0) + 5 * (cn p.2.2 - cn h) ≤ (kR K).cells ∧ 1291 * (cn h - cn h0) + 1291 * (cn p.2.2 - cn h) ≤ (kR K).slots := by
            rw [hRm]
            constructor
            · show 5 * (cn h - cn h0) + 5 * (cn p.2.2 - cn h) ≤ 5 * (cn q.2 - cn h0); omega
            · show 1291 * (cn h - cn h0) + 1291 * (cn p.2.2 - cn h) ≤ 1291 * (cn q.2 - cn h0); omega
          refine g_aVr 62 (st := []) F hok (c_X0_rowOf (kl K) B sa h lk hw (kA K) S r x hr p ep) wy_X0_rowOf ml_X0_50 (c_rc_X0 F hr) ⟨Nat.le_of_ble_eq_true rfl, Nat.le_of_ble_eq_true rfl⟩ rfl rfl (Nat.le_of_ble_eq_true rfl) hcs1 dX0_become_59 rfl (fun sa1 hag1 => ?_)
          have hj2 : p.2.2 j = true := k1 j hj
          rw [show sa (5 * j) = sa1 (5 * j) from (hag1 j 0 hj (by decide)).symm]
          refine g_aload_n 63 0 F dX0_become_62 rfl rfl ?_
          refine g_cVv 66 (st := []) F hok (c_X1_become (kl K) B sa1 p.2.2 lk k2 (kA K) p.2.1 p.1 j k3 hj2 _ rfl) wy_X1_become ml_X0_53 (c_rc_X1 F k2 k3) ⟨Nat.le_of_ble_eq_true rfl, Nat.le_of_ble_eq_true rfl⟩ rfl rfl (Nat.le_of_ble_eq_true rfl) hcs1 dX0_become_63 rfl ?_
          refine g_iinc 69 3 (x + 1) [(2, .int (x + 1)), (3, .ref (sa1 (5 * j))), (0, .ref (cAf B (1 + r))), (1, .ref (cAf B (1 + r2)))] F dX0_become_66 rfl rfl (lt_kn hn (by decide)) rfl rfl ?_
          refine g_goto 41 F dX0_become_69 rfl ?_
          refine G.widen (5 * (cn p.2.2 - cn h0)) (1291 * (cn p.2.2 - cn h0)) (by omega) (by omega) ?_
          exact G.lvs [2, 3, 0] rfl (ih _ p.2.2 sa1 (x + 1) (agr_trans hag0 hle0 hag1) (hle_trans hle0 k1) k2 hf)
  unfold f_X0_become at hf
  show G K (cX B (kA K) sa0 h0 lk) 0 0 0 S0 [(0, .ref (cAf B (1 + r))), (1, .ref (cAf B (1 + r2)))] []
  refine g_aload_n 1 0 F dX0_become_0 rfl rfl ?_
  refine g_aload_n 2 1 F dX0_become_1 rfl rfl ?_
  refine cg_X0_day 5 F hr2 fl_X0_34 dX0_become_2 rfl ?_
  refine cp_X0_day 8 F hr fl_X0_34 dX0_become_5 rfl ?_
  refine g_aload_n 9 0 F dX0_become_8 rfl rfl ?_
  refine g_aload_n 10 1 F dX0_become_9 rfl rfl ?_
  refine cg_X0_hour 13 F hr2 fl_X0_37 dX0_become_10 rfl ?_
  refine cp_X0_hour 16 F hr fl_X0_37 dX0_become_13 rfl ?_
  refine g_aload_n 17 0 F dX0_become_16 rfl rfl ?_
  refine g_aload_n 18 1 F dX0_become_17 rfl rfl ?_
  refine cg_X0_athletes 21 F hr2 fl_X0_29 dX0_become_18 rfl ?_
  refine cp_X0_athletes 24 F hr fl_X0_29 dX0_become_21 rfl ?_
  refine g_aload_n 25 1 F dX0_become_24 rfl rfl ?_
  refine cg_X0_settings 28 F hr2 fl_X0_18 dX0_become_25 rfl ?_
  refine g_iconst 29 (v := 0) F dX0_become_28 (by decide) rfl ?_
  refine g_aload_n 30 0 F dX0_become_29 rfl rfl ?_
  refine cg_X0_settings 33 F hr fl_X0_18 dX0_become_30 rfl ?_
  refine g_iconst 34 (v := 0) F dX0_become_33 (by decide) rfl ?_
  refine g_bipush 36 (v := 6) F dX0_become_34 (by decide) rfl ?_
  refine c_cpS 39 F ml_X0_40 hr2 hr (Nat.le_of_ble_eq_true rfl) (Nat.le_of_ble_eq_true rfl) dX0_become_36 rfl ?_
  refine g_iconst 40 (v := 0) F dX0_become_39 (by decide) rfl ?_
  refine g_istore_n 41 [(2, .int 0), (0, .ref (cAf B (1 + r))), (1, .ref (cAf B (1 + r2)))] F dX0_become_40 (lt_kn hn (by decide)) rfl rfl ?_
  refine G.widen (5 * (cn h0 - cn h0)) (1291 * (cn h0 - cn h0)) (Nat.zero_le _) (Nat.zero_le _) ?_
  exact G.lvs [1, 2, 0] rfl (L fu _ h0 sa0 0 (agr_refl h0 sa0) (hle_refl h0) hw0 hf)
def l_X4_perform (r : Nat) : Nat → CS → (Nat → Bool) → Int32 → Option (Int32 × CS × (Nat → Bool))
  | 0, _, _, _ => none
  | n + 1, S, h, x => if 400 < x then some (-1, S, h) else ((f_X3_readToken S).bind fun S1 => if cF S1 9 = 0 then some (x, S1, h) else ((f_X4_performOne h S1 r).bind fun p => if p.1 = true then l_X4_perform r n p.2.1 p.2.2 (x + 1) else some (x, p.2.1, p.2.2)))
def f_X4_perform (h : Nat → Bool) (S : CS) (r : Nat) : Option (Int32 × CS × (Nat → Bool)) := l_X4_perform r fu (f_X3_rewind (sF S 13 0)) h 0
theorem l_X4_perform_ok {lk : Nat × Nat} {r : Nat} (hr : r < 2) : ∀ (n : Nat) (S : CS) (h : Nat → Bool) (x : Int32) (q : Int32 × CS × (Nat → Bool)), cWf h lk → l_X4_perform r n S h x = some q → hle h q.2.2 ∧ cWf q.2.2 lk := by
  intro n
  induction n with
  | zero =>
    intro S h x q hw e
    rw [l_X4_perform] at e
    cases e
  | succ n ih =>
    intro S h x q hw e
    rw [l_X4_perform] at e
    rcases op_if e with ⟨_, e⟩ | ⟨_, e⟩
    · obtain rfl := Option.some.inj e
      exact ⟨hle_refl h, hw⟩
    · obtain ⟨S1, _, e⟩ := op_bd e
      rcases op_if e with ⟨_, e⟩ | ⟨_, e⟩
      · obtain rfl := Option.some.inj e
        exact ⟨hle_refl h, hw⟩
      · obtain ⟨p, ep, e⟩ := op_bd e
        obtain ⟨k1, k2⟩ := X4_performOne_ok hr hw ep
        rcases op_if e with ⟨_, e⟩ | ⟨_, e⟩
        · obtain ⟨i1, i2⟩ := ih _ _ _ q k2 e
          exact ⟨hle_trans k1 i1, i2⟩
        · obtain rfl := Option.some.inj e
          exact ⟨k1, k2⟩
theorem X4_perform_ok {h : Nat → Bool} {lk : Nat × Nat} {S : CS} {r : Nat} {q : Int32 × CS × (Nat → Bool)} (hr : r < 2) (hw : cWf h lk) (e : f_X4_perform h S r = some q) : hle h q.2.2 ∧ cWf q.2.2 lk := by
  unfold f_X4_perform at e
  exact l_X4_perform_ok hr _ _ _ _ q hw e
set_option maxHeartbeats 4000000 in
set_option maxRecDepth 100000 in
theorem c_X4_perform (l : Launch) (B : CB) (sa0 : Nat → Nat) (h0 : Nat → Bool) (lk : Nat × Nat) (hw0 : cWf h0 lk) (A : Nat → Prop) (S0 : CS) (r : Nat) (hr : r < 2) (q : Int32 × CS × (Nat → Bool)) (hf : f_X4_perform h0 S0 r = some q) : CAi l yX4_perform cX4_perform 3 (some .int) 7 150 B (cKf B A) A sa0 h0 lk lk S0 [.ref (cAf B 13), .ref (cAf B (1 + r))] q.1 q.2.1 q.2.2 := by
  refine met_ai (by decide +kernel) (Nat.le_of_ble_eq_true rfl) (fun K hl hA hn hRm F hR => ?_)
  subst hl; subst hA
  have hok := cKf_ok B (kA K)
  have L : ∀ (n : Nat) (S : CS) (h : Nat → Bool) (sa : Nat → Nat) (x : Int32), agr h0 sa0 sa → hle h0 h → cWf h lk → l_X4_perform r n S h x = some q → G K (cX B (kA K) sa h lk) (5 * (cn h - cn h0)) (1291 * (cn h - cn h0)) 14 S [(0, .ref (cAf B 13)), (1, .ref (cAf B (1 + r))), (2, .int x)] [] := by
    intro n
    induction n with
    | zero =>
      intro S h sa x _ _ _ hf
      rw [l_X4_perform] at hf
      cases hf
    | succ n ih =>
      intro S h sa x hag0 hle0 hw hf
      have hq := cn_mono (l_X4_perform_ok hr _ _ _ _ q hw hf).1
      have hq0 := cn_mono hle0
      rw [l_X4_perform] at hf
      have hcs : 5 * (cn h - cn h0) ≤ (kR K).cells ∧ 1291 * (cn h - cn h0) ≤ (kR K).slots := by
        rw [hRm]; exact ⟨Nat.mul_le_mul_left 5 (Nat.sub_le_sub_right hq _), Nat.mul_le_mul_left 1291 (Nat.sub_le_sub_right hq _)⟩
      refine g_iload_n 15 2 F dX4_perform_14 rfl rfl ?_
      refine g_sipush 18 (v := 400) F dX4_perform_15 (by decide) rfl ?_
      refine g_icmp_gt 54 21 F dX4_perform_18 rfl rfl hf (fun _ hf => ?_) (fun _ hf => ?_)
      · refine g_iconst 55 (v := (-1)) F dX4_perform_54 (by decide) rfl ?_
        obtain rfl := Option.some.inj hf
        exact hR sa hag0 _ _ dX4_perform_55
      · refine g_aload_n 22 0 F dX4_perform_21 rfl rfl ?_
        refine cg_X4_tape 25 F fl_X4_15 dX4_perform_22 rfl ?_
        obtain ⟨S1, e1, hf⟩ := op_bd hf
        refine g_cVv 28 (st := []) F hok (c_X3_readToken (kl K) B sa h lk hw (kA K) S S1 e1) wy_X3_readToken ml_X4_28 (c_rc_X3 F) ⟨Nat.le_of_ble_eq_true rfl, Nat.le_of_ble_eq_true rfl⟩ rfl rfl (Nat.le_of_ble_eq_true rfl) hcs dX4_perform_25 rfl ?_
        refine g_aload_n 29 0 F dX4_perform_28 rfl rfl ?_
        refine cg_X4_tape 32 F fl_X4_15 dX4_perform_29 rfl ?_
        refine cg_X3_token 35 F fl_X4_31 dX4_perform_32 rfl ?_
        refine g_if_eq 46 38 F dX4_perform_35 rfl rfl hf (fun _ hf => ?_) (fun _ hf => ?_)
        · refine g_iload_n 47 2 F dX4_perform_46 rfl rfl ?_
          obtain rfl := Option.some.inj hf
          exact hR sa hag0 _ _ dX4_perform_47
        · refine g_aload_n 39 0 F dX4_perform_38 rfl rfl ?_
          refine g_aload_n 40 1 F dX4_perform_39 rfl rfl ?_
          obtain ⟨p, ep, hf⟩ := op_bd hf
          obtain ⟨k1, k2⟩ := X4_performOne_ok hr hw ep
          have hq2 := cn_mono k1
          have hq1 : cn p.2.2 ≤ cn q.2.2 := by
            rcases op_if hf with ⟨_, hf⟩ | ⟨_, hf⟩
            · exact cn_mono (l_X4_perform_ok hr _ _ _ _ q k2 hf).1
            · obtain rfl := Option.some.inj hf
              exact Nat.le_refl _
          have hcs1 : 5 * (cn h - cn h0) + 5 * (cn p.2.2 - cn h) ≤ (kR K).cells ∧ 1291 * (cn h - cn h0) + 1291 * (cn p.2.2 - cn h) ≤ (kR K).slots := by
            rw [hRm]
            constructor
            · show 5 * (cn h - cn h0) + 5 * (cn p.2.2 - cn h) ≤ 5 * (cn q.2.2 - cn h0); omega
            · show 1291 * (cn h - cn h0) + 1291 * (cn p.2.2 - cn h) ≤ 1291 * (cn q.2.2 - cn h0); omega
          refine g_aVi 43 (st := []) F hok (c_X4_performOne (kl K) B sa h lk hw (kA K) S1 r hr p ep) wy_X4_performOne ml_X4_34 (c_rc_X4 F) ⟨Nat.le_of_ble_eq_true rfl, Nat.le_of_ble_eq_true rfl⟩ rfl rfl (Nat.le_of_ble_eq_true rfl) hcs1 dX4_perform_40 rfl (fun sa1 hag1 => ?_)
          refine G.widen (5 * (cn p.2.2 - cn h0)) (1291 * (cn p.2.2 - cn h0)) (by omega) (by omega) ?_
          refine g_ifne_b 48 46 F dX4_perform_43 rfl rfl hf (fun _ hf => ?_) (fun _ hf => ?_)
          · refine g_iinc 51 2 (x + 1) [(2, .int (x + 1)), (0, .ref (cAf B 13)), (1, .ref (cAf B (1 + r)))] F dX4_perform_48 rfl rfl (lt_kn hn (by decide)) rfl rfl ?_
            refine g_goto 14 F dX4_perform_51 rfl ?_
            exact G.lvs [1, 2, 0] rfl (ih _ p.2.2 sa1 (x + 1) (agr_trans hag0 hle0 hag1) (hle_trans hle0 k1) k2 hf)
          · refine g_iload_n 47 2 F dX4_perform_46 rfl rfl ?_
            obtain rfl := Option.some.inj hf
            exact hR sa1 (agr_trans hag0 hle0 hag1) _ _ dX4_perform_47
  unfold f_X4_perform at hf
  show G K (cX B (kA K) sa0 h0 lk) 0 0 0 S0 [(0, .ref (cAf B 13)), (1, .ref (cAf B (1 + r)))] []
  refine g_aload_n 1 0 F dX4_perform_0 rfl rfl ?_
  refine g_iconst 2 (v := 0) F dX4_perform_1 (by decide) rfl ?_
  refine cp_X4_foundFault 5 F fl_X4_19 dX4_perform_2 rfl ?_
  refine g_aload_n 6 0 F dX4_perform_5 rfl rfl ?_
  refine cg_X4_tape 9 F fl_X4_15 dX4_perform_6 rfl ?_
  refine g_cVv 12 (st := []) F hok (c_X3_rewind (kl K) B sa0 h0 lk hw0 (kA K) (sF S0 13 0) _ rfl) wy_X3_rewind ml_X4_23 (c_rc_X3 F) ⟨Nat.le_of_ble_eq_true rfl, Nat.le_of_ble_eq_true rfl⟩ rfl rfl (Nat.le_of_ble_eq_true rfl) ⟨Nat.zero_le _, Nat.zero_le _⟩ dX4_perform_9 rfl ?_
  refine g_iconst 13 (v := 0) F dX4_perform_12 (by decide) rfl ?_
  refine g_istore_n 14 [(2, .int 0), (0, .ref (cAf B 13)), (1, .ref (cAf B (1 + r)))] F dX4_perform_13 (lt_kn hn (by decide)) rfl rfl ?_
  refine G.widen (5 * (cn h0 - cn h0)) (1291 * (cn h0 - cn h0)) (Nat.zero_le _) (Nat.zero_le _) ?_
  exact G.lvs [1, 2, 0] rfl (L fu _ h0 sa0 0 (agr_refl h0 sa0) (hle_refl h0) hw0 hf)
