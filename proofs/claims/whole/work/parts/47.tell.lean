section Lk
variable {K : Ctx} {B : CB} {sa : Nat → Nat} {h : Nat → Bool} {lk : Nat × Nat} {cs sl pc : Nat} {S : CS} {lv : List (Nat × Value)} {st : List Value} {cc : ByteArray} {fr lo idx : Nat}
theorem cCell_lk {lk' : Nat × Nat} : ∀ n, n ≠ 0 → cCell B sa h lk' S n = cCell B sa h lk S n := by
  intro n hn
  by_cases hlt : n < 16
  · rw [cCell_fix hlt, cCell_fix hlt]
    match n, hlt, hn with
    | 0, _, z => exact absurd rfl z
    | 1, _, _ => rfl
    | 2, _, _ => rfl
    | 3, _, _ => rfl
    | 4, _, _ => rfl
    | 5, _, _ => rfl
    | 6, _, _ => rfl
    | 7, _, _ => rfl
    | 8, _, _ => rfl
    | 9, _, _ => rfl
    | 10, _, _ => rfl
    | 11, _, _ => rfl
    | 12, _, _ => rfl
    | 13, _, _ => rfl
    | 14, _, _ => rfl
    | 15, _, _ => rfl
    | n + 16, z, _ => exact absurd z (by omega)
  · unfold cCell
    rw [if_neg hlt, if_neg hlt]
theorem cp_live {r : Nat} (n : Nat) (F : Fx K cc RX5 (cKf B (kA K)) fr lo) (hl : Cond.fieldLink RX5 idx "WhereFound" "live" "LWhereFound$Register;" ∈ wT) (d : decode cc pc = .ok (.putfield idx, 3)) (hn : pc + 3 = n) (kk : G K (cX B (kA K) sa h (r, lk.2)) cs sl n S lv st) : G K (cX B (kA K) sa h lk) cs sl pc S lv (.ref (cAf B (1 + r)) :: .ref (cAf B 0) :: st) := by
  subst hn
  intro H locs ls hX hS hls
  obtain ⟨p, hp, hq⟩ := nW_get (ad := cAd B sa) (cf := cCell B sa h lk S) (cNm_fix (h := h) (show 0 < 16 by decide))
  refine va_put (D := B.1) (ci := 5) (v := .ref (cAf B (1 + r))) (ty := .object "WhereFound$Register") (C := RX5) (T := TX5) (N := 7) F.1 F.2.1 F.2.2.2.2.1 inT5 tyX5 tyX5_ok nmX5 F.2.2.2.1 F.2.2.2.2.2.1.1 hX.1 hX.2 hS p hq rfl 0 (by decide) (F.2.2.2.2.1 _ hl) (fun _ h9 => h9) rfl (by decide +kernel) rfl rfl (Nat.le_of_ble_eq_true rfl) d (fun H1 locs1 hP hD hS1 => ?_)
  have es := nW_set (ad := cAd B sa) (cf' := cCell B sa h (r, lk.2) S) hX.2 hp rfl (fun n' hn' => cCell_lk n' hn')
  have hP : va_P B.1 vwCl ((cWl B sa h lk S).set p (cAd B sa 0, cCell B sa h (r, lk.2) S 0)) H1 := hP
  have hD : va_D (kA K) ((cWl B sa h lk S).set p (cAd B sa 0, cCell B sa h (r, lk.2) S 0)) := hD
  rw [es] at hP hD
  exact kk H1 locs1 ls ⟨hP, hD⟩ hS1 hls
theorem cp_kept {r : Nat} (n : Nat) (F : Fx K cc RX5 (cKf B (kA K)) fr lo) (hl : Cond.fieldLink RX5 idx "WhereFound" "kept" "LWhereFound$Register;" ∈ wT) (d : decode cc pc = .ok (.putfield idx, 3)) (hn : pc + 3 = n) (kk : G K (cX B (kA K) sa h (lk.1, r)) cs sl n S lv st) : G K (cX B (kA K) sa h lk) cs sl pc S lv (.ref (cAf B (1 + r)) :: .ref (cAf B 0) :: st) := by
  subst hn
  intro H locs ls hX hS hls
  obtain ⟨p, hp, hq⟩ := nW_get (ad := cAd B sa) (cf := cCell B sa h lk S) (cNm_fix (h := h) (show 0 < 16 by decide))
  refine va_put (D := B.1) (ci := 5) (v := .ref (cAf B (1 + r))) (ty := .object "WhereFound$Register") (C := RX5) (T := TX5) (N := 7) F.1 F.2.1 F.2.2.2.2.1 inT5 tyX5 tyX5_ok nmX5 F.2.2.2.1 F.2.2.2.2.2.1.1 hX.1 hX.2 hS p hq rfl 1 (by decide) (F.2.2.2.2.1 _ hl) (fun _ h9 => h9) rfl (by decide +kernel) rfl rfl (Nat.le_of_ble_eq_true rfl) d (fun H1 locs1 hP hD hS1 => ?_)
  have es := nW_set (ad := cAd B sa) (cf' := cCell B sa h (lk.1, r) S) hX.2 hp rfl (fun n' hn' => cCell_lk n' hn')
  have hP : va_P B.1 vwCl ((cWl B sa h lk S).set p (cAd B sa 0, cCell B sa h (lk.1, r) S 0)) H1 := hP
  have hD : va_D (kA K) ((cWl B sa h lk S).set p (cAd B sa 0, cCell B sa h (lk.1, r) S 0)) := hD
  rw [es] at hP hD
  exact kk H1 locs1 ls ⟨hP, hD⟩ hS1 hls
end Lk
def j_X5_tell (S : CS) : CS := sF (sF S 8 0) 0 (cF (sF S 8 0) 13)
def f_X5_tell (h : Nat → Bool) (lk : Nat × Nat) (S : CS) : Option (Int32 × CS × (Nat → Bool) × (Nat × Nat)) :=
  (f_X0_become h S lk.2 lk.1).bind fun p => (f_X4_perform p.2 p.1 lk.1).bind fun q => if cF (j_X5_tell q.2.1) 0 = 0 then some (q.1, j_X5_tell q.2.1, q.2.2, lk) else some (-1, j_X5_tell q.2.1, q.2.2, (lk.2, lk.1))
theorem X5_tell_ok {h : Nat → Bool} {lk : Nat × Nat} {S : CS} {q : Int32 × CS × (Nat → Bool) × (Nat × Nat)} (hw : cWf h lk) (e : f_X5_tell h lk S = some q) : hle h q.2.2.1 ∧ cWf q.2.2.1 q.2.2.2 := by
  unfold f_X5_tell at e
  obtain ⟨p, ep, e⟩ := op_bd e
  obtain ⟨u, eu, e⟩ := op_bd e
  obtain ⟨k1, k2⟩ := X0_become_ok hw.2.1 hw ep
  obtain ⟨k3, k4⟩ := X4_perform_ok hw.1 k2 eu
  rcases op_if e with ⟨_, e⟩ | ⟨_, e⟩
  · obtain rfl := Option.some.inj e
    exact ⟨hle_trans k1 k3, k4⟩
  · obtain rfl := Option.some.inj e
    exact ⟨hle_trans k1 k3, k4.2.1, k4.1, k4.2.2⟩
set_option maxHeartbeats 4000000 in
set_option maxRecDepth 100000 in
theorem c_X5_tell (l : Launch) (B : CB) (sa : Nat → Nat) (h : Nat → Bool) (lk : Nat × Nat) (hw : cWf h lk) (A : Nat → Prop) (S : CS) (q : Int32 × CS × (Nat → Bool) × (Nat × Nat)) (hf : f_X5_tell h lk S = some q) : CAi l yX5_tell cX5_tell 3 (some .int) 8 172 B (cKf B A) A sa h lk q.2.2.2 S [.ref (cAf B 0)] q.1 q.2.1 q.2.2.1 := by
  refine met_ai (by decide +kernel) (Nat.le_of_ble_eq_true rfl) (fun K hl hA hn hRm F hR => ?_)
  subst hl; subst hA
  have hok := cKf_ok B (kA K)
  unfold f_X5_tell at hf
  obtain ⟨p, ep, hf⟩ := op_bd hf
  obtain ⟨u, eu, hf⟩ := op_bd hf
  obtain ⟨k1, k2⟩ := X0_become_ok hw.2.1 hw ep
  obtain ⟨k3, k4⟩ := X4_perform_ok hw.1 k2 eu
  have hq : q.2.2.1 = u.2.2 := by
    rcases op_if hf with ⟨_, hf⟩ | ⟨_, hf⟩
    · obtain rfl := Option.some.inj hf; rfl
    · obtain rfl := Option.some.inj hf; rfl
  have m1 := cn_mono k1
  have m3 := cn_mono k3
  rw [hq] at hRm
  have hc1 : 0 + 5 * (cn p.2 - cn h) ≤ (kR K).cells ∧ 0 + 1291 * (cn p.2 - cn h) ≤ (kR K).slots := by
    rw [hRm]
    constructor
    · show 0 + 5 * (cn p.2 - cn h) ≤ 5 * (cn u.2.2 - cn h); omega
    · show 0 + 1291 * (cn p.2 - cn h) ≤ 1291 * (cn u.2.2 - cn h); omega
  have hc2 : 0 + 5 * (cn p.2 - cn h) + 5 * (cn u.2.2 - cn p.2) ≤ (kR K).cells ∧ 0 + 1291 * (cn p.2 - cn h) + 1291 * (cn u.2.2 - cn p.2) ≤ (kR K).slots := by
    rw [hRm]
    constructor
    · show 0 + 5 * (cn p.2 - cn h) + 5 * (cn u.2.2 - cn p.2) ≤ 5 * (cn u.2.2 - cn h); omega
    · show 0 + 1291 * (cn p.2 - cn h) + 1291 * (cn u.2.2 - cn p.2) ≤ 1291 * (cn u.2.2 - cn h); omega
  show G K (cX B (kA K) sa h lk) 0 0 0 S [(0, .ref (cAf B 0))] []
  refine g_aload_n 1 0 F dX5_tell_0 rfl rfl ?_
  refine cg_X5_kept 4 F fl_X5_16 dX5_tell_1 rfl ?_
  refine g_aload_n 5 0 F dX5_tell_4 rfl rfl ?_
  refine cg_X5_live 8 F fl_X5_10 dX5_tell_5 rfl ?_
  refine g_aVv 11 (st := []) F hok (c_X0_become (kl K) B sa h lk hw (kA K) S lk.2 lk.1 hw.2.1 hw.1 p ep) wy_X0_become ml_X5_61 (c_rc_X0 F hw.2.1) ⟨Nat.le_of_ble_eq_true rfl, Nat.le_of_ble_eq_true rfl⟩ rfl rfl (Nat.le_of_ble_eq_true rfl) hc1 dX5_tell_8 rfl (fun sa1 hag1 => ?_)
  refine g_aload_n 12 0 F dX5_tell_11 rfl rfl ?_
  refine cg_X5_text 15 F fl_X5_38 dX5_tell_12 rfl ?_
  refine g_aload_n 16 0 F dX5_tell_15 rfl rfl ?_
  refine cg_X5_live 19 F fl_X5_10 dX5_tell_16 rfl ?_
  refine g_aVi 22 (st := []) F hok (c_X4_perform (kl K) B sa1 p.2 lk k2 (kA K) p.1 lk.1 hw.1 u eu) wy_X4_perform ml_X5_65 (c_rc_X4 F) ⟨Nat.le_of_ble_eq_true rfl, Nat.le_of_ble_eq_true rfl⟩ rfl rfl (Nat.le_of_ble_eq_true rfl) hc2 dX5_tell_19 rfl (fun sa2 hag2 => ?_)
  have hag := agr_trans hag1 k1 hag2
  refine G.widen (5 * (cn u.2.2 - cn h)) (1291 * (cn u.2.2 - cn h)) (by omega) (by omega) ?_
  refine g_istore_n 23 [(1, .int u.1), (0, .ref (cAf B 0))] F dX5_tell_22 (lt_kn hn (by decide)) rfl rfl ?_
  refine g_aload_n 24 1 F dX5_tell_23 rfl rfl ?_
  refine cg_X5_tape 27 F fl_X5_29 dX5_tell_24 rfl ?_
  refine g_iconst 28 (v := 0) F dX5_tell_27 (by decide) rfl ?_
  refine cp_X3_size 31 F fl_X5_58 dX5_tell_28 rfl ?_
  refine g_aload_n 32 1 F dX5_tell_31 rfl rfl ?_
  refine g_aload_n 33 1 F dX5_tell_32 rfl rfl ?_
  refine cg_X5_text 36 F fl_X5_38 dX5_tell_33 rfl ?_
  refine cg_X4_foundFault 39 F fl_X5_69 dX5_tell_36 rfl ?_
  refine cp_X5_latestFault 42 F fl_X5_46 dX5_tell_39 rfl ?_
  change G K (cX B (kA K) sa2 u.2.2 lk) _ _ 42 (j_X5_tell u.2.1) _ _
  refine g_aload_n 43 1 F dX5_tell_42 rfl rfl ?_
  refine cg_X5_latestFault 46 F fl_X5_46 dX5_tell_43 rfl ?_
  refine g_if_ne 51 49 F dX5_tell_46 rfl rfl hf (fun _ hf => ?_) (fun _ hf => ?_)
  · obtain rfl := Option.some.inj hf
    refine g_aload_n 52 1 F dX5_tell_51 rfl rfl ?_
    refine cg_X5_live 55 F fl_X5_10 dX5_tell_52 rfl ?_
    refine g_astore_n 56 [(2, .ref (cAf B (1 + lk.1))), (1, .int u.1), (0, .ref (cAf B 0))] F dX5_tell_55 (lt_kn hn (by decide)) rfl rfl ?_
    refine g_aload_n 57 2 F dX5_tell_56 rfl rfl ?_
    refine g_aload_n 58 2 F dX5_tell_57 rfl rfl ?_
    refine cg_X5_kept 61 F fl_X5_16 dX5_tell_58 rfl ?_
    refine cp_live 64 F fl_X5_10 dX5_tell_61 rfl ?_
    refine g_aload_n 65 2 F dX5_tell_64 rfl rfl ?_
    refine g_aload_n 66 0 F dX5_tell_65 rfl rfl ?_
    refine cp_kept 69 F fl_X5_16 dX5_tell_66 rfl ?_
    refine g_iconst 70 (v := (-1)) F dX5_tell_69 (by decide) rfl ?_
    exact hR sa2 hag _ _ dX5_tell_70
  · obtain rfl := Option.some.inj hf
    refine g_iload_n 50 0 F dX5_tell_49 rfl rfl ?_
    exact hR sa2 hag _ _ dX5_tell_50
