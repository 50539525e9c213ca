/-! The law's own world: the class's, the reference's, and long[1]. -/
abbrev l3 (B : CB) (cJ : ClassId) (ad : Nat → Nat) (a0 : Nat) (sa : Nat → Nat) (h : Nat → Bool) (lk : Nat × Nat) (S : CS) (T : MS) (f : Nat → Int64) : va_W := cWl B sa h lk S ++ (mW (B.2.1 0) (B.2.1 1) ad T ++ oE cJ a0 f)
abbrev yKf (K : Ctx) (B : CB) (cJ : ClassId) : State → Prop := lKf B cJ (kA K)
theorem yKf_m {B : CB} {cJ : ClassId} {A : Nat → Prop} {U : State} (h : lKf B cJ A U) : mKf B.1 (B.2.1 0) (B.2.1 1) U := ⟨h.1.1.1, fun k q hq => h.1.1.2 k q (by
  match k, hq with
  | 0, hq => exact hq
  | 1, hq => exact hq
  | k + 2, hq => cases hq)⟩
section LawRows
variable {K : Ctx} {B : CB} {cJ : ClassId} {ad : Nat → Nat} {a0 : Nat} {sa : Nat → Nat} {h h1 : Nat → Bool} {lk lk1 : Nat × Nat} {S S' : CS} {T T' : MS} {f : Nat → Int64} {cs sl pc : Nat} {lv : List (Nat × Value)} {st st0 As : List Value} {cc cc2 : ByteArray} {own : String} {fr lo fr2 lo2 idx maxL k : Nat} {y : MethodName} {ret : Option FieldType}
theorem g_lC (n : Nat) {r : Int32} (F : Fx K cc own (yKf K B cJ) fr lo) (hM : ∀ A, Ci (kl K) y cc2 maxL ret fr2 lo2 (cX B A sa h lk) (cKf B A) A S (.ref (cAf B 0) :: As) r S') (wy : Wy y cc2 maxL ret RX5 k) (hl : Cond.methodLink own idx y ∈ wT) (hR : fr2 + 1 ≤ fr ∧ 8 + (maxL + 11) + lo2 ≤ lo) (hst : st0 = As.reverse ++ .ref (cAf B 0) :: st) (hk : As.length = k) (hcat : (st.map fun v => v.category).sum ≤ 8) (hcs : cs ≤ (kR K).cells ∧ sl ≤ (kR K).slots) (d : decode cc pc = .ok (.invokevirtual idx, 3)) (hn : pc + 3 = n) (kk : G K (rX B.1 (kA K)) cs sl n (l3 B cJ ad a0 sa h lk S' T f) lv (.int r :: st)) : G K (rX B.1 (kA K)) cs sl pc (l3 B cJ ad a0 sa h lk S T f) lv st0 :=
  g_fVi n (wf := cWl B sa h lk) (Kf := fun A => cKf B A) F F.2.2.2.2.2.1.1 (cKf_all B) hM wy hl (fun H locs hX hS => va_recv F.2.2.2.2.2.1.1.1 (rX_app.mp hX).1.1 (ci := 5) (q0 := 0) rfl (cAf_0 B sa h lk S)) hR hst hk hcat hcs d hn kk
theorem l3_m {D : va_G} {A : Nat → Prop} {w1 w2 w3 : va_W} {H : Heap} (h : rX D A (w1 ++ (w2 ++ w3)) H) : rX D A (w2 ++ (w3 ++ w1)) H := by
  have h9 := rX_comm h
  rw [List.append_assoc] at h9
  exact h9
theorem l3_o {D : va_G} {A : Nat → Prop} {w1 w2 w3 : va_W} {H : Heap} (h : rX D A (w1 ++ (w2 ++ w3)) H) : rX D A ((w1 ++ w3) ++ w2) H := by
  obtain ⟨a1, a2, d1⟩ := rX_app.mp h
  have h9 : rX D A (w1 ++ (w3 ++ w2)) H := rX_app.mpr ⟨a1, rX_comm a2, fun i j p q hp hq e => by
    rcases app_c hq with hq | ⟨j', -, hq⟩
    · exact d1 i _ p q hp (app_r hq) e
    · exact d1 i _ p q hp (app_l hq) e⟩
  rw [List.append_assoc]
  exact h9
theorem g_lM (n : Nat) {r : Int32} (F : Fx K cc own (yKf K B cJ) fr lo) (hM : ∀ A, Ci (kl K) y cc2 maxL ret fr2 lo2 (mX B.1 (B.2.1 0) (B.2.1 1) A ad) (mKf B.1 (B.2.1 0) (B.2.1 1)) A T (.ref (ad 0) :: As) r T') (wy : Wy y cc2 maxL ret RX6 k) (hl : Cond.methodLink own idx y ∈ wT) (hR : fr2 + 1 ≤ fr ∧ 8 + (maxL + 11) + lo2 ≤ lo) (hst : st0 = As.reverse ++ .ref (ad 0) :: st) (hk : As.length = k) (hcat : (st.map fun v => v.category).sum ≤ 8) (hcs : cs ≤ (kR K).cells ∧ sl ≤ (kR K).slots) (d : decode cc pc = .ok (.invokevirtual idx, 3)) (hn : pc + 3 = n) (kk : G K (rX B.1 (kA K)) cs sl n (l3 B cJ ad a0 sa h lk S T' f) lv (.int r :: st)) : G K (rX B.1 (kA K)) cs sl pc (l3 B cJ ad a0 sa h lk S T f) lv st0 := by
  refine G.conv (X' := rX B.1 (kA K)) (S' := mW (B.2.1 0) (B.2.1 1) ad T ++ (oE cJ a0 f ++ cWl B sa h lk S)) (fun H hX => l3_m hX) ?_
  refine g_fVi n (wf := mW (B.2.1 0) (B.2.1 1) ad) (Kf := fun _ => mKf B.1 (B.2.1 0) (B.2.1 1)) F (yKf_m F.2.2.2.2.2.1) (mKf_all B.1 (B.2.1 0) (B.2.1 1)) hM wy hl (fun H locs hX hS => va_recv F.2.2.2.2.2.1.1.1 (rX_app.mp hX).1.1 (ci := 6) (q0 := 0) rfl rfl) hR hst hk hcat hcs d hn ?_
  exact G.conv (X' := rX B.1 (kA K)) (fun H hX => l3_m (l3_m hX)) kk
theorem g_lA (n : Nat) {r : Int32} (F : Fx K cc own (yKf K B cJ) fr lo) (hM : ∀ A, CAi (kl K) y cc2 maxL ret fr2 lo2 B (cKf B A) A sa h lk lk1 S (.ref (cAf B 0) :: As) r S' h1) (wy : Wy y cc2 maxL ret RX5 k) (hl : Cond.methodLink own idx y ∈ wT) (hR : fr2 + 1 ≤ fr ∧ 8 + (maxL + 11) + lo2 ≤ lo) (hst : st0 = As.reverse ++ .ref (cAf B 0) :: st) (hk : As.length = k) (hcat : (st.map fun v => v.category).sum ≤ 8) (hcs : cs + 5 * (cn h1 - cn h) ≤ (kR K).cells ∧ sl + 1291 * (cn h1 - cn h) ≤ (kR K).slots) (d : decode cc pc = .ok (.invokevirtual idx, 3)) (hn : pc + 3 = n) (kk : ∀ sa', G K (rX B.1 (kA K)) (cs + 5 * (cn h1 - cn h)) (sl + 1291 * (cn h1 - cn h)) n (l3 B cJ ad a0 sa' h1 lk1 S' T f) lv (.int r :: st)) : G K (rX B.1 (kA K)) cs sl pc (l3 B cJ ad a0 sa h lk S T f) lv st0 := by
  subst hn
  intro H locs ls hX hS hls
  have hA : ∀ q, H.size ≤ q → kA K q := fun q hq => F.2.2.2.2.2.2.1 q (Nat.le_trans hS.1 hq)
  refine va_calli (va_runV (As := As) (rest := st) ⟨F.1, F.2.1, F.2.2.1, F.2.2.2.1, F.2.2.2.2.1⟩ (hM (fA (cWl B sa h lk S) H.size)) (cw_V F wy hl ⟨rfl, rfl, rfl, rfl⟩ hR) ⟨cPre_blind (cKf_ok B _), va_recv F.2.2.2.2.2.1.1.1 (rX_app.mp hX).1.1 (ci := 5) (q0 := 0) rfl (cAf_0 B sa h lk S), fun U hU hW => ⟨rfl, fr_pre (Kf := fun A => cKf B A) F F.2.2.2.2.2.1.1 (cKf_all B) hX hS U hU hW⟩⟩ rfl hk hls.1 hst (lv_room hcat) d hcs) hS (fun q _ h => fr_A hX hA q h) (fun q h => fr_A hX hA q h) (fun r' u t H1 locs1 ht hvm hw hB hz1 hk1 hS1 => ?_)
  obtain ⟨rfl, hw⟩ := hw
  have hB : rX B.1 (fA (cWl B sa h lk S) H.size) (cWl B u h1 lk1 S') t.heap := hB
  rw [ht] at hB
  exact kk u H1 locs1 ls (fr_back hX hB hk1 hA) hS1 hls
theorem g_lO (n : Nat) {a1 a2 : Int32} {q : Option Int32 × CS} (hst : (kl K).stackTraces = false) (hw : cWf h lk) (F : Fx K cL_law RL (yKf K B cJ) 12 470) (hf : f_X5_of h lk S a1 a2 = some q) (hcs : cs + 1 ≤ (kR K).cells ∧ sl + 6 ≤ (kR K).slots) (d : decode cL_law pc = .ok (.invokestatic 69, 3)) (hn : pc + 3 = n) (kk : G K (rX B.1 (kA K)) (cs + 1) (sl + 6) n (l3 B cJ ad a0 sa h lk q.2 T (lofV q f)) lv [.int (lofR q)]) : G K (rX B.1 (kA K)) cs sl pc (l3 B cJ ad a0 sa h lk S T f) lv [.ref a0, .int a2, .int a1, .ref (cAf B 0)] := by
  subst hn
  refine G.conv (X' := rX B.1 (kA K)) (S' := lW B cJ sa h lk a0 (S, f) ++ mW (B.2.1 0) (B.2.1 1) ad T) (fun H hX => l3_o hX) ?_
  intro H locs ls hX hS hls
  have hA : ∀ q, H.size ≤ q → kA K q := fun q hq => F.2.2.2.2.2.2.1 q (Nat.le_trans hS.1 hq)
  have hts := F.2.2.2.2.1
  refine va_calli (vx_runSW (As := [.ref (cAf B 0), .int a1, .int a2, .ref a0]) (rest := []) ⟨F.1, F.2.1, F.2.2.1, F.2.2.2.1, F.2.2.2.2.1⟩ (c_L_of (kl K) hst B cJ sa h lk hw (fA (lW B cJ sa h lk a0 (S, f)) H.size) S a0 f a1 a2 q hf) (vx_cwSW 4 hts (fun w hw => ?_) rfl rfl rfl ⟨by decide, by decide, by decide +kernel⟩ ⟨Nat.le_trans (Nat.le_of_ble_eq_true rfl : 7 + 1 ≤ 12) F.2.2.2.2.2.2.2.1, Nat.le_trans (Nat.le_of_ble_eq_true rfl : 8 + (5 + 11) + 136 ≤ 470) F.2.2.2.2.2.2.2.2⟩) ⟨cPre_blind ((lKf_all B cJ).1 _), fun U hU hW => ⟨rfl, fr_pre (Kf := fun A => lKf B cJ A) F F.2.2.2.2.2.1 (lKf_all B cJ) hX hS U hU hW⟩⟩ rfl rfl hls.1 rfl (lv_room (Nat.le_of_ble_eq_true rfl)) d hcs) hS (fun q _ h => fr_A hX hA q h) (fun q h => fr_A hX hA q h) (fun r' u t H1 locs1 ht hvm hw hB hz1 hk1 hS1 => ?_)
  · rcases List.mem_append.mp hw with hw | hw
    · rcases List.mem_cons.mp hw with rfl | hw
      · exact ⟨ml_L_69, wT_good ml_L_69⟩
      · rcases List.mem_cons.mp hw with rfl | hw
        · exact ⟨st_L_of, wT_good st_L_of⟩
        · rcases List.mem_cons.mp hw with rfl | hw
          · exact ⟨ii_L, wT_good ii_L⟩
          · cases hw
    · exact wT_goodIn cw_L_of w hw
  · obtain ⟨rfl, rfl⟩ := hw
    have hB : rX B.1 (fA (lW B cJ sa h lk a0 (S, f)) H.size) (lW B cJ sa h lk a0 (q.2, lofV q f)) t.heap := hB
    rw [ht] at hB
    have h9 : rX B.1 (kA K) ((cWl B sa h lk q.2 ++ oE cJ a0 (lofV q f)) ++ mW (B.2.1 0) (B.2.1 1) ad T) H1 := fr_back hX hB hk1 hA
    rw [List.append_assoc] at h9
    have h8 := l3_o h9
    rw [List.append_assoc] at h8
    exact kk H1 locs1 ls h8 hS1 hls
theorem i32_ge {i : Int32} {t : Nat} (hi : i.toInt = (t : Int)) : ¬ i < 0 ∧ i.toNatClampNeg = t := by
  constructor
  · rw [Int32.lt_iff_toInt_lt]; simp; omega
  · show i.toInt.toNat = t
    omega
theorem i32_add {i : Int32} {t j : Nat} (hi : i.toInt = (t : Int)) (ht : t + j < 4000) : (i + Int32.ofNat j).toInt = ((t + j : Nat) : Int) := by
  rw [Int32.toInt_add, hi, Int32.toInt_ofNat_of_lt (by omega), Int.bmod_eq_of_le (by omega) (by omega)]; omega
theorem g_sarg {σ : Type} {X : σ → Heap → Prop} {S : σ} {b L t : Nat} {xs : Nat → Int32} {i : Int32} {jc : Int} {Kf : State → Prop} (n j : Nat) (F : Fx K cc own Kf fr lo) (hX : va_X b L xs (ks K) (ks K).heap) (hbl : b < (ks K).heap.size) (hbA : ¬ kA K b) (hi : i.toInt = (t : Int)) (hL : t + 6 ≤ L ∧ L ≤ 3072) (hj : j < 6) (hl : lv[0]? = some (4, .int i) ∧ lv[1]? = some (0, .ref b)) (d0 : decode cc pc = .ok (.aload_n 0, 1)) (d1 : decode cc (pc + 1) = .ok (.iload 4, 2)) (d2 : decode cc (pc + 3) = .ok (.iconst jc, 1)) (d3 : decode cc (pc + 4) = .ok (.iadd, 1)) (d4 : decode cc (pc + 5) = .ok (.iaload, 1)) (hjc : Int32.ofInt jc = Int32.ofNat j) (hn : pc + 6 = n) (kk : G K X cs sl n S lv (.int (xs (t + j)) :: st)) : G K X cs sl pc S lv st := by
  subst hn
  refine g_aload_n (pc + 1) 1 F d0 hl.2 rfl ?_
  refine g_iload (pc + 3) 0 F d1 hl.1 rfl ?_
  refine g_iconst (pc + 4) F d2 hjc rfl ?_
  refine g_iadd (pc + 5) F d3 rfl ?_
  have h9 := i32_ge (i32_add (j := j) hi (by omega))
  intro H locs ls hX9 hS hls
  refine va_sld F.1 F.2.1 hX hbl hbA hS (show ¬ (i + Int32.ofNat j < 0 ∨ L ≤ (i + Int32.ofNat j).toNatClampNeg) from fun hh => hh.elim h9.1 (fun hh => by rw [h9.2] at hh; omega)) d4 ?_
  rw [h9.2]
  exact kk H locs ls hX9 hS hls
theorem g_bool {σ : Type} {X : σ → Heap → Prop} {S : σ} {x : Int32} {Kf : State → Prop} (n : Nat) (F : Fx K cc own Kf fr lo) (d0 : decode cc pc = .ok (.ifCond .eq 7, 3)) (d1 : decode cc (pc + 3) = .ok (.iconst 1, 1)) (d2 : decode cc (pc + 4) = .ok (.goto 4, 3)) (d3 : decode cc (pc + 7) = .ok (.iconst 0, 1)) (hn : pc + 8 = n) (kk : G K X cs sl n S lv (.int (bI (!(x == 0))) :: st)) : G K X cs sl pc S lv (.int x :: st) := by
  subst hn
  refine g_if_eq (pc + 7) (pc + 3) F d0 (by omega) rfl (rfl : (if x = 0 then true else false) = _) (fun hx _ => ?_) (fun hx _ => ?_)
  · subst hx
    exact g_iconst (pc + 8) F d3 rfl rfl kk
  · refine g_iconst (pc + 4) F d1 rfl rfl ?_
    refine g_goto (pc + 8) F d2 (by omega) ?_
    have h9 : (x == 0) = false := by simp [hx]
    rw [h9] at kk
    exact kk
end LawRows
