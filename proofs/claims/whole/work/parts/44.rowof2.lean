theorem nW_set' {ad : Nat → Nat} {L : List Nat} {cf cf' : Nat → va_E} {k n : Nat} {e : va_E} (hL : L.Pairwise (· < ·)) (hk : L[k]? = some n) (he : cf' n = e) (ho : ∀ n', n' ≠ n → cf' n' = cf n') : (nW ad L cf).set k (ad n, e) = nW ad L cf' := by
  apply List.ext_getElem?
  intro i
  by_cases hi : i = k
  · subst hi
    have hl : i < (nW ad L cf).length := (List.getElem?_eq_some_iff.mp (nW_at (ad := ad) (cf := cf) hk)).1
    rw [List.getElem?_set_self hl, nW_at (ad := ad) (cf := cf') hk, he]
  · rw [List.getElem?_set_ne (Ne.symm hi)]
    unfold nW
    rw [List.getElem?_map, List.getElem?_map]
    cases hN : L[i]? with
    | none => rfl
    | some n' =>
      have hne : n' ≠ n := fun z => by
        subst z
        exact hi (pos_inj hL hN hk)
      simp only [Option.map_some]
      rw [ho n' hne]
section R2
variable {K : Ctx} {D : va_G} {tys : List (ClassId × FieldType)} {ws : va_W} {cs sl pc : Nat} {lv : List (Nat × Value)} {st : List Value} {cc : ByteArray} {own : String} {Kf : State → Prop} {fr lo idx : Nat}
theorem r_get {p k ci N a : Nat} {C : String} {T : u_T} {fs : List Value} {v : Value} (n : Nat) (F : Fx K cc own Kf fr lo) (hK : va_K D vwCl tys (ks K)) (he : ws[p]? = some (a, .inr (ci, fs))) (hc : vwCl[ci]? = some (C, T, N)) (hin : ∀ w ∈ u_ws C T N, w ∈ wT) (hk : k < N) (hl : Cond.fieldLink own idx (T k).1 (T k).2.1 (T k).2.2.1 ∈ wT) (hv : fs[k]? = some v) (d : decode cc pc = .ok (.getfield idx, 3)) (hn : pc + 3 = n) (kk : G K (rX D (kA K)) cs sl n ws lv (v :: st)) : G K (rX D (kA K)) cs sl pc ws lv (.ref a :: st) := by
  subst hn
  exact fun H locs ls hX hS hls => va_get (D := D) F.1 F.2.1 F.2.2.2.2.1 hin F.2.2.2.1 hK hX.1 p he hc k hk (F.2.2.2.2.1 _ hl) (fun _ h9 => h9) hv d (kk H locs ls hX hS hls)
theorem r_aast {p p2 a v N : Nat} {cO : ClassId} {f : Nat → Option Nat} {vs : List Value} {x : Int32} (n : Nat) (F : Fx K cc own Kf fr lo) (hK : va_K D vwCl tys (ks K)) (t0 : Nat) (ht : tys[t0]? = some (cO, .object RX1)) (he : ws[p]? = some (a, .inl (cO, N, .inr (.inr (.inr (.inr f)))))) (hv : ws[p2]? = some (v, .inr (1, vs))) (hi : ok x N) (d : decode cc pc = .ok (.aastore, 1)) (hn : pc + 1 = n) (kk : G K (rX D (kA K)) cs sl n (ws.set p (a, .inl (cO, N, .inr (.inr (.inr (.inr (va_up f x.toNatClampNeg (some v)))))))) lv st) : G K (rX D (kA K)) cs sl pc ws lv (.ref v :: .int x :: .ref a :: st) := by
  subst hn
  intro H locs ls hX hS hls
  refine va_astq (r := (RX1, TX1, 11)) F.1 F.2.1 hK hX.1 hX.2 hS p t0 p2 1 he ht hv rfl hi d (fun H1 locs1 hP hD hS1 => ?_)
  exact kk H1 locs1 ls ⟨hP, hD⟩ hS1 hls
end R2
def f_X0_rowOf (h : Nat → Bool) (S : CS) (r : Nat) (i : Int32) : Option (Nat × CS × (Nat → Bool)) :=
  if ok i 6 then (if h (6 * r + i.toNatClampNeg) = true then some (6 * r + i.toNatClampNeg, S, h) else some (6 * r + i.toNatClampNeg, zP S (6 * r + i.toNatClampNeg), va_up h (6 * r + i.toNatClampNeg) true)) else none
theorem rowOf_ok {h : Nat → Bool} {lk : Nat × Nat} {S : CS} {r : Nat} {i : Int32} {q : Nat × CS × (Nat → Bool)} (hr : r < 2) (hw : cWf h lk) (e : f_X0_rowOf h S r i = some q) : hle h q.2.2 ∧ cWf q.2.2 lk ∧ q.2.2 q.1 = true := by
  unfold f_X0_rowOf at e
  obtain ⟨hi, e⟩ := op_ok e
  have h6 : i.toNatClampNeg < 6 := Nat.not_le.mp (fun z => hi (Or.inr z))
  rcases op_if e with ⟨c, e⟩ | ⟨c, e⟩
  · obtain rfl := Option.some.inj e
    exact ⟨hle_refl h, hw, c⟩
  · obtain rfl := Option.some.inj e
    refine ⟨hle_up h _, ⟨hw.1, hw.2.1, fun j hj => ?_⟩, by show va_up h _ true _ = true; unfold va_up; exact if_pos rfl⟩
    have hj : va_up h (6 * r + i.toNatClampNeg) true j = true := hj
    unfold va_up at hj
    by_cases z : j = 6 * r + i.toNatClampNeg
    · omega
    · rw [if_neg z] at hj; exact hw.2.2 j hj
set_option maxHeartbeats 4000000 in
set_option maxRecDepth 100000 in
theorem c_X0_rowOf (l : Launch) (B : CB) (sa : Nat → Nat) (h : Nat → Bool) (lk : Nat × Nat) (hw : cWf h lk) (A : Nat → Prop) (S : CS) (r : Nat) (i : Int32) (hr : r < 2) (q : Nat × CS × (Nat → Bool)) (hf : f_X0_rowOf h S r i = some q) : CAr l yX0_rowOf cX0_rowOf 4 (some (.object "WhereFound$Sportsman")) 2 32 B (cKf B A) A sa h lk S [.ref (cAf B (1 + r)), .int i] q.1 q.2.1 q.2.2 := by
  refine met_ar (Or.inl ⟨_, rfl⟩) (by decide +kernel) (Nat.le_of_ble_eq_true rfl) (fun K hl hA hn hRm F hR => ?_)
  subst hl; subst hA
  have hok := cKf_ok B (kA K)
  unfold f_X0_rowOf at hf
  obtain ⟨hi, hf⟩ := op_ok hf
  have h6 : i.toNatClampNeg < 6 := Nat.not_le.mp (fun z => hi (Or.inr z))
  show G K (cX B (kA K) sa h lk) 0 0 0 S [(0, .ref (cAf B (1 + r))), (1, .int i)] []
  refine g_aload_n 1 0 F dX0_rowOf_0 rfl rfl ?_
  refine cg_X0_rows 4 F hr fl_X0_25 dX0_rowOf_1 rfl ?_
  refine g_iload_n 5 1 F dX0_rowOf_4 rfl rfl ?_
  refine c_ldRows 6 F hr hi dX0_rowOf_5 rfl ?_
  rcases op_if hf with ⟨c1, hf⟩ | ⟨c1, hf⟩
  · obtain rfl := Option.some.inj hf
    have e : hN h r i.toNatClampNeg = some (6 * r + i.toNatClampNeg) := if_pos c1
    rw [e]
    change G K (cX B (kA K) sa h lk) 0 0 6 S [(0, .ref (cAf B (1 + r))), (1, .int i)] [.ref (sa (5 * (6 * r + i.toNatClampNeg)))]
    refine g_astore_n 7 [(2, .ref (sa (5 * (6 * r + i.toNatClampNeg)))), (0, .ref (cAf B (1 + r))), (1, .int i)] F dX0_rowOf_6 (lt_kn hn (by decide)) rfl rfl ?_
    refine g_aload_n 8 0 F dX0_rowOf_7 rfl rfl ?_
    refine g_ifnull 11 F dX0_rowOf_8 rfl ?_
    refine g_aload_n 12 0 F dX0_rowOf_11 rfl rfl ?_
    refine G.widen (5 * (cn h - cn h)) (1291 * (cn h - cn h)) (Nat.zero_le _) (Nat.zero_le _) ?_
    exact hR sa (agr_refl h sa) _ _ dX0_rowOf_12
  · obtain rfl := Option.some.inj hf
    have hj : h (6 * r + i.toNatClampNeg) = false := by
      cases e : h (6 * r + i.toNatClampNeg) with
      | false => rfl
      | true => exact absurd e c1
    have e : hN h r i.toNatClampNeg = none := if_neg c1
    rw [e]
    have ecn : cn (va_up h (6 * r + i.toNatClampNeg) true) - cn h = 1 := by
      rw [cn_up hj (by omega)]; omega
    have hRm2 : kR K = { frames := 2, cells := 5, slots := 1291, locals := 32 } := by
      rw [hRm]; simp only [ecn]
    change G K (cX B (kA K) sa h lk) 0 0 6 S [(0, .ref (cAf B (1 + r))), (1, .int i)] [.null]
    refine g_astore_nN 7 [(2, .null), (0, .ref (cAf B (1 + r))), (1, .int i)] F dX0_rowOf_6 (lt_kn hn (by decide)) rfl rfl ?_
    refine g_aload_nN 8 0 F dX0_rowOf_7 rfl rfl ?_
    refine g_ifnullN 13 F dX0_rowOf_8 rfl ?_
    have hK := F.2.2.2.2.2.1.1
    refine G.conv (X' := rX B.1 (kA K)) (S' := cWl B sa h lk S ++ []) (fun H h9 => by rw [List.append_nil]; exact h9) ?_
    refine rp_new (ci := 1) (N := 11) (C := RX1) (T := TX1) (ty := tyX1) (fs := [.int 0, .int 0, .int 0, .int 0, .int 0, .int 0, .int 0, .null, .null, .null, .null]) 16 F hK inT1 tyX1_ok cl_X0_23 in_X1 ii_X1 rfl (by decide) (by rw [hRm2]; exact Nat.le_of_ble_eq_true rfl) (by rw [hRm2]; exact Nat.le_of_ble_eq_true rfl) dX0_rowOf_13 rfl (fun q0 => ?_)
    refine g_dup 17 F dX0_rowOf_16 rfl rfl ?_
    refine r_cIN 20 (st := [.ref q0]) F hok (c_X1_init (kl K) B (kA K) (cWl B sa h lk S) q0) wi_X1_init (F.2.2.2.2.2.1.2.1 _ nl_X0_33) ⟨Nat.le_of_ble_eq_true rfl, Nat.le_of_ble_eq_true rfl⟩ rfl rfl (Nat.le_of_ble_eq_true rfl) ⟨by rw [hRm2]; exact Nat.le_of_ble_eq_true rfl, by rw [hRm2]; exact Nat.le_of_ble_eq_true rfl⟩ dX0_rowOf_17 rfl (fun u hu => ?_)
    obtain ⟨a1, a2, a3, a4, rfl⟩ := hu
    refine g_astore_n 21 [(3, .ref q0), (2, .null), (0, .ref (cAf B (1 + r))), (1, .int i)] F dX0_rowOf_20 (lt_kn hn (by decide)) rfl rfl ?_
    refine g_aload_n 22 2 F dX0_rowOf_21 rfl rfl ?_
    obtain ⟨p, hp, hq⟩ := nW_get (ad := cAd B sa) (cf := cCell B sa h lk S) (cNm_fix (h := h) (show 1 + r < 16 by omega))
    rw [cAd_fix (show 1 + r < 16 by omega), cCell_reg hr] at hq
    have hpl := (List.getElem?_eq_some_iff.mp hq).1
    refine r_get (p := p) (k := 4) (ci := 0) (N := 5) (C := RX0) (T := TX0) (v := .ref (cAf B (5 + r))) 25 F hK ((List.getElem?_append_left hpl).trans hq) rfl inT0 (by decide) fl_X0_25 rfl dX0_rowOf_22 rfl ?_
    refine g_iload_n 26 3 F dX0_rowOf_25 rfl rfl ?_
    refine g_aload_n 27 0 F dX0_rowOf_26 rfl rfl ?_
    obtain ⟨p2, hp2, hq2⟩ := nW_get (ad := cAd B sa) (cf := cCell B sa h lk S) (cNm_fix (h := h) (show 5 + r < 16 by omega))
    rw [cAd_fix (show 5 + r < 16 by omega), cCell_rows hr] at hq2
    have hpl2 := (List.getElem?_eq_some_iff.mp hq2).1
    refine r_aast (p := p2) (p2 := (cWl B sa h lk S).length + 0) (vs := [.int 0, .int 0, .int 0, .int 0, .int 0, .int 0, .int 0, .ref a1, .ref a2, .ref a3, .ref a4]) 28 F hK 3 rfl ((List.getElem?_append_left hpl2).trans hq2) (pre_get _ _ 0) hi dX0_rowOf_27 rfl ?_
    refine g_aload_n 29 0 F dX0_rowOf_28 rfl rfl ?_
    have hR2 := hR (saU sa (6 * r + i.toNatClampNeg) q0 a1 a2 a3 a4) (saU_agr hj) 29 [(3, .ref q0), (2, .null), (0, .ref (cAf B (1 + r))), (1, .int i)] dX0_rowOf_29
    simp only [ecn, saU_0] at hR2
    refine G.conv (fun H h9 => ?_) hR2
    refine grow hr h6 hj ?_
    obtain ⟨hP9, hD9⟩ := h9
    have es : (cWl B sa h lk S).set p2 (cAd B sa (5 + r), .inl (B.2.1 3, 6, .inr (.inr (.inr (.inr (va_up (fun i => if h (6 * r + i) = true then some (sa (5 * (6 * r + i))) else none) i.toNatClampNeg (some q0))))))) = nW (cAd B sa) (cNm h) (va_up (cCell B sa h lk S) (5 + r) (.inl (B.2.1 3, 6, .inr (.inr (.inr (.inr (va_up (fun i => if h (6 * r + i) = true then some (sa (5 * (6 * r + i))) else none) i.toNatClampNeg (some q0)))))))) :=
      nW_set' (cNm_lt h) hp2 (by unfold va_up; exact if_pos rfl) (fun n' hn' => by unfold va_up; exact if_neg hn')
    rw [cAd_fix (show 5 + r < 16 by omega)] at es
    rw [List.set_append_left _ _ hpl2, es] at hP9 hD9
    exact ⟨hP9, hD9⟩
