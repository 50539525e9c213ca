theorem nc_NSE : Cond.castable "java/util/NoSuchElementException" "java/util/NoSuchElementException" ∈ nT := List.mem_filter.mpr ⟨List.mem_append_right _ (List.mem_append_right _ (List.mem_append_right _ (List.mem_append_left _ (List.mem_of_getElem? (i := 238) (by decide +kernel))))), by decide +kernel⟩
theorem cw_L_of : Cond.codeWith yL_of cL_of 5 (some .int) [(0, 10, 13, 13)] ∈ wT := wT_3 (List.mem_of_getElem? (i := 230) (by decide +kernel)) (by decide +kernel)
theorem st_L_of : Cond.static yL_of ∈ wT := wT_3 (List.mem_of_getElem? (i := 229) (by decide +kernel)) (by decide +kernel)
theorem cKf_all (B : CB) : KfAll (fun A => cKf B A) := ⟨cKf_ok B, fun A A' U h hA => by
  obtain ⟨h1, h2, ⟨h3, h4, h5, h6⟩, h7, h8, h9, h10, h11, h12⟩ := h
  exact ⟨h1, h2, ⟨⟨h3.1.narrow hA, h3.2.narrow hA⟩, ⟨h4.1.narrow hA, h4.2.narrow hA⟩, ⟨h5.1.narrow hA, h5.2.narrow hA⟩, ⟨h6.1.narrow hA, h6.2.narrow hA⟩⟩, h7.narrow hA, h8.narrow hA, h9.narrow hA, h10, h11.narrow hA, h12.narrow hA⟩⟩
theorem mKf_all (D : va_G) (cI cZ : ClassId) : KfAll (fun _ => mKf D cI cZ) := ⟨fun A => ⟨fun U g mk a h => va_K.moved (u := U) (U := U.calling g mk a) (Vm.Alike.refl U.vm) h, fun s U locs h hW hS => va_K.moved hW.alike h⟩, fun A A' U h _ => h⟩
theorem met_ofWH {l : Launch} {y : MethodName} {ws ws' : List Cond} {rm : Room} {Pc : Array Value → State → Prop} {Qc : Array Value → State → Outcome → State → Prop} {mc ms : Nat} {free : Addr → Prop} {cc : ByteArray} {maxL : Nat} {ret : Option FieldType} {hh : List (Nat × Nat × Nat × Nat)}
    (hy : plainName y.cls = true) (hw : ws = Cond.codeWith y cc maxL ret hh :: ws')
    (body : ∀ p e s m args below meth c s₁, BodyLoose p l y (headSpec ws rm) cc maxL ret e s m args below meth c s₁ → c.maxLocals = maxL → Pc args s →
      W p l e (headSpec ws rm).room s m args below meth c s.heap [] 0 0 (MQ below Qc args s mc ms free) (entryFrame m args maxL)) : Met l y ws rm Pc Qc mc ms free := by
  refine MetFree.of_bodyS (code := cc) (maxLocals := maxL) (ret := ret) hy ?_ ?_
  · intro args s m h hn
    obtain ⟨m9, meth, c, hn9, h1, h2, h3, h4, -, h5, h6, -⟩ := Cond.codeWith_spec (atoms_spec (ws := ws) h _ (by rw [hw]; exact List.mem_cons_self))
    cases hn.symm.trans hn9
    exact ⟨meth, c, h1, h2, h3, h4, h5, h6⟩
  · intro p e s m args below meth c s₁ B hml hP _
    have hh0 : s₁.heap = s.heap := by rw [B.state]; rfl
    obtain ⟨t, a1, o, b1, b2, b3⟩ := body p e s m args below meth c s₁ B hml hP s₁ hh0 (Stand.of_body B)
    exact ⟨t, o, a1, b1, b2, b3⟩
abbrev oE (cJ : ClassId) (a0 : Nat) (f : Nat → Int64) : va_W := [(a0, .inl (cJ, 1, .inr (.inl f)))]
def lKf (B : CB) (cJ : ClassId) (A : Nat → Prop) (U : State) : Prop := cKf B A U ∧ va_K B.1 vwCl [(cJ, .long)] U
theorem lKf_all (B : CB) (cJ : ClassId) : KfAll (fun A => lKf B cJ A) :=
  ⟨fun A => ⟨fun U g mk a h => ⟨(cKf_ok B A).1 U g mk a h.1, va_K.moved (u := U) (U := U.calling g mk a) (Vm.Alike.refl U.vm) h.2⟩, fun s U locs h hW hS => ⟨(cKf_ok B A).2 s U locs h.1 hW hS, va_K.moved hW.alike h.2⟩⟩, fun A A' U h hA => ⟨(cKf_all B).2 A A' U h.1 hA, h.2⟩⟩
abbrev lW (B : CB) (cJ : ClassId) (sa : Nat → Nat) (h : Nat → Bool) (lk : Nat × Nat) (a0 : Nat) (u : CS × (Nat → Int64)) : va_W := cWl B sa h lk u.1 ++ oE cJ a0 u.2
abbrev lH : List (Nat × Nat × Nat × Nat) := [(0, 10, 13, 13)]
def lofR (q : Option Int32 × CS) : Int32 := if q.1 = none then 1 else 0
def lofV (q : Option Int32 × CS) (f : Nat → Int64) : Nat → Int64 := match q.1 with
  | none => f
  | some r => vp_updL f 0 r.toInt64
def CLof (l : Launch) (B : CB) (cJ : ClassId) (A : Nat → Prop) (sa : Nat → Nat) (h : Nat → Bool) (lk : Nat × Nat) (S : CS) (a0 : Nat) (f : Nat → Int64) (a1 a2 : Int32) (q : Option Int32 × CS) : Prop :=
  Met l yL_of (.codeWith yL_of cL_of 5 (some .int) lH :: wT) { frames := 7, cells := 1, slots := 6, locals := 136 } (va_Pc [.ref (cAf B 0), .int a1, .int a2, .ref a0] (cPre (fun u H => rX B.1 A (lW B cJ sa h lk a0 u) H) (lKf B cJ A) A (S, f))) (va_Qi (fun (r : Int32) (u : CS × (Nat → Int64)) => r = lofR q ∧ u = (q.2, lofV q f)) (fun u t => rX B.1 A (lW B cJ sa h lk a0 u) t.heap) A) 1 6 A
theorem cAf_0 (B : CB) (sa : Nat → Nat) (h : Nat → Bool) (lk : Nat × Nat) (S : CS) : (cWl B sa h lk S)[0]? = some (cAf B 0, cCell B sa h lk S 0) := rfl
set_option maxHeartbeats 4000000 in
set_option maxRecDepth 100000 in
theorem c_L_of (l : Launch) (hst : l.stackTraces = false) (B : CB) (cJ : ClassId) (sa : Nat → Nat) (h : Nat → Bool) (lk : Nat × Nat) (hw : cWf h lk) (A : Nat → Prop) (S : CS) (a0 : Nat) (f : Nat → Int64) (a1 a2 : Int32) (q : Option Int32 × CS) (hf : f_X5_of h lk S a1 a2 = some q) : CLof l B cJ A sa h lk S a0 f a1 a2 q := by
  refine met_ofWH (cc := cL_of) (maxL := 5) (ret := some .int) (hh := lH) (by decide +kernel) rfl ?_
  intro p e s m args below meth c s₁ Bd hml hv
  obtain ⟨rfl, hX0, hKf, hA⟩ := hv
  have hts := atoms_spec (ws := .codeWith yL_of cL_of 5 (some .int) lH :: wT) Bd.pre
  rw [lg_entry_eq]
  let K : Ctx := (p, l, e, { frames := 7, cells := 1, slots := 6, locals := 136 }, s, m, [Value.ref (cAf B 0), Value.int a1, Value.int a2, Value.ref a0].toArray, below, meth, c, A, 5, MQ below (va_Qi (fun (r : Int32) (u : CS × (Nat → Int64)) => r = lofR q ∧ u = (q.2, lofV q f)) (fun u t => rX B.1 A (lW B cJ sa h lk a0 u) t.heap) A) [Value.ref (cAf B 0), Value.int a1, Value.int a2, Value.ref a0].toArray s 1 6 A)
  have F : Fx K cL_of RL (lKf B cJ A) 7 136 := ⟨Bd.exec, Bd.bytes, hml, findClass_of_methodNamed Bd.named, fun w hw => hts w (List.mem_cons_of_mem _ hw), hKf, hA, Nat.le_refl _, Nat.le_refl _⟩
  have htab : c.exceptionTable.toList = tableOf lH := vx_table (x := yL_of) Bd (hts _ List.mem_cons_self)
  have hret : ∀ (r : Int32) (g : Nat → Int64) (pc : Nat) (lv : List (Nat × Value)), r = lofR q → g = lofV q f → decode cL_of pc = .ok (.ireturn, 1) → G K (rX B.1 A) 1 6 pc (cWl B sa h lk q.2 ++ oE cJ a0 g) lv [.int r] := by
    intro r g pc lv hr hg d H locs ls hX hS hls
    exact W.iret F.1 F.2.1 Bd.returns (fun t ht hW => ⟨⟨r, (q.2, g), rfl, ⟨hr, by rw [hg]⟩, by show rX B.1 A _ t.heap; rw [ht]; exact hX⟩, hS.F ht⟩) hS.2.2 d Bd.notSynchronized
  have hG : G K (rX B.1 A) 0 0 0 (cWl B sa h lk S ++ oE cJ a0 f) [(0, .ref (cAf B 0)), (1, .int a1), (2, .int a2), (3, .ref a0)] [] := by
    refine g_aload_n 1 3 F dL_of_0 rfl rfl ?_
    refine g_iconst 2 F dL_of_1 rfl rfl ?_
    refine g_aload_n 3 0 F dL_of_2 rfl rfl ?_
    refine g_iload_n 4 1 F dL_of_3 rfl rfl ?_
    refine g_iload_n 5 2 F dL_of_4 rfl rfl ?_
    intro H locs ls hX hS hls
    have hA1 : ∀ q, H.size ≤ q → A q := fun q hq => hA q (Nat.le_trans hS.1 hq)
    refine vx_calli (vx_runV (As := [.int a1, .int a2]) (rest := [.int 0, .ref a0]) ⟨F.1, F.2.1, F.2.2.1, F.2.2.2.1, F.2.2.2.2.1⟩ (c_X5_of l hst B sa h lk hw (fA (cWl B sa h lk S) H.size) S a1 a2 q hf) (cw_V F wy_X5_of ml_L_7 ⟨rfl, rfl, rfl, rfl⟩ ⟨Nat.le_of_ble_eq_true rfl, Nat.le_of_ble_eq_true rfl⟩) ⟨cPre_blind (cKf_ok B _), va_recv hKf.1.1 (rX_app.mp hX).1.1 (ci := 5) (q0 := 0) rfl (cAf_0 B sa h lk S), fun U hU hW => ⟨rfl, fr_pre (Kf := fun A => cKf B A) F hKf.1 (cKf_all B) hX hS U hU hW⟩⟩ rfl rfl hls.1 rfl (lv_room (Nat.le_of_ble_eq_true rfl)) dL_of_5 ⟨Nat.le_refl _, Nat.le_refl _⟩) hS (fun q _ h => fr_A hX hA1 q h) (fun q h => fr_A hX hA1 q h) (fun q _ h => fr_A hX hA1 q h) (fun E ce q9 u t H1 locs1 ht hvm hp hb hz1 hk1 hS1 hce hcv hcl => ?_) (fun r u t H1 locs1 ht hvm hp hB hz1 hk1 hS1 => ?_)
    · obtain ⟨hq, rfl⟩ := hp
      obtain ⟨rfl, hB⟩ := hb
      rw [ht] at hB
      have hX1 : rX B.1 A (cWl B sa h lk q.2 ++ oE cJ a0 f) H1 := fr_back hX hB hk1 hA1
      refine vx_catch F.2.2.2.1 [] ⟨0, 10, 13, 13⟩ [] htab (fun z hz => nomatch hz) rfl (by decide) (F.2.2.2.2.1 _ cl_L_13) (nOk_use rfl (hKf.1.2.1 _ nc_NSE)) hce hcv hcl ?_
      have hG2 : G K (rX B.1 A) 1 6 13 (cWl B sa h lk q.2 ++ oE cJ a0 f) [(0, .ref (cAf B 0)), (1, .int a1), (2, .int a2), (3, .ref a0)] [.ref q9] := by
        refine g_astore 15 [(4, .ref q9), (0, .ref (cAf B 0)), (1, .int a1), (2, .int a2), (3, .ref a0)] F dL_of_13 (show 4 < 5 from Nat.le_refl 5) rfl rfl ?_
        refine g_iconst 16 F dL_of_15 rfl rfl ?_
        exact hret _ _ _ _ (by unfold lofR; rw [if_pos hq]; rfl) (by unfold lofV; rw [hq]) dL_of_16
      exact hG2 H1 locs1 ls hX1 hS1 hls
    · obtain ⟨hq, rfl⟩ := hp
      have hB : rX B.1 (fA (cWl B sa h lk S) H.size) (cWl B sa h lk q.2) t.heap := hB
      rw [ht] at hB
      have hX1 : rX B.1 A (cWl B sa h lk q.2 ++ oE cJ a0 f) H1 := fr_back hX hB hk1 hA1
      have hG2 : G K (rX B.1 A) 1 6 8 (cWl B sa h lk q.2 ++ oE cJ a0 f) [(0, .ref (cAf B 0)), (1, .int a1), (2, .int a2), (3, .ref a0)] [.int r, .int 0, .ref a0] := by
        refine g_i2l 9 F dL_of_8 rfl ?_
        intro H locs ls hX hS hls
        refine va_last (D := B.1) F.1 F.2.1 hKf.2 hX.1 hX.2 hS ((cWl B sa h lk q.2).length + 0) 0 (pre_get _ _ 0) rfl (show ¬ ((0 : Int32) < 0 ∨ 1 ≤ (0 : Int32).toNatClampNeg) by decide) dL_of_9 (fun H2 locs2 hP hD hS2 => ?_)
        rw [pre_set] at hP hD
        have hG3 : G K (rX B.1 A) 1 6 10 (cWl B sa h lk q.2 ++ oE cJ a0 (vp_updL f 0 r.toInt64)) [(0, .ref (cAf B 0)), (1, .int a1), (2, .int a2), (3, .ref a0)] [] := by
          refine g_goto 17 F dL_of_10 rfl ?_
          refine g_iconst 18 F dL_of_17 rfl rfl ?_
          exact hret _ _ _ _ (by unfold lofR; rw [hq]; rfl) (by unfold lofV; rw [hq]) dL_of_18
        exact hG3 H2 locs2 ls ⟨hP, hD⟩ hS2 hls
      exact hG2 H1 locs1 ls hX1 hS1 hls
  exact hG s.heap [] _ hX0 va_S.rf (lv_entry [Value.ref (cAf B 0), Value.int a1, Value.int a2, Value.ref a0] (n := 5) (Nat.le_of_ble_eq_true rfl))
