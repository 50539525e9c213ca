def f_X5_of (h : Nat → Bool) (lk : Nat × Nat) (S : CS) (a1 : Int32) (a2 : Int32) : Option (Option Int32 × CS) :=
  (f_X0_find h S lk.1 a1).bind fun q1 => oC q1 (some (none, S)) (fun j3 => if a2 = 0 then (some (some (cP S j3 0), S)) else (if a2 = 1 then ((f_X5_pointsOf lk S j3).bind fun q7 => some (some q7.1, q7.2)) else (if a2 = 2 then (some (some (cP S j3 6), S)) else (if a2 = 3 then ((f_X5_violationsOf lk S j3).bind fun q11 => some (some q11.1, q11.2)) else (if a2 = 4 then (some (some (cP S j3 2), S)) else (if a2 = 5 then (some (some (cP S j3 3), S)) else (if a2 = 6 then (some (some (cP S j3 4), S)) else (if a2 = 7 then (some (some (cP S j3 5), S)) else (if a2 = 8 then ((f_X5_weightOf lk S j3).bind fun q18 => some (some q18.1, q18.2)) else (if a2 = 9 then (some (some (cP S j3 1), S)) else (some (none, S))))))))))))
set_option maxHeartbeats 4000000 in
set_option maxRecDepth 100000 in
theorem w_X5_of (B : CB) (sa : Nat → Nat) (h : Nat → Bool) (lk : Nat × Nat) (hw : cWf h lk) (K : Ctx) (F : Fx K cX5_of RX5 (cKf B (kA K)) 6 113) (hn : kn K = 4) (S : CS) (a1 a2 : Int32) (q : Option Int32 × CS) (hf : f_X5_of h lk S a1 a2 = some q) (hR : ∀ v, q.1 = some v → ∀ (pc : Nat) (lv : List (Nat × Value)), decode cX5_of pc = .ok (.ireturn, 1) → G K (cX B (kA K) sa h lk) 0 0 pc q.2 lv [.int v]) (hT13 : q.1 = none → ∀ lv, G K (cX B (kA K) sa h lk) 0 0 13 q.2 lv []) (hT133 : q.1 = none → ∀ lv, G K (cX B (kA K) sa h lk) 0 0 133 q.2 lv []) : G K (cX B (kA K) sa h lk) 0 0 0 S [(0, .ref (cAf B 0)), (1, .int a1), (2, .int a2)] [] := by
  have hok := cKf_ok B (kA K)
  unfold f_X5_of at hf
  refine g_aload_n 1 0 F dX5_of_0 rfl rfl ?_
  refine cg_X5_live 4 F fl_X5_10 dX5_of_1 rfl ?_
  refine g_iload_n 5 1 F dX5_of_4 rfl rfl ?_
  obtain ⟨q1, e2, hf⟩ := op_bd hf
  refine g_cVq 8 (st := []) F hok (c_X0_find (kl K) B sa h lk hw (kA K) S lk.1 a1 hw.1 q1 e2) wy_X0_find ml_X5_107 (c_rc_X0 F hw.1) ⟨Nat.le_of_ble_eq_true rfl, Nat.le_of_ble_eq_true rfl⟩ rfl rfl (Nat.le_of_ble_eq_true rfl) ⟨Nat.zero_le _, Nat.zero_le _⟩ dX5_of_5 rfl ?_
  rcases op_oc hf with ⟨e4, hf⟩ | ⟨j3, e4, hf⟩
  · subst e4
    change G K (cX B (kA K) sa h lk) 0 0 8 S [(0, .ref (cAf B 0)), (1, .int a1), (2, .int a2)] [.null]
    refine g_astore_nN 9 [(3, .null), (0, .ref (cAf B 0)), (1, .int a1), (2, .int a2)] F dX5_of_8 (lt_kn hn (by decide)) rfl rfl ?_
    refine g_aload_nN 10 0 F dX5_of_9 rfl rfl ?_
    refine g_ifnonnullN 13 F dX5_of_10 rfl ?_
    obtain rfl := Option.some.inj hf
    exact hT13 rfl _
  · subst e4
    have hj3 : h j3 = true := find_has e2
    change G K (cX B (kA K) sa h lk) 0 0 8 S [(0, .ref (cAf B 0)), (1, .int a1), (2, .int a2)] [.ref (sa (5 * j3))]
    refine g_astore_n 9 [(3, .ref (sa (5 * j3))), (0, .ref (cAf B 0)), (1, .int a1), (2, .int a2)] F dX5_of_8 (lt_kn hn (by decide)) rfl rfl ?_
    refine g_aload_n 10 0 F dX5_of_9 rfl rfl ?_
    refine g_ifnonnull 23 F dX5_of_10 rfl ?_
    refine g_iload_n 24 3 F dX5_of_23 rfl rfl ?_
    rcases op_if hf with ⟨c5, hf⟩ | ⟨c5, hf⟩
    · refine g_tab 0 80 F dX5_of_24 c5 (by decide) (by decide) rfl rfl ?_
      refine g_aload_n 81 0 F dX5_of_80 rfl rfl ?_
      refine cg_X1_risk 84 F hw hj3 fl_X5_118 dX5_of_81 rfl ?_
      obtain rfl := Option.some.inj hf
      exact hR _ rfl _ _ dX5_of_84
    · rcases op_if hf with ⟨c6, hf⟩ | ⟨c6, hf⟩
      · refine g_tab 1 85 F dX5_of_24 c6 (by decide) (by decide) rfl rfl ?_
        refine g_aload_n 86 1 F dX5_of_85 rfl rfl ?_
        refine g_aload_n 87 0 F dX5_of_86 rfl rfl ?_
        obtain ⟨q7, e8, hf⟩ := op_bd hf
        refine g_cVi 90 (st := []) F hok (c_X5_pointsOf (kl K) B sa h lk hw (kA K) S j3 hj3 q7 e8) wy_X5_pointsOf ml_X5_123 (c_rc_X5 F) ⟨Nat.le_of_ble_eq_true rfl, Nat.le_of_ble_eq_true rfl⟩ rfl rfl (Nat.le_of_ble_eq_true rfl) ⟨Nat.zero_le _, Nat.zero_le _⟩ dX5_of_87 rfl ?_
        obtain rfl := Option.some.inj hf
        exact hR _ rfl _ _ dX5_of_90
      · rcases op_if hf with ⟨c9, hf⟩ | ⟨c9, hf⟩
        · refine g_tab 2 91 F dX5_of_24 c9 (by decide) (by decide) rfl rfl ?_
          refine g_aload_n 92 0 F dX5_of_91 rfl rfl ?_
          refine cg_X1_failures 95 F hw hj3 fl_X5_127 dX5_of_92 rfl ?_
          obtain rfl := Option.some.inj hf
          exact hR _ rfl _ _ dX5_of_95
        · rcases op_if hf with ⟨c10, hf⟩ | ⟨c10, hf⟩
          · refine g_tab 3 96 F dX5_of_24 c10 (by decide) (by decide) rfl rfl ?_
            refine g_aload_n 97 1 F dX5_of_96 rfl rfl ?_
            refine g_aload_n 98 0 F dX5_of_97 rfl rfl ?_
            obtain ⟨q11, e12, hf⟩ := op_bd hf
            refine g_cVi 101 (st := []) F hok (c_X5_violationsOf (kl K) B sa h lk hw (kA K) S j3 hj3 q11 e12) wy_X5_violationsOf ml_X5_130 (c_rc_X5 F) ⟨Nat.le_of_ble_eq_true rfl, Nat.le_of_ble_eq_true rfl⟩ rfl rfl (Nat.le_of_ble_eq_true rfl) ⟨Nat.zero_le _, Nat.zero_le _⟩ dX5_of_98 rfl ?_
            obtain rfl := Option.some.inj hf
            exact hR _ rfl _ _ dX5_of_101
          · rcases op_if hf with ⟨c13, hf⟩ | ⟨c13, hf⟩
            · refine g_tab 4 102 F dX5_of_24 c13 (by decide) (by decide) rfl rfl ?_
              refine g_aload_n 103 0 F dX5_of_102 rfl rfl ?_
              refine cg_X1_late 106 F hw hj3 fl_X5_133 dX5_of_103 rfl ?_
              obtain rfl := Option.some.inj hf
              exact hR _ rfl _ _ dX5_of_106
            · rcases op_if hf with ⟨c14, hf⟩ | ⟨c14, hf⟩
              · refine g_tab 5 107 F dX5_of_24 c14 (by decide) (by decide) rfl rfl ?_
                refine g_aload_n 108 0 F dX5_of_107 rfl rfl ?_
                refine cg_X1_tests 111 F hw hj3 fl_X5_136 dX5_of_108 rfl ?_
                obtain rfl := Option.some.inj hf
                exact hR _ rfl _ _ dX5_of_111
              · rcases op_if hf with ⟨c15, hf⟩ | ⟨c15, hf⟩
                · refine g_tab 6 112 F dX5_of_24 c15 (by decide) (by decide) rfl rfl ?_
                  refine g_aload_n 113 0 F dX5_of_112 rfl rfl ?_
                  refine cg_X1_missed 116 F hw hj3 fl_X5_139 dX5_of_113 rfl ?_
                  obtain rfl := Option.some.inj hf
                  exact hR _ rfl _ _ dX5_of_116
                · rcases op_if hf with ⟨c16, hf⟩ | ⟨c16, hf⟩
                  · refine g_tab 7 117 F dX5_of_24 c16 (by decide) (by decide) rfl rfl ?_
                    refine g_aload_n 118 0 F dX5_of_117 rfl rfl ?_
                    refine cg_X1_lastTest 121 F hw hj3 fl_X5_142 dX5_of_118 rfl ?_
                    obtain rfl := Option.some.inj hf
                    exact hR _ rfl _ _ dX5_of_121
                  · rcases op_if hf with ⟨c17, hf⟩ | ⟨c17, hf⟩
                    · refine g_tab 8 122 F dX5_of_24 c17 (by decide) (by decide) rfl rfl ?_
                      refine g_aload_n 123 1 F dX5_of_122 rfl rfl ?_
                      refine g_aload_n 124 0 F dX5_of_123 rfl rfl ?_
                      obtain ⟨q18, e19, hf⟩ := op_bd hf
                      refine g_cVi 127 (st := []) F hok (c_X5_weightOf (kl K) B sa h lk hw (kA K) S j3 hj3 q18 e19) wy_X5_weightOf ml_X5_145 (c_rc_X5 F) ⟨Nat.le_of_ble_eq_true rfl, Nat.le_of_ble_eq_true rfl⟩ rfl rfl (Nat.le_of_ble_eq_true rfl) ⟨Nat.zero_le _, Nat.zero_le _⟩ dX5_of_124 rfl ?_
                      obtain rfl := Option.some.inj hf
                      exact hR _ rfl _ _ dX5_of_127
                    · rcases op_if hf with ⟨c20, hf⟩ | ⟨c20, hf⟩
                      · refine g_tab 9 128 F dX5_of_24 c20 (by decide) (by decide) rfl rfl ?_
                        refine g_aload_n 129 0 F dX5_of_128 rfl rfl ?_
                        refine cg_X1_came 132 F hw hj3 fl_X5_148 dX5_of_129 rfl ?_
                        obtain rfl := Option.some.inj hf
                        exact hR _ rfl _ _ dX5_of_132
                      · refine g_tabD 133 F dX5_of_24 (by have := lv_neT c5 (by decide : (0 : Int32).toInt = 0); have := lv_neT c6 (by decide : (1 : Int32).toInt = 1); have := lv_neT c9 (by decide : (2 : Int32).toInt = 2); have := lv_neT c10 (by decide : (3 : Int32).toInt = 3); have := lv_neT c13 (by decide : (4 : Int32).toInt = 4); have := lv_neT c14 (by decide : (5 : Int32).toInt = 5); have := lv_neT c15 (by decide : (6 : Int32).toInt = 6); have := lv_neT c16 (by decide : (7 : Int32).toInt = 7); have := lv_neT c17 (by decide : (8 : Int32).toInt = 8); have := lv_neT c20 (by decide : (9 : Int32).toInt = 9); omega) rfl ?_
                        obtain rfl := Option.some.inj hf
                        exact hT133 rfl _
theorem ii_NSE : Cond.initialized "java/util/NoSuchElementException" ∈ wT := wT_1 (List.mem_of_getElem? (i := 18) (by decide +kernel)) (by decide +kernel)
def nseB : ByteArray := ⟨#[42, 43, 183, 0, 13, 177]⟩
abbrev xAt : List Cond := (xOwn RX5 115 "java/util/NoSuchElementException" 13 nseB "java/lang/RuntimeException" ["java/lang/Exception"]).filter vx_no
set_option maxRecDepth 100000 in
theorem xAt_0 : ∀ w ∈ xAt.filter goodWord, w ∈ lw_tbl := by decide +kernel
set_option maxRecDepth 100000 in
theorem xAt_1 : ∀ w ∈ xAt.filter (fun w => !goodWord w), w ∈ lw_tbl := by decide +kernel
set_option maxRecDepth 100000 in
theorem xAt_2 : ∀ w ∈ xAt.filter (fun w => !goodWord w), nOk w = true := by decide +kernel
set_option maxRecDepth 100000 in
theorem xAt_3 : ∀ w ∈ Cond.classLink RX5 111 "java/util/NoSuchElementException" :: Cond.initialized "java/util/NoSuchElementException" :: xAt, vx_ot w = true := by decide +kernel
theorem nOk_use {w : Cond} (hw : nOk w = true) {A : Array Value} {U : State} (h : va_Nw w U) : w.before A U = true := by
  cases w <;> first | exact va_Nw.use rfl h | cases hw
theorem xAt_ok {args : Array Value} {s : State} (hts : ∀ w ∈ wT, w.before args s = true) (hn : ∀ w ∈ nT, va_Nw w s) : ∀ w ∈ xAt, w.before args s = true :=
  vx_hat (B := xAt.filter (fun w => !goodWord w)) (fun w h => hts w (List.mem_filter.mpr ⟨xAt_0 w h, (List.mem_filter.mp h).2⟩)) (fun _ h => h) (fun w h => nOk_use (xAt_2 w h) (hn w (List.mem_filter.mpr ⟨xAt_1 w h, xAt_2 w h⟩)))
theorem cX_kept {B : CB} {A : Nat → Prop} {sa : Nat → Nat} {h : Nat → Bool} {lk : Nat × Nat} {S : CS} {H H1 : Heap} (hX : cX B A sa h lk S H) (hk : ∀ q, q < H.size → H1[q]? = H[q]?) : cX B A sa h lk S H1 := ⟨hX.1.kept (fun k q hq => hk q.1 (hX.1 k q hq).lt), hX.2⟩
/-- WhereFound.of: it answers, or throws -/
def CxOf (l : Launch) (B : CB) (A : Nat → Prop) (sa : Nat → Nat) (h : Nat → Bool) (lk : Nat × Nat) (S : CS) (a1 a2 : Int32) (q : Option Int32 × CS) : Prop :=
  vx_Met l yX5_of (.code yX5_of cX5_of 4 (some .int) :: wT) { frames := 6, cells := 1, slots := 6, locals := 113 } (va_Pc [.ref (cAf B 0), .int a1, .int a2] (cPre (cX B A sa h lk) (cKf B A) A S)) (va_Qi (fun (r : Int32) (u : CS) => q.1 = some r ∧ u = q.2) (fun u t => cX B A sa h lk u t.heap) A) (vx_X (fun (u : CS) => q.1 = none ∧ u = q.2) (fun E u t => E = "java/util/NoSuchElementException" ∧ cX B A sa h lk u t.heap) A) 1 6 A
set_option maxHeartbeats 4000000 in
set_option maxRecDepth 100000 in
theorem c_X5_of (l : Launch) (hst : l.stackTraces = false) (B : CB) (sa : Nat → Nat) (h : Nat → Bool) (lk : Nat × Nat) (hw : cWf h lk) (A : Nat → Prop) (S : CS) (a1 a2 : Int32) (q : Option Int32 × CS) (hf : f_X5_of h lk S a1 a2 = some q) : CxOf l B A sa h lk S a1 a2 q := by
  refine vx_ofW (cc := cX5_of) (maxL := 4) (ret := some .int) (by decide +kernel) rfl ?_
  intro p e s m args below meth c s₁ Bd hml hnt hv
  obtain ⟨rfl, hX0, hKf, hA⟩ := hv
  have hts := atoms_spec (ws := .code yX5_of cX5_of 4 (some .int) :: wT) Bd.pre
  rw [lg_entry_eq]
  let K : Ctx := (p, l, e, { frames := 6, cells := 1, slots := 6, locals := 113 }, s, m, [Value.ref (cAf B 0), Value.int a1, Value.int a2].toArray, below, meth, c, A, 4, vx_MQ below (va_Qi (fun (r : Int32) (u : CS) => q.1 = some r ∧ u = q.2) (fun u t => cX B A sa h lk u t.heap) A) (vx_X (fun (u : CS) => q.1 = none ∧ u = q.2) (fun E u t => E = "java/util/NoSuchElementException" ∧ cX B A sa h lk u t.heap) A) [Value.ref (cAf B 0), Value.int a1, Value.int a2].toArray s 1 6 A)
  have F : Fx K cX5_of RX5 (cKf B A) 6 113 := ⟨Bd.exec, Bd.bytes, hml, findClass_of_methodNamed Bd.named, fun w hw => hts w (List.mem_cons_of_mem _ hw), hKf, hA, Nat.le_refl _, Nat.le_refl _⟩
  have hthr : ∀ (H : Heap) (locs : List Loc), q.1 = none → cX B A sa h lk q.2 H → va_S A s.heap H locs → ∀ t : State, s.vm.Alike t.vm → H.size ≤ t.heap.size → (∀ q : Nat, q < H.size → t.heap[q]? = H[q]?) → vx_X (fun (u : CS) => q.1 = none ∧ u = q.2) (fun E u t => E = "java/util/NoSuchElementException" ∧ cX B A sa h lk u t.heap) A "java/util/NoSuchElementException" s t := fun H locs hq hX hS t _ hz hk =>
    ⟨q.2, ⟨hq, rfl⟩, ⟨rfl, cX_kept hX hk⟩, Nat.le_trans hS.1 hz, fun x h1 h2 => (hk x (Nat.lt_of_lt_of_le h1 hS.1)).trans (hS.2.1 x h1 h2)⟩
  refine w_X5_of B sa h lk hw K F rfl S a1 a2 q hf ?_ ?_ ?_ s.heap [] _ hX0 va_S.rf (lv_entry [Value.ref (cAf B 0), Value.int a1, Value.int a2] (n := 4) (Nat.le_of_ble_eq_true rfl))
  · intro v hv pc lv d H locs ls hX hS hls
    refine W.widen (k := 1) (n := 6) (Nat.zero_le _) (Nat.zero_le _) ?_
    exact vx_ret (W.iret F.1 F.2.1 Bd.returns (fun t ht hW => ⟨⟨v, q.2, rfl, ⟨hv, rfl⟩, by show cX B A sa h lk q.2 t.heap; rw [ht]; exact hX⟩, hS.F ht⟩) hS.2.2 d Bd.notSynchronized)
  · intro hq lv H locs ls hX hS hls
    exact x_throwS (text := "no such athlete") (sa := cK B 8) (Y0 := "java/lang/RuntimeException") (r := ["java/lang/Exception"]) (ix := 13) (rx := nseB) F.1 F.2.1 hst (by decide +kernel) (by decide +kernel) (by decide +kernel) (by decide +kernel) F.2.2.2.1 (by decide +kernel) (by decide +kernel) (by decide +kernel) (F.2.2.2.2.1 _ cl_X5_111) (F.2.2.2.2.1 _ ii_NSE) (hKf.2.2.2.2.2.2.1 8 (by decide)) (xAt_ok F.2.2.2.2.1 hKf.2.1) xAt_3 hKf.2.2.2.2.2.2.2.1 hKf.2.2.2.2.2.2.2.2 hS (hls.1.trans hml.symm) dX5_of_13 dX5_of_16 dX5_of_17 dX5_of_19 dX5_of_22 (fun x hx => (hnt x hx).elim) (Nat.le_of_ble_eq_true rfl) (Nat.le_of_ble_eq_true rfl) (Nat.le_of_ble_eq_true rfl) (Nat.le_of_ble_eq_true rfl) Bd.notSynchronized (hthr H locs hq hX hS) hS.2.2 (Nat.le_refl _) (Nat.le_refl _)
  · intro hq lv H locs ls hX hS hls
    exact x_throwS (text := "no such what") (sa := cK B 9) (Y0 := "java/lang/RuntimeException") (r := ["java/lang/Exception"]) (ix := 13) (rx := nseB) F.1 F.2.1 hst (by decide +kernel) (by decide +kernel) (by decide +kernel) (by decide +kernel) F.2.2.2.1 (by decide +kernel) (by decide +kernel) (by decide +kernel) (F.2.2.2.2.1 _ cl_X5_111) (F.2.2.2.2.1 _ ii_NSE) (hKf.2.2.2.2.2.2.1 9 (by decide)) (xAt_ok F.2.2.2.2.1 hKf.2.1) xAt_3 hKf.2.2.2.2.2.2.2.1 hKf.2.2.2.2.2.2.2.2 hS (hls.1.trans hml.symm) dX5_of_133 dX5_of_136 dX5_of_137 dX5_of_139 dX5_of_142 (fun x hx => (hnt x hx).elim) (Nat.le_of_ble_eq_true rfl) (Nat.le_of_ble_eq_true rfl) (Nat.le_of_ble_eq_true rfl) (Nat.le_of_ble_eq_true rfl) Bd.notSynchronized (hthr H locs hq hX hS) hS.2.2 (Nat.le_refl _) (Nat.le_refl _)
