def R_law : String := "WhereFoundLaw"
def lw_P (b : Addr) (xs : List Int32) (args : Array Value) (s : State) : Prop := args = #[.ref b] ∧ s.IntsAt b xs ∧ xs.length ≤ 3072 ∧ (Jvm.Cond.and given_1 narrow_1).before args s = true
def lw_Q (_ : Array Value) (s : State) (o : Outcome) (t : State) : Prop := o = .returned (some (.int 1)) ∧ Framed s o t [] 61024 8913034
def lw_Z (below : List Frame) (a : Array Value) (s : State) : State → Prop := fun t => ∃ o, t.status = .running ∧ Ended t below o ∧ lw_Q a s o t
/-- the law's own end, with 1 on the stack, nothing written that was there before, its room as the claim has it -/
theorem lw_ret {p : Program} {l : Launch} {e : Env} {s : State} {m : MethodId} {below : List Frame} {meth : Method} {c : Code} {b : Nat} (hx : p.tables.exec = Jvm.exec) (hb : c.code = code) (hr : meth.sig.returnType = ret) (hlocks : meth.locks = false) {pc : Nat} {H : Heap} {ls : Array Slot} (hdg : decode code pc = .ok (.ireturn, 1)) : W p l e room_1 s m #[Value.ref b] below meth c H [] 61024 8913034 (lw_Z below #[Value.ref b] s) (F0 m pc ls [.int 1]) := by
  intro T hT X
  obtain ⟨fs, hret, hrun, hended, hW, hframe⟩ := X.leave (v := some (.int 1)) (hlocks := hlocks) (fun h => by rw [hr] at h; cases h)
  have hmeth' : T.vm.method? m = some meth := X.method'
  refine ⟨T.setFrames fs, ?_, .returned (some (.int 1)), hrun, hended, rfl, ⟨_, rfl⟩, hW, hframe⟩
  jvm_step X.here [X.here.top, hx, hb, hdg, hmeth', hr, ret, narrow_b1]
  (try refine ⟨rfl, ?_⟩); (try refine ⟨rfl, ?_⟩)
  first | (intro acts; rw [hret _ acts rfl rfl rfl]) | rw [hret _ _ rfl rfl rfl]
  exact Steps.refl _
/-- what holds at the law's entry: the machine, the code, the tables' words (any of lw_tbl by 'hts w (by decide +kernel)'), the script of L ints xs at the cell b, what the Statement gives of the start (any of its parts by flat_of_before) -/
def lw_At (p : Program) (s : State) (m : MethodId) (meth : Method) (c : Code) (b L : Nat) (xs : Nat → Int32) : Prop :=
  p.tables.exec = Jvm.exec ∧ c.code = code ∧ meth.sig.returnType = ret ∧ c.maxLocals = 7 ∧ s.vm.findClass R_law = some m.cls ∧ (∀ w ∈ lw_tbl, w.before #[Value.ref b] s = true) ∧ va_X b L xs s s.heap ∧ b < s.heap.size ∧ meth.locks = false ∧ (Jvm.Cond.and given_1 narrow_1).before #[Value.ref b] s = true
theorem rp_newJ {K : Ctx} {D : va_G} {w0 L : va_W} {cs sl pc : Nat} {lv : List (Nat × Value)} {st : List Value} {cc : ByteArray} {own : String} {Kf : State → Prop} {fr lo : Nat} {cJ : ClassId} {v : Int32} {N : Nat} (n : Nat) (F : Fx K cc own Kf fr lo) (hK : va_K D vwCl [(cJ, .long)] (ks K)) (hv : ¬ v < 0) (hN : v.toNatClampNeg = N) (hb : N * 8 ≤ 536870912) (hcells : cs + 1 ≤ (kR K).cells) (hslots : sl + N ≤ (kR K).slots) (d : decode cc pc = .ok (.newarray .long, 2)) (hn : pc + 2 = n) (kk : ∀ q : Nat, G K (rX D (kA K)) (cs + 1) (sl + N) n (w0 ++ (L ++ [(q, .inl (cJ, N, .inr (.inl (fun _ => 0))))])) lv (.ref q :: st)) : G K (rX D (kA K)) cs sl pc (w0 ++ L) lv (.int v :: st) := by
  subst hn
  intro H locs ls hX hS hls
  refine va_newa (atype := .long) (ty := .long) (a0 := (N, .inr (.inl (fun _ => 0)))) F.1 F.2.1 (F.2.2.2.2.1 _ ac_long) rfl hK hX.1 hX.2 hS F.2.2.2.2.2.2.1 (fun _ => rfl) hv hN hb hcells hslots d (fun q cA H1 hK1 hP hD hS1 => ?_)
  have h1 : (ks K).vm.findClass ("[" ++ FieldType.long.toString) = some cA := (hK1.2 1 (cA, .long) rfl).2
  have h2 : (ks K).vm.findClass ("[" ++ FieldType.long.toString) = some cJ := (hK.2 0 (cJ, .long) rfl).2
  obtain rfl : cA = cJ := Option.some.inj (h1.symm.trans h2)
  rw [List.append_assoc] at hP hD
  exact kk q H1 locs ls ⟨hP, hD⟩ hS1 hls
set_option maxHeartbeats 4000000 in
theorem whole_of (R : RL2) (hO : LawOk R) (hR0 : R h0 (0, 1) S0 T0) {p : Program} {e : Env} {s : State} {m : MethodId} {below : List Frame} {meth : Method} {c : Code} (l : Launch) (hflags : l.flags = flags0) {b L : Nat} {xs : Nat → Int32} (hL : L ≤ 3072) (C0 : lw_At p s m meth c b L xs) : W p l e room_1 s m #[Value.ref b] below meth c s.heap [] 0 0 (lw_Z below #[Value.ref b] s) (entryFrame m ([Value.ref b] : List Value).toArray 7) := by
  obtain ⟨z1, z2, z3, z4, z5, z6, z7, z8, z9, z10⟩ := C0
  have hg : ∀ w ∈ gFl, w.before #[Value.ref b] s = true := flat_of_before _ z10
  obtain ⟨D, ci, st, kk, vv, hkf⟩ := kf_start z6 hg
  have hwt : ∀ w ∈ wT, w.before #[Value.ref b] s = true := fun w h => z6 w (wT_in h)
  obtain ⟨cJ, aJ, fJ⟩ := arr_p (hwt _ ac_long)
  have hKn := (hkf (fun _ => 0)).1.1
  have hKJ : va_K D vwCl [(cJ, .long)] s := ⟨hKn.1, fun k q hq => by
    match k, hq with
    | 0, hq => cases hq; exact ⟨aJ, fJ⟩
    | k + 1, hq => cases hq⟩
  have hst : l.stackTraces = false := by
    unfold Launch.stackTraces
    rw [hflags]
    decide +kernel
  rw [lg_entry_eq]
  let A : Nat → Prop := fun q => s.heap.size ≤ q
  let K : Ctx := (p, l, e, room_1, s, m, #[Value.ref b], below, meth, c, A, 7, lw_Z below #[Value.ref b] s)
  have F : ∀ af, Fx K cL_law RL (cKf2 (D, ci, st, kk, vv, af) A) 12 470 := fun af => ⟨z1, z2, z4, z5, hwt, hkf af, fun q hq => hq, Nat.le_refl _, Nat.le_refl _⟩
  have hE : ∀ (w : va_W) (lv : List (Nat × Value)), G K (rX D A) 61024 8913034 1110 w lv [.int 1] := by
    intro w lv H locs ls hX hS hls T hT X
    exact lw_ret z1 z2 z3 z9 dL_law_1110 T hT (Stand.dropFresh (locs := []) X (fun x hx => hS.2.2 x hx))
  have hG : G K (rX D A) 0 0 0 ([] ++ []) [(0, .ref b)] [] := by
    refine rp_new (ci := 5) (N := 7) (C := RX5) (T := TX5) (ty := tyX5) (fs := [.null, .null, .null, .null, .null, .null, .int 0]) 3 (F (fun _ => 0)) hKn inT5 tyX5_ok cl_L_8 in_X5 ii_X5 rfl (by decide) (Nat.le_of_ble_eq_true rfl) (Nat.le_of_ble_eq_true rfl) dL_law_0 rfl (fun q0 => ?_)
    refine g_dup 4 (F (fun _ => 0)) dL_law_3 rfl rfl ?_
    refine r_cI 7 (st := [.ref q0]) (F (fun _ => 0)) (cKf2_ok (D, ci, st, kk, vv, fun _ => 0) A) (c_X5_init l (D, ci, st, kk, vv, fun _ => 0) A [] q0) wi_X5_init ml_L_15 ⟨Nat.le_of_ble_eq_true rfl, Nat.le_of_ble_eq_true rfl⟩ rfl rfl (Nat.le_of_ble_eq_true rfl) ⟨Nat.le_of_ble_eq_true rfl, Nat.le_of_ble_eq_true rfl⟩ dL_law_4 rfl ?_
    rintro u ⟨p0, p1, p2, p3, p4, p5, p6, p7, p8, p9, p10, p11, p12, p13, p14, rfl⟩
    obtain ⟨af, haf⟩ : ∃ af : Nat → Nat, af = fun n => [q0, p0, p3, p1, p4, p2, p5, p6, p7, p8, p9, p10, p11, p12, p13, p14].getD n 0 := ⟨_, rfl⟩
    have hq0 : q0 = cAf (D, ci, st, kk, vv, af) 0 := by rw [haf]; rfl
    refine G.conv (X' := rX D A) (S' := cWl (D, ci, st, kk, vv, af) (fun _ => 0) h0 (0, 1) S0 ++ []) (fun H hX => by rw [List.append_nil, haf]; exact start_c hX) ?_
    rw [hq0]
    generalize hB : (D, ci, st, kk, vv, af) = B
    have F1 : Fx K cL_law RL (cKf2 B A) 12 470 := by rw [← hB]; exact F af
    have hD : D = B.1 := by rw [← hB]
    have hKn1 : va_K B.1 vwCl [(B.2.1 0, .int), (B.2.1 1, .boolean), (B.2.1 2, .byte), (B.2.1 3, .object "WhereFound$Sportsman")] s := by rw [← hB]; exact hKn
    have hKJ1 : va_K B.1 vwCl [(cJ, .long)] s := by rw [← hB]; exact hKJ
    rw [hD]
    have hE1 : ∀ (w : va_W) (lv : List (Nat × Value)), G K (rX B.1 A) 61024 8913034 1110 w lv [.int 1] := by rw [← hD]; exact hE
    refine g_astore_n 8 [(1, .ref (cAf B 0)), (0, .ref b)] F1 dL_law_7 (show 1 < 7 by decide) rfl rfl ?_
    refine rp_new (ci := 6) (N := 18) (C := RX6) (T := TX6) (ty := tyX6) (fs := [.int 0, .null, .null, .null, .null, .null, .int 0, .int 0, .int 0, .int 0, .int 0, .int 0, .int 0, .null, .null, .null, .null, .int 0]) 11 F1 hKn1 inT6 tyX6_ok cl_L_16 in_X6 ii_X6 rfl (by decide) (Nat.le_of_ble_eq_true rfl) (Nat.le_of_ble_eq_true rfl) dL_law_8 rfl (fun m0 => ?_)
    refine g_dup 12 F1 dL_law_11 rfl rfl ?_
    have F2 : Fx K cL_law RL (mKf B.1 (B.2.1 0) (B.2.1 1)) 12 470 := ⟨z1, z2, z4, z5, hwt, yKf_m (cJ := cJ) ⟨F1.2.2.2.2.2.1.1, hKJ1⟩, fun q hq => hq, Nat.le_refl _, Nat.le_refl _⟩
    refine r_cI 15 (st := [.ref m0]) F2 ((mKf_all B.1 (B.2.1 0) (B.2.1 1)).1 A) (c_X6_init l B.1 (B.2.1 0) (B.2.1 1) A (cWl B (fun _ => 0) h0 (0, 1) S0) m0) wi_X6_init ml_L_18 ⟨Nat.le_of_ble_eq_true rfl, Nat.le_of_ble_eq_true rfl⟩ rfl rfl (Nat.le_of_ble_eq_true rfl) ⟨Nat.le_of_ble_eq_true rfl, Nat.le_of_ble_eq_true rfl⟩ dL_law_12 rfl ?_
    rintro u ⟨r0, r1, r2, r3, r4, r5, r6, r7, r8, rfl⟩
    obtain ⟨ad, had⟩ : ∃ ad : Nat → Nat, ad = fun n => [m0, r0, r1, r2, r3, r4, 0, 0, 0, 0, 0, 0, 0, r5, r6, r7, r8].getD n 0 := ⟨_, rfl⟩
    have hm0 : m0 = ad 0 := by rw [had]; rfl
    refine G.conv (X' := rX B.1 A) (S' := cWl B (fun _ => 0) h0 (0, 1) S0 ++ mW (B.2.1 0) (B.2.1 1) ad T0) (fun H hX => by rw [had]; exact hX) ?_
    rw [hm0]
    refine g_astore_n 16 [(2, .ref (ad 0)), (1, .ref (cAf B 0)), (0, .ref b)] F1 dL_law_15 (show 2 < 7 by decide) rfl rfl ?_
    refine g_iconst 17 F1 dL_law_16 rfl rfl ?_
    refine rp_newJ (N := 1) 19 F1 hKJ1 (by decide) (by decide) (by decide) (Nat.le_of_ble_eq_true rfl) (Nat.le_of_ble_eq_true rfl) dL_law_17 rfl (fun a0 => ?_)
    refine g_astore_n 20 [(3, .ref a0), (2, .ref (ad 0)), (1, .ref (cAf B 0)), (0, .ref b)] F1 dL_law_19 (show 3 < 7 by decide) rfl rfl ?_
    refine g_iconst 21 F1 dL_law_20 rfl rfl ?_
    refine g_istore 23 [(4, .int 0), (3, .ref a0), (2, .ref (ad 0)), (1, .ref (cAf B 0)), (0, .ref b)] F1 dL_law_21 (show 4 < 7 by decide) rfl rfl ?_
    refine G.lvs [0, 4, 3, 2, 1] (lv' := lv0 B ad a0 b 0) rfl ?_
    refine G.widen (cE h0 0) (sE h0 0) (by decide) (by decide) ?_
    exact law_loop (K := K) (R := R) ⟨⟨z1, z2, z4, z5, hwt, ⟨F1.2.2.2.2.2.1.1, hKJ1⟩, fun q hq => hq, Nat.le_refl _, Nat.le_refl _⟩, z7, z8, Nat.not_le.mpr z8, hst, rfl, ⟨Nat.le_refl _, Nat.le_refl _⟩, hL, hE1⟩ hO L 0 0 (fun _ => 0) h0 (0, 1) S0 T0 (fun _ => 0) (Nat.le_refl _) (Nat.zero_le _) rfl hR0
  exact hG s.heap [] _ rX_nil va_S.rf (lv_entry [Value.ref b] (n := 7) (Nat.le_of_ble_eq_true rfl))
