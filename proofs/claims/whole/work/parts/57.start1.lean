set_option maxRecDepth 100000 in
theorem gx_cl : Cond.exactly (tTm 2) "[I" ∈ gFl := by decide +kernel
theorem arr_p {args : Array Value} {s : State} {ty : FieldType} (h : (Cond.arrayClass ty).before args s = true) : ∃ cA, ArrOfT s cA ty ∧ s.vm.findClass ("[" ++ ty.toString) = some cA := by
  obtain ⟨c, k, comp, h1, h2, h3⟩ := Cond.arrayClass_spec h
  exact ⟨c, fun n z => ⟨fun k h => (by cases h), k, h2, comp, h3⟩, h1⟩
theorem arr_o {args : Array Value} {s : State} {C : String} (h : (Cond.arrayOver (.object C)).before args s = true) : ∃ cA, ArrOfT s cA (.object C) ∧ va_RA s cA (.object C) := by
  obtain ⟨comp, c, k, h1, -, h2, h3, h4⟩ := Cond.arrayOver_spec h
  exact ⟨c, fun n z => ⟨fun k h => (by cases h), k, h2, comp, h3⟩, k, comp, h2, h3, h1, h4⟩
theorem kn_all {args : Array Value} {s : State} (hts : ∀ w ∈ wT, w.before args s = true) : ∃ D : va_G, ∀ (c : Nat) (q : vw_C), vwCl[c]? = some q → u_Kn s q.1 q.2.1 q.2.2 (D.1 c) (D.2 c) := by
  obtain ⟨c0, i0, k0⟩ := u_known hts inT0 (hts _ in_X0)
  obtain ⟨c1, i1, k1⟩ := u_known hts inT1 (hts _ in_X1)
  obtain ⟨c2, i2, k2⟩ := u_known hts inT2 (hts _ in_X2)
  obtain ⟨c3, i3, k3⟩ := u_known hts inT3 (hts _ in_X3)
  obtain ⟨c4, i4, k4⟩ := u_known hts inT4 (hts _ in_X4)
  obtain ⟨c5, i5, k5⟩ := u_known hts inT5 (hts _ in_X5)
  obtain ⟨c6, i6, k6⟩ := u_known hts inT6 (hts _ in_X6)
  refine ⟨(fun n => [c0, c1, c2, c3, c4, c5, c6].getD n c0, fun n => [i0, i1, i2, i3, i4, i5, i6].getD n i0), fun c q hq => ?_⟩
  match c, hq with
  | 0, hq => cases hq; exact k0
  | 1, hq => cases hq; exact k1
  | 2, hq => cases hq; exact k2
  | 3, hq => cases hq; exact k3
  | 4, hq => cases hq; exact k4
  | 5, hq => cases hq; exact k5
  | 6, hq => cases hq; exact k6
  | c + 7, hq => cases hq
theorem kf_start {args : Array Value} {s : State} (hts : ∀ w ∈ lw_tbl, w.before args s = true) (hg : ∀ w ∈ gFl, w.before args s = true) : ∃ (D : va_G) (ci : Nat → ClassId) (st kk vv : Nat → Nat), ∀ af, cKf2 (D, ci, st, kk, vv, af) (fun q => s.heap.size ≤ q) s := by
  have hw : ∀ w ∈ wT, w.before args s = true := fun w h => hts w (wT_in h)
  obtain ⟨D, hD⟩ := kn_all hw
  obtain ⟨cI, aI, fI⟩ := arr_p (hw _ ac_int)
  obtain ⟨cZ, aZ, fZ⟩ := arr_p (hw _ ac_boolean)
  obtain ⟨cB, aB, fB⟩ := arr_p (hw _ ac_byte)
  obtain ⟨cO, aO, fO⟩ := arr_o (hts _ gl_ao)
  have hA : ∀ a : Nat, a < s.heap.size → ¬ (s.heap.size ≤ a) := fun a h => Nat.not_le.mpr h
  have hT : ∀ k : Nat, ∃ t : Nat, k < 4 → (tTm k).eval args s none [] s = some (.ref t) ∧ va_T .int t 6 (fun j => .int (cTab k j)) (fun q => s.heap.size ≤ q) s s.heap := fun k => by
    by_cases hk : k < 4
    · obtain ⟨t, h1, h2⟩ := va_Tof (f := fun j => .int (cTab k j)) (A := fun q => s.heap.size ≤ q) (by decide : 6 < 2 ^ 31) (hg _ (gt_ar k hk)) (va_eqt (hg _ (gt_le k hk))) (fun j hj => va_eqt (hg _ (gt_el k hk j hj))) hA
      exact ⟨t, fun _ => ⟨h1, h2⟩⟩
    · exact ⟨0, fun h => absurd h hk⟩
  obtain ⟨st, hst⟩ : ∃ st : Nat → Nat, ∀ k, k < 4 → (tTm k).eval args s none [] s = some (.ref (st k)) ∧ va_T .int (st k) 6 (fun j => .int (cTab k j)) (fun q => s.heap.size ≤ q) s s.heap := ⟨fun k => (hT k).choose, fun k => (hT k).choose_spec⟩
  obtain ⟨kk, vv, hS, hev⟩ := vk_Sof (tm := tSt) (len := cLen) (byt := cByt) (N := 10) (A := fun q => s.heap.size ≤ q) (s := s) (args := args) (by decide) (fun i hi => hg _ (gs_ex i hi)) (fun i hi => hg _ (gs_co i hi)) (fun i hi => hg _ (gs_ar i hi)) (fun i hi => hg _ (gs_le i hi)) (fun i hi j hj => hg _ (gs_el i hi j hj)) (fun i j hi hj hne => (gs_ne i hi j hj hne).imp (hg _) (hg _)) hA
  have hz : ∀ k, k < 4 → va_Z (tTn.getD k ("", "")).1 (tTn.getD k ("", "")).2 "[I" (.ref (st k)) (fun q => s.heap.size ≤ q) s s.heap := fun k hk => va_Zof (hts _ (gl_t k hk).1) (hts _ (gl_t k hk).2) (hst k hk).1 hA
  refine ⟨D, fun n => [cI, cZ, cB, cO].getD n cI, st, kk, vv, fun af => ⟨⟨⟨hD, fun k q hq => ?_⟩, fun w hw => ?_, ⟨⟨hz 0 (by decide), (hst 0 (by decide)).2⟩, ⟨hz 1 (by decide), (hst 1 (by decide)).2⟩, ⟨hz 2 (by decide), (hst 2 (by decide)).2⟩, ⟨hz 3 (by decide), (hst 3 (by decide)).2⟩⟩, va_Zof (hts _ gl_z.1.1) (hts _ gl_z.1.2) (va_eqt (hg _ gz_cs)) hA, va_Zqof (hts _ gl_z.2.1.1) (hts _ gl_z.2.1.2) (hg _ gz_si) hA, hS, fun i hi => ⟨?_, ?_⟩, vx_Zqof (hts _ gl_z.2.2.1.1) (hts _ gl_z.2.2.1.2) (hg _ gz_us) hA, vx_Zqof (hts _ gl_z.2.2.2) (hts _ gl_z.2.2.1.2) (hg _ gz_ss) hA⟩, ?_, va_AO.of (hts _ gl_ao)⟩⟩
  · match k, hq with
    | 0, hq => cases hq; exact ⟨aI, fI⟩
    | 1, hq => cases hq; exact ⟨aZ, fZ⟩
    | 2, hq => cases hq; exact ⟨aB, fB⟩
    | 3, hq => cases hq; exact ⟨aO, fO⟩
    | k + 4, hq => cases hq
  · have h9 := List.mem_filter.mp hw
    have h8 := hts _ h9.1
    cases w <;> first | exact va_Nw.of rfl h8 | cases h9.2
  · exact hts _ (gl_s i hi)
  · exact hev i hi
  · have hl := va_eqt (hg _ (gt_le 2 (by decide)))
    obtain ⟨t, cell, ht, hat, hv⟩ := Term.length_spec hl
    obtain ⟨cell2, e1, e2, e3, e4, e5, e6, e7⟩ := (hst 2 (by decide)).2
    obtain ⟨a, c, cell3, k, x1, x2, x3, x4, x5, x6, -⟩ := Cond.exactly_spec (hg _ gx_cl)
    obtain rfl : t = st 2 := Value.ref.inj (Option.some.inj (ht.symm.trans (hst 2 (by decide)).1))
    obtain rfl : a = st 2 := Value.ref.inj (Option.some.inj (x1.symm.trans (hst 2 (by decide)).1))
    have e0 := (State.arrayAt?_spec hat).1
    obtain rfl : cell = cell2 := Option.some.inj (e0.symm.trans e1)
    obtain rfl : cell = cell3 := Option.some.inj (e0.symm.trans x3)
    have hlt : cell.slots.size < 2 ^ 31 := by
      by_cases h9 : cell.slots.size < 2 ^ 31
      · exact h9
      · exfalso
        have h8 : (tTm 2).length.eval args s none [] s = none := by
          simp [Term.eval] at ht
          simp [Term.eval, ht, hat]
          omega
        rw [h8] at hl
        cases hl
    have hsz : cell.slots.size = 6 := by
      have h7 := congrArg Int32.toInt e5
      rw [show cell.slots.size.toInt32 = Int32.ofNat cell.slots.size from rfl, Int32.toInt_ofNat_of_lt hlt] at h7
      have h6 : (Int32.ofNat 6).toInt = 6 := by decide
      omega
    refine ⟨cell, e1, ?_, e2.1, e3, ?_, e7⟩
    · rw [x6]
      exact Option.some.inj (x2.symm.trans fI)
    · apply Array.ext
      · rw [Array.size_ofFn, hsz]
      · intro j h1 h2
        have h5 := e6 j (by omega)
        rw [Array.getElem_ofFn]
        exact Option.some.inj ((Array.getElem?_eq_getElem h1).symm.trans h5)
