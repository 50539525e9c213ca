theorem nl_X5_9 : Cond.methodLinkNest RX5 9 yX0_init "WhereFound" ∈ nT := List.mem_filter.mpr ⟨List.mem_of_getElem? (i := 96) (by decide +kernel), rfl⟩
theorem nf_X0_9 : Cond.fieldLinkNest RX0 9 "WhereFound" "SETTING_AT_FIRST" "[I" "WhereFound" ∈ nT := List.mem_filter.mpr ⟨List.mem_of_getElem? (i := 100) (by decide +kernel), rfl⟩
theorem nl_X5_21 : Cond.methodLinkNest RX5 21 yX2_init "WhereFound" ∈ nT := List.mem_filter.mpr ⟨List.mem_of_getElem? (i := 134) (by decide +kernel), rfl⟩
theorem nl_X5_28 : Cond.methodLinkNest RX5 28 yX3_init "WhereFound" ∈ nT := List.mem_filter.mpr ⟨List.mem_of_getElem? (i := 173) (by decide +kernel), rfl⟩
theorem nl_X0_33 : Cond.methodLinkNest RX0 33 yX1_init "WhereFound" ∈ nT := List.mem_filter.mpr ⟨List.mem_of_getElem? (i := 279) (by decide +kernel), rfl⟩
theorem nl_X4_93 : Cond.methodLinkNest RX4 93 yX5_canBeRisk "WhereFound" ∈ nT := List.mem_filter.mpr ⟨List.mem_of_getElem? (i := 456) (by decide +kernel), rfl⟩
theorem nl_X4_97 : Cond.methodLinkNest RX4 97 yX5_isSetting "WhereFound" ∈ nT := List.mem_filter.mpr ⟨List.mem_of_getElem? (i := 459) (by decide +kernel), rfl⟩
theorem nl_X4_100 : Cond.methodLinkNest RX4 100 yX5_canBeSetting "WhereFound" ∈ nT := List.mem_filter.mpr ⟨List.mem_of_getElem? (i := 462) (by decide +kernel), rfl⟩
theorem nl_X4_103 : Cond.methodLinkNest RX4 103 yX5_canBeDay "WhereFound" ∈ nT := List.mem_filter.mpr ⟨List.mem_of_getElem? (i := 470) (by decide +kernel), rfl⟩
theorem nl_X4_106 : Cond.methodLinkNest RX4 106 yX5_canBeHour "WhereFound" ∈ nT := List.mem_filter.mpr ⟨List.mem_of_getElem? (i := 473) (by decide +kernel), rfl⟩
theorem nl_X4_124 : Cond.methodLinkNest RX4 124 yX5_canBeFiledDay "WhereFound" ∈ nT := List.mem_filter.mpr ⟨List.mem_of_getElem? (i := 481) (by decide +kernel), rfl⟩
theorem nl_X4_127 : Cond.methodLinkNest RX4 127 yX5_canBeSpan "WhereFound" ∈ nT := List.mem_filter.mpr ⟨List.mem_of_getElem? (i := 484) (by decide +kernel), rfl⟩
theorem nl_X4_130 : Cond.methodLinkNest RX4 130 yX5_canBeFiledHour "WhereFound" ∈ nT := List.mem_filter.mpr ⟨List.mem_of_getElem? (i := 487) (by decide +kernel), rfl⟩
theorem nl_X4_118 : Cond.methodLinkNest RX4 118 yX5_canBePlace "WhereFound" ∈ nT := List.mem_filter.mpr ⟨List.mem_of_getElem? (i := 490) (by decide +kernel), rfl⟩
theorem nl_X0_61 : Cond.methodLinkNest RX0 61 yX5_canBeRisk "WhereFound" ∈ nT := List.mem_filter.mpr ⟨List.mem_of_getElem? (i := 515) (by decide +kernel), rfl⟩
theorem nl_X0_68 : Cond.methodLinkNest RX0 68 yX5_canBeSetting "WhereFound" ∈ nT := List.mem_filter.mpr ⟨List.mem_of_getElem? (i := 527) (by decide +kernel), rfl⟩
theorem nl_X0_72 : Cond.methodLinkNest RX0 72 yX5_canBeDay "WhereFound" ∈ nT := List.mem_filter.mpr ⟨List.mem_of_getElem? (i := 532) (by decide +kernel), rfl⟩
theorem nl_X0_75 : Cond.methodLinkNest RX0 75 yX5_canBeHour "WhereFound" ∈ nT := List.mem_filter.mpr ⟨List.mem_of_getElem? (i := 533) (by decide +kernel), rfl⟩
theorem nl_X0_95 : Cond.methodLinkNest RX0 95 yX5_canBeSpan "WhereFound" ∈ nT := List.mem_filter.mpr ⟨List.mem_of_getElem? (i := 554) (by decide +kernel), rfl⟩
theorem nl_X0_98 : Cond.methodLinkNest RX0 98 yX5_canBeFiledHour "WhereFound" ∈ nT := List.mem_filter.mpr ⟨List.mem_of_getElem? (i := 555) (by decide +kernel), rfl⟩
theorem nl_X0_101 : Cond.methodLinkNest RX0 101 yX5_canBePlace "WhereFound" ∈ nT := List.mem_filter.mpr ⟨List.mem_of_getElem? (i := 556) (by decide +kernel), rfl⟩
theorem nl_X0_131 : Cond.methodLinkNest RX0 131 yX5_canBeFiledDay "WhereFound" ∈ nT := List.mem_filter.mpr ⟨List.mem_of_getElem? (i := 578) (by decide +kernel), rfl⟩
theorem nl_X0_57 : Cond.methodLinkNest RX0 57 yX5_isSetting "WhereFound" ∈ nT := List.mem_filter.mpr ⟨List.mem_of_getElem? (i := 626) (by decide +kernel), rfl⟩
theorem g_look {σ : Type} {K : Ctx} {X : σ → Heap → Prop} {cs sl pc : Nat} {S : σ} {lv : List (Nat × Value)} {st : List Value} {cc : ByteArray} {own : String} {Kf : State → Prop} {fr lo : Nat} {dflt off : Int} {ps : Array (Int × Int)} {len : Nat} {x : Int32} (t : Nat) (F : Fx K cc own Kf fr lo) (d : decode cc pc = .ok (.lookupswitch dflt ps, len)) (hp : (ps.toList.zip (ps.toList.drop 1)).all (fun (a, next) => a.1 < next.1) = true) (ho : Op.lookupswitch.offset ps.toList dflt x.toInt = off) (ht : (pc : Int) + off = (t : Int)) (kk : G K X cs sl t S lv st) : G K X cs sl pc S lv (.int x :: st) :=
  fun H locs ls hX hS hl => lv_lookup F.1 F.2.1 d hp ho ht (kk H locs ls hX hS hl)
theorem met_ty {σ : Type} {l : Launch} {y : MethodName} {cc : ByteArray} {maxL fr lo : Nat} {X : σ → Heap → Prop} {Kf : State → Prop} {A : Nat → Prop} {S S' : σ} {av : List Value} {r : Int32} {ty : FieldType} (hnar : narrow ty (.int r) = .int r) (hy : plainName y.cls = true) (hlen : (lg_sl av).length ≤ maxL) (walk : ∀ (K : Ctx), kl K = l → kA K = A → kn K = maxL → Fx K cc y.cls Kf fr lo → (∀ (pc : Nat) (lv : List (Nat × Value)), decode cc pc = .ok (.ireturn, 1) → G K X 0 0 pc S' lv [.int r]) → G K X 0 0 0 S (lv_args 0 av) []) : Ci l y cc maxL (some ty) fr lo X Kf A S av r S' := by
  refine met_entry (fr := fr) (lo := lo) hy hlen ⟨rfl, rfl⟩ (fun K hl hA hn hR F hr hlk hQ _ => walk K hl hA hn F ?_)
  intro pc lv d H locs ls hX hS hls
  subst hA
  rw [hQ]
  exact W.zret F.1 F.2.1 hr hnar (fun t ht hW => ⟨⟨r, S', rfl, ⟨rfl, rfl⟩, by show X S' t.heap; rw [ht]; exact hX⟩, hS.F ht⟩) hS.2.2 d hlk
