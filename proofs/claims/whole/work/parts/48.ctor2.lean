/-! The class's constructors. -/
def cCl (B : CB) (A : Nat → Prop) (U : State) : Prop := ∃ cell : Cell, U.heap[B.2.2.1 2]? = some cell ∧ cell.cls = B.2.1 0 ∧ (∀ k, cell.vm ≠ .statics k) ∧ cell.vm ≠ .unknown ∧ cell.slots = Array.ofFn (n := 6) (fun j => Value.int (cTab 2 j.val)) ∧ ¬ A (B.2.2.1 2)
def cKf2 (B : CB) (A : Nat → Prop) (U : State) : Prop := cKf B A U ∧ cCl B A U ∧ va_AO RX1 U
theorem cKf2_ok (B : CB) (A : Nat → Prop) : KfOk A (cKf2 B A) := by
  refine ⟨fun U g mk a h => ⟨(cKf_ok B A).1 U g mk a h.1, h.2.1, va_AO.moved (u := U) (U := U.calling g mk a) (Vm.Alike.refl U.vm) h.2.2⟩, fun s U locs h hW hS => ⟨(cKf_ok B A).2 s U locs h.1 hW hS, ?_, va_AO.moved hW.alike h.2.2⟩⟩
  obtain ⟨cell, h1, h2, h3, h4, h5, h6⟩ := h.2.1
  exact ⟨cell, by rw [hS.2.1 _ (Array.getElem?_eq_some_iff.mp h1).1 h6]; exact h1, h2, h3, h4, h5, h6⟩
section Clone
variable {K : Ctx} {B : CB} {w0 L : va_W} {cs sl pc : Nat} {lv : List (Nat × Value)} {st : List Value} {cc : ByteArray} {own : String} {fr lo idx : Nat}
theorem r_clone (n : Nat) (F : Fx K cc own (cKf2 B (kA K)) fr lo) (hlink : Cond.methodLink own idx ⟨"[I", "clone", "()Ljava/lang/Object;"⟩ ∈ wT) (hsame : Cond.sameMethod "[I" "java/lang/Object" "clone" "()Ljava/lang/Object;" ∈ wT) (hnat : Cond.native ⟨"java/lang/Object", "clone", "()Ljava/lang/Object;"⟩ ∈ wT) (hinst : Cond.instanceMethod ⟨"java/lang/Object", "clone", "()Ljava/lang/Object;"⟩ ∈ wT) (hsel : Cond.selects "[I" ⟨"[I", "clone", "()Ljava/lang/Object;"⟩ ⟨"java/lang/Object", "clone", "()Ljava/lang/Object;"⟩ ∈ wT) (hcl : Cond.castable "[I" "java/lang/Cloneable" ∈ nT) (hfr : 1 ≤ fr) (hlo : (st.map fun v => v.category).sum + 14 ≤ lo) (hcells : cs + 1 ≤ (kR K).cells) (hslots : sl + 6 ≤ (kR K).slots) (d : decode cc pc = .ok (.invokevirtual idx, 3)) (hn : pc + 3 = n) (kk : ∀ q : Nat, G K (rX B.1 (kA K)) (cs + 1) (sl + 6) n (w0 ++ (L ++ [(q, .inl (B.2.1 0, 6, .inl (cTab 2)))])) lv (.ref q :: st)) : G K (rX B.1 (kA K)) cs sl pc (w0 ++ L) lv (.ref (B.2.2.1 2) :: st) := by
  subst hn
  intro H locs ls hX hS hls T hT X
  have hKf := F.2.2.2.2.2.1
  have hK := hKf.1.1
  have hts := F.2.2.2.2.1
  obtain ⟨cell, c1, c2, c3, c4, c5, c6⟩ := hKf.2.1
  have c1H : H[B.2.2.1 2]? = some cell := by rw [hS.2.1 _ (Array.getElem?_eq_some_iff.mp c1).1 c6]; exact c1
  have hnm : (ks K).vm.findClass "[I" = some cell.cls := by rw [c2]; exact (hK.2 0 (B.2.1 0, .int) rfl).2
  obtain ⟨c0, t0', f1, f2, f3⟩ := Cond.castable_spec (va_Nw.use (A := ka K) rfl (hKf.1.2.1 _ hcl))
  cases hnm.symm.trans f1
  have hsz : cell.slots.size = 6 := by rw [c5, Array.size_ofFn]
  obtain ⟨-, kA', hkA, comp, hkind⟩ := State.isArrayOf_alike X.warmed.alike ((hK.2 0 (B.2.1 0, .int) rfl).1 0 (fun _ => .null))
  obtain ⟨-, kS, hkS, compS, hkindS⟩ := (hK.2 0 (B.2.1 0, .int) rfl).1 0 (fun _ => .null)
  obtain ⟨vm', X', st'⟩ := X.cloneArray F.1 F.2.2.2.1 (hts _ hlink) (hts _ hsame) (hts _ hnat) (hts _ hinst) (hts _ hsel) (a := B.2.2.1 2) (cell := cell) (by rw [hT]; exact c1H) c3 c4 hnm f2 f3
    (fun i v hv => by
      rw [c2]
      have hk' : T.vm.classes[B.2.1 0]? = some kA' := hkA
      have hfit : fits .int v = true := by
        rw [c5] at hv
        obtain ⟨hlt, e⟩ := Array.getElem?_eq_some_iff.mp hv
        rw [Array.getElem_ofFn] at e
        rw [← e]; rfl
      simpa [State.fitsSlot, State.slotType?, hk', hkind] using hfit)
    (g := F0 (km K) pc ls (.ref (B.2.2.1 2) :: st)) rfl (hls.1.trans F.2.2.1.symm) rfl (by rw [F.2.1]; exact d) (Nat.le_trans hfr F.2.2.2.2.2.2.2.1) (Nat.le_trans (by show 2 * 0 + _ + 14 ≤ lo; omega) F.2.2.2.2.2.2.2.2) hcells (by rw [hsz]; exact hslots) (hloader := by rw [c2]; exact Vm.clonesLoader_of_array hkS hkindS)
  rw [hsz] at X'
  have hE : ({ cls := cell.cls, slots := cell.slots } : Cell) = vp_cell (B.2.1 0) (6, .inl (cTab 2)) := by
    rw [c2, c5]; rfl
  rw [hE] at X' st'
  generalize hH1 : H.push (vp_cell (B.2.1 0) (6, .inl (cTab 2))) = H1
  have z1 : H1.size = H.size + 1 := by rw [← hH1, Array.size_push]
  have e1 : H1[H.size]? = some (vp_cell (B.2.1 0) (6, .inl (cTab 2))) := by rw [← hH1, Array.getElem?_push_size]
  have o1 : ∀ q : Nat, q < H.size → H1[q]? = H[q]? := fun q hq => by rw [← hH1, Array.getElem?_push, if_neg (Nat.ne_of_lt hq)]
  have hk : ∀ (k : Nat) (y : Nat × va_E), (w0 ++ L)[k]? = some y → H1[y.1]? = H[y.1]? := fun k y hy => o1 y.1 ((hX.1 k y hy).lt)
  have hX1 : rX B.1 (kA K) (w0 ++ (L ++ [(H.size, .inl (B.2.1 0, 6, .inl (cTab 2)))])) H1 := by
    rw [← List.append_assoc]
    refine ⟨(hX.1.kept hk).app (fun k y hy => ?_), hX.2.push hX.1 rfl (F.2.2.2.2.2.2.1 _ hS.1)⟩
    have hz : k < 1 := (List.getElem?_eq_some_iff.mp hy).1
    rw [show k = 0 by omega] at hy
    cases hy
    exact e1
  obtain ⟨t, b1, b2⟩ := kk H.size H1 locs ls hX1 ⟨Nat.le_trans hS.1 (by omega), fun y h1 h2 => (o1 y (Nat.lt_of_lt_of_le h1 hS.1)).trans (hS.2.1 y h1 h2), hS.2.2⟩ hls ((T.setVm vm').pushCell (vp_cell (B.2.1 0) (6, .inl (cTab 2)))) (by rw [← hH1, ← hT]; rfl) X'
  refine ⟨t, st' t ?_, b2⟩
  rw [hT]
  exact b1
theorem r_anew {N : Nat} {v : Int32} (n : Nat) (F : Fx K cc own (cKf2 B (kA K)) fr lo) (hlink : Cond.classLink own idx RX1 ∈ wT) (hv : ¬ v < 0) (hN : v.toNatClampNeg = N) (hb : N * 4 ≤ 536870912) (hcells : cs + 1 ≤ (kR K).cells) (hslots : sl + N ≤ (kR K).slots) (d : decode cc pc = .ok (.anewarray idx, 3)) (hn : pc + 3 = n) (kk : ∀ q : Nat, G K (rX B.1 (kA K)) (cs + 1) (sl + N) n (w0 ++ (L ++ [(q, .inl (B.2.1 3, N, .inr (.inr (.inr (.inr (fun _ => none))))))])) lv (.ref q :: st)) : G K (rX B.1 (kA K)) cs sl pc (w0 ++ L) lv (.int v :: st) := by
  subst hn
  intro H locs ls hX hS hls
  have hK := F.2.2.2.2.2.1.1.1
  refine va_newq F.1 F.2.1 F.2.2.2.1 (F.2.2.2.2.1 _ hlink) F.2.2.2.2.2.1.2.2 hK hX.1 hX.2 hS F.2.2.2.2.2.2.1 hv hN hb hcells hslots d (fun q cA H1 hK1 hP hD hS1 => ?_)
  obtain ⟨_, _, _, _, _, h1⟩ := (hK1.2 4 (cA, .object RX1) rfl).2
  obtain ⟨_, _, _, _, _, h2⟩ := (hK.2 3 (B.2.1 3, .object "WhereFound$Sportsman") rfl).2
  obtain rfl : cA = B.2.1 3 := Option.some.inj (h1.symm.trans h2)
  rw [List.append_assoc] at hP hD
  exact kk q H1 locs ls ⟨hP, hD⟩ hS1 hls
theorem r_castI {i a : Nat} {x : vp_A} (n : Nat) (F : Fx K cc own (cKf2 B (kA K)) fr lo) (hlink : Cond.classLink own idx "[I" ∈ wT) (he : L[i]? = some (a, .inl (B.2.1 0, x))) (d : decode cc pc = .ok (.checkcast idx, 3)) (hn : pc + 3 = n) (kk : G K (rX B.1 (kA K)) cs sl n (w0 ++ L) lv (.ref a :: st)) : G K (rX B.1 (kA K)) cs sl pc (w0 ++ L) lv (.ref a :: st) := by
  subst hn
  intro H locs ls hX hS hls
  have hnm : (ks K).vm.findClass "[I" = some (B.2.1 0) := (F.2.2.2.2.2.1.1.1.2 0 (B.2.1 0, .int) rfl).2
  exact va_castA F.1 F.2.1 F.2.2.2.1 (F.2.2.2.2.1 _ hlink) hX.1 (w0.length + i) ((pre_get w0 L i).trans he) hnm d (kk H locs ls hX hS hls)
theorem r_getsN {ws : va_W} {C nm ds host : String} {v : Value} (n : Nat) (F : Fx K cc own (cKf2 B (kA K)) fr lo) (hZ : va_Z C nm ds v (kA K) (ks K) (ks K).heap) (hl : Cond.fieldLinkNest own idx C nm ds host ∈ nT) (d : decode cc pc = .ok (.getstatic idx, 3)) (hn : pc + 3 = n) (kk : G K (rX B.1 (kA K)) cs sl n ws lv (v :: st)) : G K (rX B.1 (kA K)) cs sl pc ws lv st := by
  subst hn
  exact fun H locs ls hX hS hls => va_getsN F.1 F.2.1 hZ hS F.2.2.2.1 (va_Nw.use rfl (F.2.2.2.2.2.1.1.2.1 _ hl)) (fun _ h9 => h9) d (kk H locs ls hX hS hls)
end Clone
