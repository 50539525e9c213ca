/-! Worlds as they stand, as lists: what makes cells. -/
def rX (D : va_G) (A : Nat → Prop) (ws : va_W) (H : Heap) : Prop := va_P D vwCl ws H ∧ va_D A ws
theorem G.conv {σ τ : Type} {K : Ctx} {X : σ → Heap → Prop} {X' : τ → Heap → Prop} {cs sl pc : Nat} {S : σ} {S' : τ} {lv : List (Nat × Value)} {st : List Value} (hc : ∀ H, X S H → X' S' H) (k : G K X' cs sl pc S' lv st) : G K X cs sl pc S lv st := fun H locs ls hX hS hl => k H locs ls (hc H hX) hS hl
theorem G.widen {σ : Type} {K : Ctx} {X : σ → Heap → Prop} {cs sl pc : Nat} {S : σ} {lv : List (Nat × Value)} {st : List Value} (cs' sl' : Nat) (h1 : cs ≤ cs') (h2 : sl ≤ sl') (k : G K X cs' sl' pc S lv st) : G K X cs sl pc S lv st := fun H locs ls hX hS hl => W.widen h1 h2 (k H locs ls hX hS hl)
theorem pre_get (w0 L : va_W) (i : Nat) : (w0 ++ L)[w0.length + i]? = L[i]? := by
  rw [List.getElem?_append_right (Nat.le_add_right _ _), Nat.add_sub_cancel_left]
theorem pre_set (w0 L : va_W) (i : Nat) (y : Nat × va_E) : (w0 ++ L).set (w0.length + i) y = w0 ++ L.set i y := by
  rw [List.set_append_right _ _ (Nat.le_add_right _ _), Nat.add_sub_cancel_left]
def Cr (l : Launch) (y : MethodName) (cc : ByteArray) (maxL fr lo mc ms : Nat) (D : va_G) (Kf : State → Prop) (A : Nat → Prop) (ws : va_W) (av : List Value) (P : va_W → Prop) : Prop :=
  Met l y (.code y cc maxL none :: wT) { frames := fr, cells := mc, slots := ms, locals := lo } (va_Pc av (cPre (rX D A) Kf A ws)) (va_Qv (fun (u : va_W) => P u) (fun u t => rX D A u t.heap) A) mc ms A
theorem met_r {l : Launch} {y : MethodName} {cc : ByteArray} {maxL fr lo mc ms : Nat} {D : va_G} {Kf : State → Prop} {A : Nat → Prop} {ws : va_W} {av : List Value} {P : va_W → Prop} (hy : plainName y.cls = true) (hlen : (lg_sl av).length ≤ maxL) (walk : ∀ (K : Ctx), kl K = l → kA K = A → kn K = maxL → kR K = { frames := fr, cells := mc, slots := ms, locals := lo } → Fx K cc y.cls Kf fr lo → (kh K).name = y.name → (∀ (u : va_W), P u → ∀ (pc : Nat) (lv : List (Nat × Value)), decode cc pc = .ok (.return_, 1) → G K (rX D A) mc ms pc u lv []) → G K (rX D A) 0 0 0 ws (lv_args 0 av) []) : Cr l y cc maxL fr lo mc ms D Kf A ws av P := by
  refine met_entry (fr := fr) (lo := lo) hy hlen ⟨rfl, rfl⟩ (fun K hl hA hn hR F hr hlk hQ hnm => walk K hl hA hn hR F hnm ?_)
  intro u hu pc lv d H locs ls hX hS hls
  subst hA
  rw [hQ]
  exact W.vret F.1 F.2.1 hr (fun t ht hW => ⟨⟨u, rfl, hu, by show rX D (kA K) u t.heap; rw [ht]; exact hX⟩, hS.F ht⟩) hS.2.2 d hlk
section RawRows
variable {K : Ctx} {D : va_G} {tys : List (ClassId × FieldType)} {w0 L : va_W} {cs sl pc : Nat} {lv : List (Nat × Value)} {st : List Value} {cc : ByteArray} {own : String} {Kf : State → Prop} {fr lo idx : Nat}
theorem r_objInit {ws : va_W} {a : Nat} (n : Nat) (F : Fx K cc own Kf fr lo) (hl : Cond.methodLink own idx ⟨"java/lang/Object", "<init>", "()V"⟩ ∈ wT) (hi : Cond.instanceMethod objectInit ∈ wT) (hc : Cond.code objectInit ⟨#[0xb1]⟩ 1 none ∈ wT) (hfr : 1 ≤ fr) (hlo : (st.map fun v => v.category).sum + 12 ≤ lo) (d : decode cc pc = .ok (.invokespecial idx, 3)) (hn : pc + 3 = n) (kk : G K (rX D (kA K)) cs sl n ws lv st) : G K (rX D (kA K)) cs sl pc ws lv (.ref a :: st) := by
  subst hn
  intro H locs ls hX hS hls
  refine W.objInit F.1 F.2.1 F.2.2.2.1 (F.2.2.2.2.1 _ hl) (F.2.2.2.2.1 _ hi) (F.2.2.2.2.1 _ hc) rfl (hls.1.trans F.2.2.1.symm) rfl d (Nat.le_trans hfr F.2.2.2.2.2.2.2.1) (Nat.le_trans (by show 0 + _ + 12 ≤ lo; rw [Nat.zero_add]; exact hlo) F.2.2.2.2.2.2.2.2) ?_
  exact kk H locs ls hX hS hls
theorem rp_new {ci N : Nat} {C : String} {T : u_T} {ty : Nat → FieldType} {fs : List Value} (n : Nat) (F : Fx K cc own Kf fr lo) (hK : va_K D vwCl tys (ks K)) (hin : ∀ w ∈ u_ws C T N, w ∈ wT) (hty : ∀ k, k < N → parseFieldDescriptor (T k).2.2.1 = some (ty k)) (hcl : Cond.classLink own idx C ∈ wT) (hinst : Cond.instantiable C N ∈ wT) (hini : Cond.initialized C ∈ wT) (hc : vwCl[ci]? = some (C, T, N)) (hfs : ∀ j, j < N → defaultValue (ty j) = vp_V fs j) (hcells : cs + 1 ≤ (kR K).cells) (hslots : sl + N ≤ (kR K).slots) (d : decode cc pc = .ok (.new idx, 3)) (hn : pc + 3 = n) (kk : ∀ q : Nat, G K (rX D (kA K)) (cs + 1) (sl + N) n (w0 ++ (L ++ [(q, .inr (ci, fs))])) lv (.ref q :: st)) : G K (rX D (kA K)) cs sl pc (w0 ++ L) lv st := by
  subst hn
  intro H locs ls hX hS hls
  refine va_new F.1 F.2.1 F.2.2.2.2.1 hin ty hty F.2.2.2.1 (F.2.2.2.2.1 _ hcl) (F.2.2.2.2.1 _ hinst) (F.2.2.2.2.1 _ hini) hK hX.1 hX.2 hS F.2.2.2.2.2.2.1 hc hfs hcells hslots d (fun q H1 hP hD hS1 => ?_)
  rw [List.append_assoc] at hP hD
  exact kk q H1 locs ls ⟨hP, hD⟩ hS1 hls
theorem rp_newI {cI : ClassId} (t0 : Nat) {v : Int32} {N : Nat} (n : Nat) (F : Fx K cc own Kf fr lo) (hK : va_K D vwCl tys (ks K)) (ht : tys[t0]? = some (cI, .int)) (hv : ¬ v < 0) (hN : v.toNatClampNeg = N) (hb : N * 4 ≤ 536870912) (hcells : cs + 1 ≤ (kR K).cells) (hslots : sl + N ≤ (kR K).slots) (d : decode cc pc = .ok (.newarray .int, 2)) (hn : pc + 2 = n) (kk : ∀ q : Nat, G K (rX D (kA K)) (cs + 1) (sl + N) n (w0 ++ (L ++ [(q, .inl (cI, N, .inl (fun _ => 0)))])) lv (.ref q :: st)) : G K (rX D (kA K)) cs sl pc (w0 ++ L) lv (.int v :: st) := by
  subst hn
  intro H locs ls hX hS hls
  refine va_newa (atype := .int) (ty := .int) (a0 := (N, .inl (fun _ => 0))) F.1 F.2.1 (F.2.2.2.2.1 _ ac_int) rfl hK hX.1 hX.2 hS F.2.2.2.2.2.2.1 (fun _ => rfl) hv hN hb hcells hslots d (fun q cA H1 hK1 hP hD hS1 => ?_)
  have h1 : (ks K).vm.findClass ("[" ++ FieldType.int.toString) = some cA := (hK1.2 tys.length (cA, .int) (by rw [List.getElem?_append_right (Nat.le_refl _), Nat.sub_self]; rfl)).2
  have h2 : (ks K).vm.findClass ("[" ++ FieldType.int.toString) = some cI := (hK.2 t0 (cI, .int) ht).2
  obtain rfl : cA = cI := Option.some.inj (h1.symm.trans h2)
  rw [List.append_assoc] at hP hD
  exact kk q H1 locs ls ⟨hP, hD⟩ hS1 hls
theorem rp_newZ {cI : ClassId} (t0 : Nat) {v : Int32} {N : Nat} (n : Nat) (F : Fx K cc own Kf fr lo) (hK : va_K D vwCl tys (ks K)) (ht : tys[t0]? = some (cI, .boolean)) (hv : ¬ v < 0) (hN : v.toNatClampNeg = N) (hb : N * 1 ≤ 536870912) (hcells : cs + 1 ≤ (kR K).cells) (hslots : sl + N ≤ (kR K).slots) (d : decode cc pc = .ok (.newarray .boolean, 2)) (hn : pc + 2 = n) (kk : ∀ q : Nat, G K (rX D (kA K)) (cs + 1) (sl + N) n (w0 ++ (L ++ [(q, .inl (cI, N, .inl (fun _ => 0)))])) lv (.ref q :: st)) : G K (rX D (kA K)) cs sl pc (w0 ++ L) lv (.int v :: st) := by
  subst hn
  intro H locs ls hX hS hls
  refine va_newa (atype := .boolean) (ty := .boolean) (a0 := (N, .inl (fun _ => 0))) F.1 F.2.1 (F.2.2.2.2.1 _ ac_boolean) rfl hK hX.1 hX.2 hS F.2.2.2.2.2.2.1 (fun _ => rfl) hv hN hb hcells hslots d (fun q cA H1 hK1 hP hD hS1 => ?_)
  have h1 : (ks K).vm.findClass ("[" ++ FieldType.boolean.toString) = some cA := (hK1.2 tys.length (cA, .boolean) (by rw [List.getElem?_append_right (Nat.le_refl _), Nat.sub_self]; rfl)).2
  have h2 : (ks K).vm.findClass ("[" ++ FieldType.boolean.toString) = some cI := (hK.2 t0 (cI, .boolean) ht).2
  obtain rfl : cA = cI := Option.some.inj (h1.symm.trans h2)
  rw [List.append_assoc] at hP hD
  exact kk q H1 locs ls ⟨hP, hD⟩ hS1 hls
theorem rp_newB {cI : ClassId} (t0 : Nat) {v : Int32} {N : Nat} (n : Nat) (F : Fx K cc own Kf fr lo) (hK : va_K D vwCl tys (ks K)) (ht : tys[t0]? = some (cI, .byte)) (hv : ¬ v < 0) (hN : v.toNatClampNeg = N) (hb : N * 1 ≤ 536870912) (hcells : cs + 1 ≤ (kR K).cells) (hslots : sl + N ≤ (kR K).slots) (d : decode cc pc = .ok (.newarray .byte, 2)) (hn : pc + 2 = n) (kk : ∀ q : Nat, G K (rX D (kA K)) (cs + 1) (sl + N) n (w0 ++ (L ++ [(q, .inl (cI, N, .inl (fun _ => 0)))])) lv (.ref q :: st)) : G K (rX D (kA K)) cs sl pc (w0 ++ L) lv (.int v :: st) := by
  subst hn
  intro H locs ls hX hS hls
  refine va_newa (atype := .byte) (ty := .byte) (a0 := (N, .inl (fun _ => 0))) F.1 F.2.1 (F.2.2.2.2.1 _ ac_byte) rfl hK hX.1 hX.2 hS F.2.2.2.2.2.2.1 (fun _ => rfl) hv hN hb hcells hslots d (fun q cA H1 hK1 hP hD hS1 => ?_)
  have h1 : (ks K).vm.findClass ("[" ++ FieldType.byte.toString) = some cA := (hK1.2 tys.length (cA, .byte) (by rw [List.getElem?_append_right (Nat.le_refl _), Nat.sub_self]; rfl)).2
  have h2 : (ks K).vm.findClass ("[" ++ FieldType.byte.toString) = some cI := (hK.2 t0 (cI, .byte) ht).2
  obtain rfl : cA = cI := Option.some.inj (h1.symm.trans h2)
  rw [List.append_assoc] at hP hD
  exact kk q H1 locs ls ⟨hP, hD⟩ hS1 hls
theorem rp_put {L' : va_W} {i k ci N a : Nat} {C : String} {T : u_T} {ty0 : Nat → FieldType} {fs : List Value} {v : Value} {ty : FieldType} (n : Nat) (F : Fx K cc own Kf fr lo) (hK : va_K D vwCl tys (ks K)) (he : L[i]? = some (a, .inr (ci, fs))) (hc : vwCl[ci]? = some (C, T, N)) (hin : ∀ w ∈ u_ws C T N, w ∈ wT) (hty : ∀ k, k < N → parseFieldDescriptor (T k).2.2.1 = some (ty0 k)) (hnm : ∀ a, a < N → ∀ b, b < N → a ≠ b → (T a).2.1 ≠ (T b).2.1) (hk : k < N) (hl : Cond.fieldLink own idx (T k).1 (T k).2.1 (T k).2.2.1 ∈ wT) (hfin : (T k).2.2.2 = false) (hd : parseFieldDescriptor (T k).2.2.1 = some ty) (hnar : narrow ty v = v) (hfit : fits ty v = true) (hlen : k < fs.length) (hL : L.set i (a, .inr (ci, fs.set k v)) = L') (d : decode cc pc = .ok (.putfield idx, 3)) (hn : pc + 3 = n) (kk : G K (rX D (kA K)) cs sl n (w0 ++ L') lv st) : G K (rX D (kA K)) cs sl pc (w0 ++ L) lv (v :: .ref a :: st) := by
  subst hn; subst hL
  intro H locs ls hX hS hls
  refine va_put (D := D) F.1 F.2.1 F.2.2.2.2.1 hin ty0 hty hnm F.2.2.2.1 hK hX.1 hX.2 hS (w0.length + i) ((pre_get w0 L i).trans he) hc k hk (F.2.2.2.2.1 _ hl) (fun _ h9 => h9) hfin hd hnar hfit hlen d (fun H1 locs1 hP hD hS1 => ?_)
  rw [pre_set] at hP hD
  exact kk H1 locs1 ls ⟨hP, hD⟩ hS1 hls
theorem rp_putF {L' : va_W} {i k ci N a : Nat} {C : String} {T : u_T} {ty0 : Nat → FieldType} {fs : List Value} {v : Value} {ty : FieldType} (n : Nat) (F : Fx K cc own Kf fr lo) (hK : va_K D vwCl tys (ks K)) (hnme : (kh K).name = "<init>") (he : L[i]? = some (a, .inr (ci, fs))) (hc : vwCl[ci]? = some (C, T, N)) (hin : ∀ w ∈ u_ws C T N, w ∈ wT) (hty : ∀ k, k < N → parseFieldDescriptor (T k).2.2.1 = some (ty0 k)) (hnm : ∀ a, a < N → ∀ b, b < N → a ≠ b → (T a).2.1 ≠ (T b).2.1) (hk : k < N) (hl : Cond.fieldLink own idx (T k).1 (T k).2.1 (T k).2.2.1 ∈ wT) (hfin : (T k).2.2.2 = true) (hdec : (T k).1 = own) (hd : parseFieldDescriptor (T k).2.2.1 = some ty) (hnar : narrow ty v = v) (hfit : fits ty v = true) (hlen : k < fs.length) (hL : L.set i (a, .inr (ci, fs.set k v)) = L') (d : decode cc pc = .ok (.putfield idx, 3)) (hn : pc + 3 = n) (kk : G K (rX D (kA K)) cs sl n (w0 ++ L') lv st) : G K (rX D (kA K)) cs sl pc (w0 ++ L) lv (v :: .ref a :: st) := by
  subst hn; subst hL
  intro H locs ls hX hS hls
  refine va_putF (D := D) F.1 F.2.1 F.2.2.2.2.1 hin ty0 hty hnm F.2.2.2.1 hK hX.1 hX.2 hS (w0.length + i) ((pre_get w0 L i).trans he) hc k hk (F.2.2.2.2.1 _ hl) (fun _ h9 => h9) hfin hnme hdec hd hnar hfit hlen d (fun H1 locs1 hP hD hS1 => ?_)
  rw [pre_set] at hP hD
  exact kk H1 locs1 ls ⟨hP, hD⟩ hS1 hls
theorem rp_get {i k ci N a : Nat} {C : String} {T : u_T} {fs : List Value} {v : Value} (n : Nat) (F : Fx K cc own Kf fr lo) (hK : va_K D vwCl tys (ks K)) (he : L[i]? = some (a, .inr (ci, fs))) (hc : vwCl[ci]? = some (C, T, N)) (hin : ∀ w ∈ u_ws C T N, w ∈ wT) (hk : k < N) (hl : Cond.fieldLink own idx (T k).1 (T k).2.1 (T k).2.2.1 ∈ wT) (hv : fs[k]? = some v) (d : decode cc pc = .ok (.getfield idx, 3)) (hn : pc + 3 = n) (kk : G K (rX D (kA K)) cs sl n (w0 ++ L) lv (v :: st)) : G K (rX D (kA K)) cs sl pc (w0 ++ L) lv (.ref a :: st) := by
  subst hn
  exact fun H locs ls hX hS hls => va_get (D := D) F.1 F.2.1 F.2.2.2.2.1 hin F.2.2.2.1 hK hX.1 (w0.length + i) ((pre_get w0 L i).trans he) hc k hk (F.2.2.2.2.1 _ hl) (fun _ h9 => h9) hv d (kk H locs ls hX hS hls)
theorem rp_ast {L' : va_W} {i N a : Nat} {cI : ClassId} {f : Nat → Int32} {x v : Int32} (t0 : Nat) (n : Nat) (F : Fx K cc own Kf fr lo) (hK : va_K D vwCl tys (ks K)) (ht : tys[t0]? = some (cI, .int)) (he : L[i]? = some (a, .inl (cI, N, .inl f))) (hi : ok x N) (hL : L.set i (a, .inl (cI, N, .inl (upd f x.toNatClampNeg v))) = L') (d : decode cc pc = .ok (.iastore, 1)) (hn : pc + 1 = n) (kk : G K (rX D (kA K)) cs sl n (w0 ++ L') lv st) : G K (rX D (kA K)) cs sl pc (w0 ++ L) lv (.int v :: .int x :: .ref a :: st) := by
  subst hn; subst hL
  intro H locs ls hX hS hls
  refine va_iast F.1 F.2.1 hK hX.1 hX.2 hS (w0.length + i) t0 ((pre_get w0 L i).trans he) ht hi d (fun H1 locs1 hP hD hS1 => ?_)
  rw [pre_set] at hP hD
  exact kk H1 locs1 ls ⟨hP, hD⟩ hS1 hls
theorem r_cIN {ws : va_W} {y : MethodName} {cc2 : ByteArray} {maxL fr2 lo2 mc ms k b : Nat} {host : String} {As st0 : List Value} {P : va_W → Prop} (n : Nat) (F : Fx K cc own Kf fr lo) (hok : KfOk (kA K) Kf) (hM : Cr (kl K) y cc2 maxL fr2 lo2 mc ms D Kf (kA K) ws (.ref b :: As) P) (wy : Wi y cc2 maxL k) (hl : va_Nw (.methodLinkNest own idx y host) (ks K)) (hR : fr2 + 1 ≤ fr ∧ 8 + (maxL + 11) + lo2 ≤ lo) (hst : st0 = As.reverse ++ .ref b :: st) (hk : As.length = k) (hcat : (st.map fun v => v.category).sum ≤ 8) (hcs : cs + mc ≤ (kR K).cells ∧ sl + ms ≤ (kR K).slots) (d : decode cc pc = .ok (.invokespecial idx, 3)) (hn : pc + 3 = n) (kk : ∀ u, P u → G K (rX D (kA K)) (cs + mc) (sl + ms) n u lv st) : G K (rX D (kA K)) cs sl pc ws lv st0 := by
  subst hn
  intro H locs ls hX hS hls
  have hts := F.2.2.2.2.1
  refine va_callv (va_runIN (As := As) (rest := st) ⟨F.1, F.2.1, F.2.2.1, F.2.2.2.1, F.2.2.2.2.1⟩ hM ⟨va_cnB k hts (wT_goodIn wy.1) rfl rfl rfl hl (hts _ wy.2.2.1) wy.2.2.2.2 ⟨Nat.le_trans hR.1 F.2.2.2.2.2.2.2.1, Nat.le_trans hR.2 F.2.2.2.2.2.2.2.2⟩, wy.2.2.2.1, hts _ wy.2.1⟩ ⟨cPre_blind hok, fun U hU hW => ⟨rfl, cPre_at F hok hX hS U hU hW⟩⟩ rfl hk hls.1 hst (lv_room hcat) d hcs) hS (fun _ _ h => h) (fun _ h => h) (fun u t H1 locs1 ht hvm hw hB hz1 hk1 hS1 => ?_)
  have hB : rX D (kA K) u t.heap := hB
  rw [ht] at hB
  exact kk u hw H1 locs1 ls hB hS1 hls
theorem r_cI {ws : va_W} {y : MethodName} {cc2 : ByteArray} {maxL fr2 lo2 mc ms k b : Nat} {As st0 : List Value} {P : va_W → Prop} (n : Nat) (F : Fx K cc own Kf fr lo) (hok : KfOk (kA K) Kf) (hM : Cr (kl K) y cc2 maxL fr2 lo2 mc ms D Kf (kA K) ws (.ref b :: As) P) (wy : Wi y cc2 maxL k) (hl : Cond.methodLink own idx y ∈ wT) (hR : fr2 + 1 ≤ fr ∧ 8 + (maxL + 11) + lo2 ≤ lo) (hst : st0 = As.reverse ++ .ref b :: st) (hk : As.length = k) (hcat : (st.map fun v => v.category).sum ≤ 8) (hcs : cs + mc ≤ (kR K).cells ∧ sl + ms ≤ (kR K).slots) (d : decode cc pc = .ok (.invokespecial idx, 3)) (hn : pc + 3 = n) (kk : ∀ u, P u → G K (rX D (kA K)) (cs + mc) (sl + ms) n u lv st) : G K (rX D (kA K)) cs sl pc ws lv st0 := by
  subst hn
  intro H locs ls hX hS hls
  have hts := F.2.2.2.2.1
  refine va_callv (va_runI (As := As) (rest := st) ⟨F.1, F.2.1, F.2.2.1, F.2.2.2.1, F.2.2.2.2.1⟩ hM ⟨callB_of k hts (wT_goodIn wy.1) rfl rfl rfl (hts _ wy.2.2.1) (hts _ hl) wy.2.2.2.2 ⟨Nat.le_trans hR.1 F.2.2.2.2.2.2.2.1, Nat.le_trans hR.2 F.2.2.2.2.2.2.2.2⟩, wy.2.2.2.1, hts _ wy.2.1⟩ ⟨cPre_blind hok, fun U hU hW => ⟨rfl, cPre_at F hok hX hS U hU hW⟩⟩ rfl hk hls.1 hst (lv_room hcat) d hcs) hS (fun _ _ h => h) (fun _ h => h) (fun u t H1 locs1 ht hvm hw hB hz1 hk1 hS1 => ?_)
  have hB : rX D (kA K) u t.heap := hB
  rw [ht] at hB
  exact kk u hw H1 locs1 ls hB hS1 hls
end RawRows
