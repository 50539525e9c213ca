/-! Contracts over a side's world, and their use at a call. -/
abbrev cPre {σ : Type} (X : σ → Heap → Prop) (Kf : State → Prop) (A : Nat → Prop) (S : σ) : State → Prop := fun U => X S U.heap ∧ Kf U ∧ ∀ q, U.heap.size ≤ q → A q
def Ci {σ : Type} (l : Launch) (y : MethodName) (cc : ByteArray) (maxL : Nat) (ret : Option FieldType) (fr lo : Nat) (X : σ → Heap → Prop) (Kf : State → Prop) (A : Nat → Prop) (S : σ) (av : List Value) (r : Int32) (S' : σ) : Prop :=
  Met l y (.code y cc maxL ret :: wT) { frames := fr, cells := 0, slots := 0, locals := lo } (va_Pc av (cPre X Kf A S)) (va_Qi (fun (r' : Int32) (u : σ) => r' = r ∧ u = S') (fun u t => X u t.heap) A) 0 0 A
def Cl {σ : Type} (l : Launch) (y : MethodName) (cc : ByteArray) (maxL : Nat) (ret : Option FieldType) (fr lo : Nat) (X : σ → Heap → Prop) (Kf : State → Prop) (A : Nat → Prop) (S : σ) (av : List Value) (r : Int64) (S' : σ) : Prop :=
  Met l y (.code y cc maxL ret :: wT) { frames := fr, cells := 0, slots := 0, locals := lo } (va_Pc av (cPre X Kf A S)) (va_Ql (fun (r' : Int64) (u : σ) => r' = r ∧ u = S') (fun u t => X u t.heap) A) 0 0 A
def Cv {σ : Type} (l : Launch) (y : MethodName) (cc : ByteArray) (maxL : Nat) (ret : Option FieldType) (fr lo : Nat) (X : σ → Heap → Prop) (Kf : State → Prop) (A : Nat → Prop) (S : σ) (av : List Value) (S' : σ) : Prop :=
  Met l y (.code y cc maxL ret :: wT) { frames := fr, cells := 0, slots := 0, locals := lo } (va_Pc av (cPre X Kf A S)) (va_Qv (fun (u : σ) => u = S') (fun u t => X u t.heap) A) 0 0 A
def Cq {σ : Type} (l : Launch) (y : MethodName) (cc : ByteArray) (maxL : Nat) (ret : Option FieldType) (fr lo : Nat) (X : σ → Heap → Prop) (Kf : State → Prop) (A : Nat → Prop) (S : σ) (av : List Value) (r : Option Nat) (S' : σ) : Prop :=
  Met l y (.code y cc maxL ret :: wT) { frames := fr, cells := 0, slots := 0, locals := lo } (va_Pc av (cPre X Kf A S)) (va_Qq (fun (r' : Option Nat) (u : σ) => r' = r ∧ u = S') (fun u t => X u t.heap) A) 0 0 A
/-- the words of an instance method, and of a static one -/
def Wy (y : MethodName) (cc : ByteArray) (maxL : Nat) (ret : Option FieldType) (C : String) (k : Nat) : Prop :=
  Cond.code y cc maxL ret ∈ wT ∧ Cond.instanceMethod y ∈ wT ∧ Cond.selects C y y ∈ wT ∧ Cond.initialized y.cls ∈ wT ∧ y.cls ≠ "java/lang/invoke/MethodHandle" ∧ y.cls ≠ "java/lang/invoke/VarHandle" ∧ (parseMethodDescriptor y.desc).map (fun d => d.parameters.length) = some k
def Ws (y : MethodName) (cc : ByteArray) (maxL : Nat) (ret : Option FieldType) (k : Nat) : Prop :=
  Cond.code y cc maxL ret ∈ wT ∧ Cond.static y ∈ wT ∧ Cond.initialized y.cls ∈ wT ∧ y.cls ≠ "java/lang/invoke/MethodHandle" ∧ y.cls ≠ "java/lang/invoke/VarHandle" ∧ (parseMethodDescriptor y.desc).map (fun d => d.parameters.length) = some k
theorem cPre_blind {σ : Type} {X : σ → Heap → Prop} {Kf : State → Prop} {A : Nat → Prop} {S : σ} {av : List Value} (hok : KfOk A Kf) : FrameBlind (va_Pc av (cPre X Kf A S)) :=
  fun a U g mk h => ⟨h.1, h.2.1, hok.1 U g mk a h.2.2.1, h.2.2.2⟩
section Calls
variable {σ : Type} {K : Ctx} {X : σ → Heap → Prop} {cs sl pc : Nat} {S S' : σ} {lv : List (Nat × Value)} {st st0 As : List Value} {cc cc2 : ByteArray} {own C host : String} {Kf : State → Prop} {fr lo fr2 lo2 idx maxL k b : Nat} {y : MethodName} {ret : Option FieldType} {mc ms : Nat} {rm : Room}
theorem cw_V (F : Fx K cc own Kf fr lo) (wy : Wy y cc2 maxL ret C k) (hl : Cond.methodLink own idx y ∈ wT) (hrm : rm.frames = fr2 ∧ rm.cells = mc ∧ rm.slots = ms ∧ rm.locals = lo2) (hR : fr2 + 1 ≤ fr ∧ 8 + (maxL + 11) + lo2 ≤ lo) : CallW (kR K) (ks K) (ka K) own C idx y cc2 maxL ret (.code y cc2 maxL ret :: wT) rm mc ms k := by
  obtain ⟨h1, h2, h3, h4⟩ := hrm
  have hts := F.2.2.2.2.1
  exact ⟨callB_of k hts (wT_goodIn wy.1) rfl h2 h3 (hts _ wy.2.2.2.1) (hts _ hl) wy.2.2.2.2 ⟨by rw [h1]; exact Nat.le_trans hR.1 F.2.2.2.2.2.2.2.1, by rw [h4]; exact Nat.le_trans hR.2 F.2.2.2.2.2.2.2.2⟩, hts _ wy.2.1, hts _ wy.2.2.1⟩
theorem cw_S (F : Fx K cc own Kf fr lo) (wy : Ws y cc2 maxL ret k) (hl : Cond.methodLink own idx y ∈ wT) (hrm : rm.frames = fr2 ∧ rm.cells = mc ∧ rm.slots = ms ∧ rm.locals = lo2) (hR : fr2 + 1 ≤ fr ∧ 8 + (maxL + 11) + lo2 ≤ lo) : CallB (kR K) (ks K) (ka K) own idx y cc2 maxL ret (.code y cc2 maxL ret :: wT) rm mc ms k ∧ (Cond.static y).before (ka K) (ks K) = true := by
  obtain ⟨h1, h2, h3, h4⟩ := hrm
  have hts := F.2.2.2.2.1
  exact ⟨callB_of k hts (wT_goodIn wy.1) rfl h2 h3 (hts _ wy.2.2.1) (hts _ hl) wy.2.2.2 ⟨by rw [h1]; exact Nat.le_trans hR.1 F.2.2.2.2.2.2.2.1, by rw [h4]; exact Nat.le_trans hR.2 F.2.2.2.2.2.2.2.2⟩, hts _ wy.2.1⟩
theorem cw_VN (F : Fx K cc own Kf fr lo) (wy : Wy y cc2 maxL ret C k) (hl : va_Nw (.methodLinkNest own idx y host) (ks K)) (hrm : rm.frames = fr2 ∧ rm.cells = mc ∧ rm.slots = ms ∧ rm.locals = lo2) (hR : fr2 + 1 ≤ fr ∧ 8 + (maxL + 11) + lo2 ≤ lo) : va_CN (kR K) (ks K) (ka K) own idx y host cc2 maxL ret (.code y cc2 maxL ret :: wT) rm mc ms k ∧ (Cond.instanceMethod y).before (ka K) (ks K) = true ∧ (Cond.selects C y y).before (ka K) (ks K) = true := by
  obtain ⟨h1, h2, h3, h4⟩ := hrm
  have hts := F.2.2.2.2.1
  exact ⟨va_cnB k hts (wT_goodIn wy.1) rfl h2 h3 hl (hts _ wy.2.2.2.1) wy.2.2.2.2 ⟨by rw [h1]; exact Nat.le_trans hR.1 F.2.2.2.2.2.2.2.1, by rw [h4]; exact Nat.le_trans hR.2 F.2.2.2.2.2.2.2.2⟩, hts _ wy.2.1, hts _ wy.2.2.1⟩
theorem cw_SN (F : Fx K cc own Kf fr lo) (wy : Ws y cc2 maxL ret k) (hl : va_Nw (.methodLinkNest own idx y host) (ks K)) (hrm : rm.frames = fr2 ∧ rm.cells = mc ∧ rm.slots = ms ∧ rm.locals = lo2) (hR : fr2 + 1 ≤ fr ∧ 8 + (maxL + 11) + lo2 ≤ lo) : va_CN (kR K) (ks K) (ka K) own idx y host cc2 maxL ret (.code y cc2 maxL ret :: wT) rm mc ms k ∧ (Cond.static y).before (ka K) (ks K) = true ∧ True := by
  obtain ⟨h1, h2, h3, h4⟩ := hrm
  have hts := F.2.2.2.2.1
  exact ⟨va_cnB k hts (wT_goodIn wy.1) rfl h2 h3 hl (hts _ wy.2.2.1) wy.2.2.2 ⟨by rw [h1]; exact Nat.le_trans hR.1 F.2.2.2.2.2.2.2.1, by rw [h4]; exact Nat.le_trans hR.2 F.2.2.2.2.2.2.2.2⟩, hts _ wy.2.1, trivial⟩
theorem cPre_at (F : Fx K cc own Kf fr lo) (hok : KfOk (kA K) Kf) {H : Heap} {locs : List Loc} (hX : X S H) (hS : va_S (kA K) (ks K).heap H locs) : ∀ U : State, U.heap = H → (ks K).WarmedH U.vm → cPre X Kf (kA K) S U := fun U hU hW =>
  ⟨by rw [hU]; exact hX, hok.2 (ks K) U locs F.2.2.2.2.2.1 hW (by rw [hU]; exact hS), fun q hq => F.2.2.2.2.2.2.1 q (Nat.le_trans hS.1 (by rw [← hU]; exact hq))⟩
abbrev Rcv (K : Ctx) (X : σ → Heap → Prop) (S : σ) (b : Nat) (C : String) : Prop := ∀ (H : Heap) (locs : List Loc), X S H → va_S (kA K) (ks K).heap H locs → ∃ cell : Cell, H[b]? = some cell ∧ cell.vm.isStatics = false ∧ (ks K).vm.findClass C = some cell.cls
theorem g_cVi (n : Nat) {r : Int32} (F : Fx K cc own Kf fr lo) (hok : KfOk (kA K) Kf) (hM : Ci (kl K) y cc2 maxL ret fr2 lo2 X Kf (kA K) S (.ref b :: As) r S') (wy : Wy y cc2 maxL ret C k) (hl : Cond.methodLink own idx y ∈ wT) (hrc : Rcv K X S b C) (hR : fr2 + 1 ≤ fr ∧ 8 + (maxL + 11) + lo2 ≤ lo) (hst : st0 = As.reverse ++ .ref b :: st) (hk : As.length = k) (hcat : (st.map fun v => v.category).sum ≤ 8) (hcs : cs ≤ (kR K).cells ∧ sl ≤ (kR K).slots) (d : decode cc pc = .ok (.invokevirtual idx, 3)) (hn : pc + 3 = n) (kk : G K X cs sl n S' lv (.int r :: st)) : G K X cs sl pc S lv st0 := by
  subst hn
  intro H locs ls hX hS hls
  refine va_calli (va_runV (As := As) (rest := st) ⟨F.1, F.2.1, F.2.2.1, F.2.2.2.1, F.2.2.2.2.1⟩ hM (cw_V F wy hl ⟨rfl, rfl, rfl, rfl⟩ hR) ⟨cPre_blind hok, hrc H locs hX hS, fun U hU hW => ⟨rfl, cPre_at F hok hX hS U hU hW⟩⟩ rfl hk hls.1 hst (lv_room hcat) d hcs) hS (fun _ _ h => h) (fun _ h => h) (fun r' u t H1 locs1 ht hvm hw hB hz1 hk1 hS1 => ?_)
  obtain ⟨rfl, rfl⟩ := hw
  have hB : X u t.heap := hB
  rw [ht] at hB
  exact kk H1 locs1 ls hB hS1 hls
theorem g_cVl (n : Nat) {r : Int64} (F : Fx K cc own Kf fr lo) (hok : KfOk (kA K) Kf) (hM : Cl (kl K) y cc2 maxL ret fr2 lo2 X Kf (kA K) S (.ref b :: As) r S') (wy : Wy y cc2 maxL ret C k) (hl : Cond.methodLink own idx y ∈ wT) (hrc : Rcv K X S b C) (hR : fr2 + 1 ≤ fr ∧ 8 + (maxL + 11) + lo2 ≤ lo) (hst : st0 = As.reverse ++ .ref b :: st) (hk : As.length = k) (hcat : (st.map fun v => v.category).sum ≤ 8) (hcs : cs ≤ (kR K).cells ∧ sl ≤ (kR K).slots) (d : decode cc pc = .ok (.invokevirtual idx, 3)) (hn : pc + 3 = n) (kk : G K X cs sl n S' lv (.long r :: st)) : G K X cs sl pc S lv st0 := by
  subst hn
  intro H locs ls hX hS hls
  refine va_calll (va_runV (As := As) (rest := st) ⟨F.1, F.2.1, F.2.2.1, F.2.2.2.1, F.2.2.2.2.1⟩ hM (cw_V F wy hl ⟨rfl, rfl, rfl, rfl⟩ hR) ⟨cPre_blind hok, hrc H locs hX hS, fun U hU hW => ⟨rfl, cPre_at F hok hX hS U hU hW⟩⟩ rfl hk hls.1 hst (lv_room hcat) d hcs) hS (fun _ _ h => h) (fun _ h => h) (fun r' u t H1 locs1 ht hvm hw hB hz1 hk1 hS1 => ?_)
  obtain ⟨rfl, rfl⟩ := hw
  have hB : X u t.heap := hB
  rw [ht] at hB
  exact kk H1 locs1 ls hB hS1 hls
theorem g_cVv (n : Nat) (F : Fx K cc own Kf fr lo) (hok : KfOk (kA K) Kf) (hM : Cv (kl K) y cc2 maxL ret fr2 lo2 X Kf (kA K) S (.ref b :: As) S') (wy : Wy y cc2 maxL ret C k) (hl : Cond.methodLink own idx y ∈ wT) (hrc : Rcv K X S b C) (hR : fr2 + 1 ≤ fr ∧ 8 + (maxL + 11) + lo2 ≤ lo) (hst : st0 = As.reverse ++ .ref b :: st) (hk : As.length = k) (hcat : (st.map fun v => v.category).sum ≤ 8) (hcs : cs ≤ (kR K).cells ∧ sl ≤ (kR K).slots) (d : decode cc pc = .ok (.invokevirtual idx, 3)) (hn : pc + 3 = n) (kk : G K X cs sl n S' lv st) : G K X cs sl pc S lv st0 := by
  subst hn
  intro H locs ls hX hS hls
  refine va_callv (va_runV (As := As) (rest := st) ⟨F.1, F.2.1, F.2.2.1, F.2.2.2.1, F.2.2.2.2.1⟩ hM (cw_V F wy hl ⟨rfl, rfl, rfl, rfl⟩ hR) ⟨cPre_blind hok, hrc H locs hX hS, fun U hU hW => ⟨rfl, cPre_at F hok hX hS U hU hW⟩⟩ rfl hk hls.1 hst (lv_room hcat) d hcs) hS (fun _ _ h => h) (fun _ h => h) (fun u t H1 locs1 ht hvm hw hB hz1 hk1 hS1 => ?_)
  subst hw
  have hB : X u t.heap := hB
  rw [ht] at hB
  exact kk H1 locs1 ls hB hS1 hls
theorem g_cVq (n : Nat) {r : Option Nat} (F : Fx K cc own Kf fr lo) (hok : KfOk (kA K) Kf) (hM : Cq (kl K) y cc2 maxL ret fr2 lo2 X Kf (kA K) S (.ref b :: As) r S') (wy : Wy y cc2 maxL ret C k) (hl : Cond.methodLink own idx y ∈ wT) (hrc : Rcv K X S b C) (hR : fr2 + 1 ≤ fr ∧ 8 + (maxL + 11) + lo2 ≤ lo) (hst : st0 = As.reverse ++ .ref b :: st) (hk : As.length = k) (hcat : (st.map fun v => v.category).sum ≤ 8) (hcs : cs ≤ (kR K).cells ∧ sl ≤ (kR K).slots) (d : decode cc pc = .ok (.invokevirtual idx, 3)) (hn : pc + 3 = n) (kk : G K X cs sl n S' lv (va_rf r :: st)) : G K X cs sl pc S lv st0 := by
  subst hn
  intro H locs ls hX hS hls
  refine va_callq (va_runV (As := As) (rest := st) ⟨F.1, F.2.1, F.2.2.1, F.2.2.2.1, F.2.2.2.2.1⟩ hM (cw_V F wy hl ⟨rfl, rfl, rfl, rfl⟩ hR) ⟨cPre_blind hok, hrc H locs hX hS, fun U hU hW => ⟨rfl, cPre_at F hok hX hS U hU hW⟩⟩ rfl hk hls.1 hst (lv_room hcat) d hcs) hS (fun _ _ h => h) (fun _ h => h) (fun r' u t H1 locs1 ht hvm hw hB hz1 hk1 hS1 => ?_)
  obtain ⟨rfl, rfl⟩ := hw
  have hB : X u t.heap := hB
  rw [ht] at hB
  exact kk H1 locs1 ls hB hS1 hls
theorem g_cSi (n : Nat) {r : Int32} (F : Fx K cc own Kf fr lo) (hok : KfOk (kA K) Kf) (hM : Ci (kl K) y cc2 maxL ret fr2 lo2 X Kf (kA K) S As r S') (wy : Ws y cc2 maxL ret k) (hl : Cond.methodLink own idx y ∈ wT) (hR : fr2 + 1 ≤ fr ∧ 8 + (maxL + 11) + lo2 ≤ lo) (hst : st0 = As.reverse ++ st) (hk : As.length = k) (hcat : (st.map fun v => v.category).sum ≤ 8) (hcs : cs ≤ (kR K).cells ∧ sl ≤ (kR K).slots) (d : decode cc pc = .ok (.invokestatic idx, 3)) (hn : pc + 3 = n) (kk : G K X cs sl n S' lv (.int r :: st)) : G K X cs sl pc S lv st0 := by
  subst hn
  intro H locs ls hX hS hls
  refine va_calli (va_runS (As := As) (rest := st) ⟨F.1, F.2.1, F.2.2.1, F.2.2.2.1, F.2.2.2.2.1⟩ hM (cw_S F wy hl ⟨rfl, rfl, rfl, rfl⟩ hR) ⟨cPre_blind hok, fun U hU hW => ⟨rfl, cPre_at F hok hX hS U hU hW⟩⟩ rfl hk hls.1 hst (lv_room hcat) d hcs) hS (fun _ _ h => h) (fun _ h => h) (fun r' u t H1 locs1 ht hvm hw hB hz1 hk1 hS1 => ?_)
  obtain ⟨rfl, rfl⟩ := hw
  have hB : X u t.heap := hB
  rw [ht] at hB
  exact kk H1 locs1 ls hB hS1 hls
theorem g_cSl (n : Nat) {r : Int64} (F : Fx K cc own Kf fr lo) (hok : KfOk (kA K) Kf) (hM : Cl (kl K) y cc2 maxL ret fr2 lo2 X Kf (kA K) S As r S') (wy : Ws y cc2 maxL ret k) (hl : Cond.methodLink own idx y ∈ wT) (hR : fr2 + 1 ≤ fr ∧ 8 + (maxL + 11) + lo2 ≤ lo) (hst : st0 = As.reverse ++ st) (hk : As.length = k) (hcat : (st.map fun v => v.category).sum ≤ 8) (hcs : cs ≤ (kR K).cells ∧ sl ≤ (kR K).slots) (d : decode cc pc = .ok (.invokestatic idx, 3)) (hn : pc + 3 = n) (kk : G K X cs sl n S' lv (.long r :: st)) : G K X cs sl pc S lv st0 := by
  subst hn
  intro H locs ls hX hS hls
  refine va_calll (va_runS (As := As) (rest := st) ⟨F.1, F.2.1, F.2.2.1, F.2.2.2.1, F.2.2.2.2.1⟩ hM (cw_S F wy hl ⟨rfl, rfl, rfl, rfl⟩ hR) ⟨cPre_blind hok, fun U hU hW => ⟨rfl, cPre_at F hok hX hS U hU hW⟩⟩ rfl hk hls.1 hst (lv_room hcat) d hcs) hS (fun _ _ h => h) (fun _ h => h) (fun r' u t H1 locs1 ht hvm hw hB hz1 hk1 hS1 => ?_)
  obtain ⟨rfl, rfl⟩ := hw
  have hB : X u t.heap := hB
  rw [ht] at hB
  exact kk H1 locs1 ls hB hS1 hls
theorem g_cSv (n : Nat) (F : Fx K cc own Kf fr lo) (hok : KfOk (kA K) Kf) (hM : Cv (kl K) y cc2 maxL ret fr2 lo2 X Kf (kA K) S As S') (wy : Ws y cc2 maxL ret k) (hl : Cond.methodLink own idx y ∈ wT) (hR : fr2 + 1 ≤ fr ∧ 8 + (maxL + 11) + lo2 ≤ lo) (hst : st0 = As.reverse ++ st) (hk : As.length = k) (hcat : (st.map fun v => v.category).sum ≤ 8) (hcs : cs ≤ (kR K).cells ∧ sl ≤ (kR K).slots) (d : decode cc pc = .ok (.invokestatic idx, 3)) (hn : pc + 3 = n) (kk : G K X cs sl n S' lv st) : G K X cs sl pc S lv st0 := by
  subst hn
  intro H locs ls hX hS hls
  refine va_callv (va_runS (As := As) (rest := st) ⟨F.1, F.2.1, F.2.2.1, F.2.2.2.1, F.2.2.2.2.1⟩ hM (cw_S F wy hl ⟨rfl, rfl, rfl, rfl⟩ hR) ⟨cPre_blind hok, fun U hU hW => ⟨rfl, cPre_at F hok hX hS U hU hW⟩⟩ rfl hk hls.1 hst (lv_room hcat) d hcs) hS (fun _ _ h => h) (fun _ h => h) (fun u t H1 locs1 ht hvm hw hB hz1 hk1 hS1 => ?_)
  subst hw
  have hB : X u t.heap := hB
  rw [ht] at hB
  exact kk H1 locs1 ls hB hS1 hls
theorem g_cSq (n : Nat) {r : Option Nat} (F : Fx K cc own Kf fr lo) (hok : KfOk (kA K) Kf) (hM : Cq (kl K) y cc2 maxL ret fr2 lo2 X Kf (kA K) S As r S') (wy : Ws y cc2 maxL ret k) (hl : Cond.methodLink own idx y ∈ wT) (hR : fr2 + 1 ≤ fr ∧ 8 + (maxL + 11) + lo2 ≤ lo) (hst : st0 = As.reverse ++ st) (hk : As.length = k) (hcat : (st.map fun v => v.category).sum ≤ 8) (hcs : cs ≤ (kR K).cells ∧ sl ≤ (kR K).slots) (d : decode cc pc = .ok (.invokestatic idx, 3)) (hn : pc + 3 = n) (kk : G K X cs sl n S' lv (va_rf r :: st)) : G K X cs sl pc S lv st0 := by
  subst hn
  intro H locs ls hX hS hls
  refine va_callq (va_runS (As := As) (rest := st) ⟨F.1, F.2.1, F.2.2.1, F.2.2.2.1, F.2.2.2.2.1⟩ hM (cw_S F wy hl ⟨rfl, rfl, rfl, rfl⟩ hR) ⟨cPre_blind hok, fun U hU hW => ⟨rfl, cPre_at F hok hX hS U hU hW⟩⟩ rfl hk hls.1 hst (lv_room hcat) d hcs) hS (fun _ _ h => h) (fun _ h => h) (fun r' u t H1 locs1 ht hvm hw hB hz1 hk1 hS1 => ?_)
  obtain ⟨rfl, rfl⟩ := hw
  have hB : X u t.heap := hB
  rw [ht] at hB
  exact kk H1 locs1 ls hB hS1 hls
theorem g_cVNi (n : Nat) {r : Int32} (F : Fx K cc own Kf fr lo) (hok : KfOk (kA K) Kf) (hM : Ci (kl K) y cc2 maxL ret fr2 lo2 X Kf (kA K) S (.ref b :: As) r S') (wy : Wy y cc2 maxL ret C k) (hl : va_Nw (.methodLinkNest own idx y host) (ks K)) (hrc : Rcv K X S b C) (hR : fr2 + 1 ≤ fr ∧ 8 + (maxL + 11) + lo2 ≤ lo) (hst : st0 = As.reverse ++ .ref b :: st) (hk : As.length = k) (hcat : (st.map fun v => v.category).sum ≤ 8) (hcs : cs ≤ (kR K).cells ∧ sl ≤ (kR K).slots) (d : decode cc pc = .ok (.invokevirtual idx, 3)) (hn : pc + 3 = n) (kk : G K X cs sl n S' lv (.int r :: st)) : G K X cs sl pc S lv st0 := by
  subst hn
  intro H locs ls hX hS hls
  refine va_calli (va_runVN (As := As) (rest := st) ⟨F.1, F.2.1, F.2.2.1, F.2.2.2.1, F.2.2.2.2.1⟩ hM (cw_VN F wy hl ⟨rfl, rfl, rfl, rfl⟩ hR) ⟨cPre_blind hok, hrc H locs hX hS, fun U hU hW => ⟨rfl, cPre_at F hok hX hS U hU hW⟩⟩ rfl hk hls.1 hst (lv_room hcat) d hcs) hS (fun _ _ h => h) (fun _ h => h) (fun r' u t H1 locs1 ht hvm hw hB hz1 hk1 hS1 => ?_)
  obtain ⟨rfl, rfl⟩ := hw
  have hB : X u t.heap := hB
  rw [ht] at hB
  exact kk H1 locs1 ls hB hS1 hls
theorem g_cVNv (n : Nat) (F : Fx K cc own Kf fr lo) (hok : KfOk (kA K) Kf) (hM : Cv (kl K) y cc2 maxL ret fr2 lo2 X Kf (kA K) S (.ref b :: As) S') (wy : Wy y cc2 maxL ret C k) (hl : va_Nw (.methodLinkNest own idx y host) (ks K)) (hrc : Rcv K X S b C) (hR : fr2 + 1 ≤ fr ∧ 8 + (maxL + 11) + lo2 ≤ lo) (hst : st0 = As.reverse ++ .ref b :: st) (hk : As.length = k) (hcat : (st.map fun v => v.category).sum ≤ 8) (hcs : cs ≤ (kR K).cells ∧ sl ≤ (kR K).slots) (d : decode cc pc = .ok (.invokevirtual idx, 3)) (hn : pc + 3 = n) (kk : G K X cs sl n S' lv st) : G K X cs sl pc S lv st0 := by
  subst hn
  intro H locs ls hX hS hls
  refine va_callv (va_runVN (As := As) (rest := st) ⟨F.1, F.2.1, F.2.2.1, F.2.2.2.1, F.2.2.2.2.1⟩ hM (cw_VN F wy hl ⟨rfl, rfl, rfl, rfl⟩ hR) ⟨cPre_blind hok, hrc H locs hX hS, fun U hU hW => ⟨rfl, cPre_at F hok hX hS U hU hW⟩⟩ rfl hk hls.1 hst (lv_room hcat) d hcs) hS (fun _ _ h => h) (fun _ h => h) (fun u t H1 locs1 ht hvm hw hB hz1 hk1 hS1 => ?_)
  subst hw
  have hB : X u t.heap := hB
  rw [ht] at hB
  exact kk H1 locs1 ls hB hS1 hls
theorem g_cVNq (n : Nat) {r : Option Nat} (F : Fx K cc own Kf fr lo) (hok : KfOk (kA K) Kf) (hM : Cq (kl K) y cc2 maxL ret fr2 lo2 X Kf (kA K) S (.ref b :: As) r S') (wy : Wy y cc2 maxL ret C k) (hl : va_Nw (.methodLinkNest own idx y host) (ks K)) (hrc : Rcv K X S b C) (hR : fr2 + 1 ≤ fr ∧ 8 + (maxL + 11) + lo2 ≤ lo) (hst : st0 = As.reverse ++ .ref b :: st) (hk : As.length = k) (hcat : (st.map fun v => v.category).sum ≤ 8) (hcs : cs ≤ (kR K).cells ∧ sl ≤ (kR K).slots) (d : decode cc pc = .ok (.invokevirtual idx, 3)) (hn : pc + 3 = n) (kk : G K X cs sl n S' lv (va_rf r :: st)) : G K X cs sl pc S lv st0 := by
  subst hn
  intro H locs ls hX hS hls
  refine va_callq (va_runVN (As := As) (rest := st) ⟨F.1, F.2.1, F.2.2.1, F.2.2.2.1, F.2.2.2.2.1⟩ hM (cw_VN F wy hl ⟨rfl, rfl, rfl, rfl⟩ hR) ⟨cPre_blind hok, hrc H locs hX hS, fun U hU hW => ⟨rfl, cPre_at F hok hX hS U hU hW⟩⟩ rfl hk hls.1 hst (lv_room hcat) d hcs) hS (fun _ _ h => h) (fun _ h => h) (fun r' u t H1 locs1 ht hvm hw hB hz1 hk1 hS1 => ?_)
  obtain ⟨rfl, rfl⟩ := hw
  have hB : X u t.heap := hB
  rw [ht] at hB
  exact kk H1 locs1 ls hB hS1 hls
theorem g_cSNi (n : Nat) {r : Int32} (F : Fx K cc own Kf fr lo) (hok : KfOk (kA K) Kf) (hM : Ci (kl K) y cc2 maxL ret fr2 lo2 X Kf (kA K) S As r S') (wy : Ws y cc2 maxL ret k) (hl : va_Nw (.methodLinkNest own idx y host) (ks K)) (hR : fr2 + 1 ≤ fr ∧ 8 + (maxL + 11) + lo2 ≤ lo) (hst : st0 = As.reverse ++ st) (hk : As.length = k) (hcat : (st.map fun v => v.category).sum ≤ 8) (hcs : cs ≤ (kR K).cells ∧ sl ≤ (kR K).slots) (d : decode cc pc = .ok (.invokestatic idx, 3)) (hn : pc + 3 = n) (kk : G K X cs sl n S' lv (.int r :: st)) : G K X cs sl pc S lv st0 := by
  subst hn
  intro H locs ls hX hS hls
  refine va_calli (va_runSN (As := As) (rest := st) ⟨F.1, F.2.1, F.2.2.1, F.2.2.2.1, F.2.2.2.2.1⟩ hM (cw_SN F wy hl ⟨rfl, rfl, rfl, rfl⟩ hR) ⟨cPre_blind hok, fun U hU hW => ⟨rfl, cPre_at F hok hX hS U hU hW⟩⟩ rfl hk hls.1 hst (lv_room hcat) d hcs) hS (fun _ _ h => h) (fun _ h => h) (fun r' u t H1 locs1 ht hvm hw hB hz1 hk1 hS1 => ?_)
  obtain ⟨rfl, rfl⟩ := hw
  have hB : X u t.heap := hB
  rw [ht] at hB
  exact kk H1 locs1 ls hB hS1 hls
theorem g_cSNl (n : Nat) {r : Int64} (F : Fx K cc own Kf fr lo) (hok : KfOk (kA K) Kf) (hM : Cl (kl K) y cc2 maxL ret fr2 lo2 X Kf (kA K) S As r S') (wy : Ws y cc2 maxL ret k) (hl : va_Nw (.methodLinkNest own idx y host) (ks K)) (hR : fr2 + 1 ≤ fr ∧ 8 + (maxL + 11) + lo2 ≤ lo) (hst : st0 = As.reverse ++ st) (hk : As.length = k) (hcat : (st.map fun v => v.category).sum ≤ 8) (hcs : cs ≤ (kR K).cells ∧ sl ≤ (kR K).slots) (d : decode cc pc = .ok (.invokestatic idx, 3)) (hn : pc + 3 = n) (kk : G K X cs sl n S' lv (.long r :: st)) : G K X cs sl pc S lv st0 := by
  subst hn
  intro H locs ls hX hS hls
  refine va_calll (va_runSN (As := As) (rest := st) ⟨F.1, F.2.1, F.2.2.1, F.2.2.2.1, F.2.2.2.2.1⟩ hM (cw_SN F wy hl ⟨rfl, rfl, rfl, rfl⟩ hR) ⟨cPre_blind hok, fun U hU hW => ⟨rfl, cPre_at F hok hX hS U hU hW⟩⟩ rfl hk hls.1 hst (lv_room hcat) d hcs) hS (fun _ _ h => h) (fun _ h => h) (fun r' u t H1 locs1 ht hvm hw hB hz1 hk1 hS1 => ?_)
  obtain ⟨rfl, rfl⟩ := hw
  have hB : X u t.heap := hB
  rw [ht] at hB
  exact kk H1 locs1 ls hB hS1 hls
theorem g_cSNv (n : Nat) (F : Fx K cc own Kf fr lo) (hok : KfOk (kA K) Kf) (hM : Cv (kl K) y cc2 maxL ret fr2 lo2 X Kf (kA K) S As S') (wy : Ws y cc2 maxL ret k) (hl : va_Nw (.methodLinkNest own idx y host) (ks K)) (hR : fr2 + 1 ≤ fr ∧ 8 + (maxL + 11) + lo2 ≤ lo) (hst : st0 = As.reverse ++ st) (hk : As.length = k) (hcat : (st.map fun v => v.category).sum ≤ 8) (hcs : cs ≤ (kR K).cells ∧ sl ≤ (kR K).slots) (d : decode cc pc = .ok (.invokestatic idx, 3)) (hn : pc + 3 = n) (kk : G K X cs sl n S' lv st) : G K X cs sl pc S lv st0 := by
  subst hn
  intro H locs ls hX hS hls
  refine va_callv (va_runSN (As := As) (rest := st) ⟨F.1, F.2.1, F.2.2.1, F.2.2.2.1, F.2.2.2.2.1⟩ hM (cw_SN F wy hl ⟨rfl, rfl, rfl, rfl⟩ hR) ⟨cPre_blind hok, fun U hU hW => ⟨rfl, cPre_at F hok hX hS U hU hW⟩⟩ rfl hk hls.1 hst (lv_room hcat) d hcs) hS (fun _ _ h => h) (fun _ h => h) (fun u t H1 locs1 ht hvm hw hB hz1 hk1 hS1 => ?_)
  subst hw
  have hB : X u t.heap := hB
  rw [ht] at hB
  exact kk H1 locs1 ls hB hS1 hls
theorem g_cSNq (n : Nat) {r : Option Nat} (F : Fx K cc own Kf fr lo) (hok : KfOk (kA K) Kf) (hM : Cq (kl K) y cc2 maxL ret fr2 lo2 X Kf (kA K) S As r S') (wy : Ws y cc2 maxL ret k) (hl : va_Nw (.methodLinkNest own idx y host) (ks K)) (hR : fr2 + 1 ≤ fr ∧ 8 + (maxL + 11) + lo2 ≤ lo) (hst : st0 = As.reverse ++ st) (hk : As.length = k) (hcat : (st.map fun v => v.category).sum ≤ 8) (hcs : cs ≤ (kR K).cells ∧ sl ≤ (kR K).slots) (d : decode cc pc = .ok (.invokestatic idx, 3)) (hn : pc + 3 = n) (kk : G K X cs sl n S' lv (va_rf r :: st)) : G K X cs sl pc S lv st0 := by
  subst hn
  intro H locs ls hX hS hls
  refine va_callq (va_runSN (As := As) (rest := st) ⟨F.1, F.2.1, F.2.2.1, F.2.2.2.1, F.2.2.2.2.1⟩ hM (cw_SN F wy hl ⟨rfl, rfl, rfl, rfl⟩ hR) ⟨cPre_blind hok, fun U hU hW => ⟨rfl, cPre_at F hok hX hS U hU hW⟩⟩ rfl hk hls.1 hst (lv_room hcat) d hcs) hS (fun _ _ h => h) (fun _ h => h) (fun r' u t H1 locs1 ht hvm hw hB hz1 hk1 hS1 => ?_)
  obtain ⟨rfl, rfl⟩ := hw
  have hB : X u t.heap := hB
  rw [ht] at hB
  exact kk H1 locs1 ls hB hS1 hls
end Calls
section Mets
variable {σ : Type} {l : Launch} {y : MethodName} {cc : ByteArray} {maxL fr lo : Nat} {X : σ → Heap → Prop} {Kf : State → Prop} {A : Nat → Prop} {S S' : σ} {av : List Value}
theorem met_entry {ret : Option FieldType} {rm : Room} {Qc : Array Value → State → Outcome → State → Prop} {mc ms : Nat} (hy : plainName y.cls = true) (hlen : (lg_sl av).length ≤ maxL) (hrm : rm.frames = fr ∧ rm.locals = lo)
    (walk : ∀ (K : Ctx), kl K = l → kA K = A → kn K = maxL → kR K = rm → Fx K cc y.cls Kf fr lo → (kh K).sig.returnType = ret → (kh K).locks = false → kQ K = MQ (kb K) Qc (ka K) (ks K) mc ms A → (kh K).name = y.name → G K X 0 0 0 S (lv_args 0 av) []) :
    Met l y (.code y cc maxL ret :: wT) rm (va_Pc av (cPre X Kf A S)) Qc mc ms A := by
  refine Met.ofW (cc := cc) (maxL := maxL) (ret := ret) hy rfl ?_
  intro p e s m args below meth c s₁ B hml hv
  obtain ⟨rfl, hX, hKf, hA⟩ := hv
  have hts := atoms_spec (ws := .code y cc maxL ret :: wT) B.pre
  rw [lg_entry_eq]
  exact walk (p, l, e, rm, s, m, av.toArray, below, meth, c, A, maxL, MQ below Qc av.toArray s mc ms A) rfl rfl rfl rfl
    ⟨B.exec, B.bytes, hml, findClass_of_methodNamed B.named, fun w hw => hts w (List.mem_cons_of_mem _ hw), hKf, hA, by rw [← hrm.1]; exact Nat.le_refl _, by rw [← hrm.2]; exact Nat.le_refl _⟩ B.returns B.notSynchronized rfl (name_of_methodNamed B.named B.method).1
    s.heap [] _ hX va_S.rf (lv_entry av hlen)

theorem met_i {r : Int32} (hy : plainName y.cls = true) (hlen : (lg_sl av).length ≤ maxL) (walk : ∀ (K : Ctx), kl K = l → kA K = A → kn K = maxL → Fx K cc y.cls Kf fr lo → (∀ (pc : Nat) (lv : List (Nat × Value)), decode cc pc = .ok (.ireturn, 1) → G K X 0 0 pc S' lv [.int r]) → G K X 0 0 0 S (lv_args 0 av) []) : Ci l y cc maxL (some .int) fr lo X Kf A S av r S' := by
  refine met_entry (fr := fr) (lo := lo) hy hlen ⟨rfl, rfl⟩ (fun K hl hA hn hR F hr hlk hQ _ => walk K hl hA hn F ?_)
  intro pc lv d H locs ls hX hS hls
  subst hA
  rw [hQ]
  exact W.iret F.1 F.2.1 hr (fun t ht hW => ⟨⟨r, S', rfl, ⟨rfl, rfl⟩, by show X S' t.heap; rw [ht]; exact hX⟩, hS.F ht⟩) hS.2.2 d hlk
theorem met_z {r : Bool} (hy : plainName y.cls = true) (hlen : (lg_sl av).length ≤ maxL) (walk : ∀ (K : Ctx), kl K = l → kA K = A → kn K = maxL → Fx K cc y.cls Kf fr lo → (∀ (pc : Nat) (lv : List (Nat × Value)), decode cc pc = .ok (.ireturn, 1) → G K X 0 0 pc S' lv [.int (bI r)]) → G K X 0 0 0 S (lv_args 0 av) []) : Ci l y cc maxL (some .boolean) fr lo X Kf A S av (bI r) S' := by
  refine met_entry (fr := fr) (lo := lo) hy hlen ⟨rfl, rfl⟩ (fun K hl hA hn hR F hr hlk hQ _ => walk K hl hA hn F ?_)
  intro pc lv d H locs ls hX hS hls
  subst hA
  rw [hQ]
  exact W.zret F.1 F.2.1 hr (bI_narrow r) (fun t ht hW => ⟨⟨bI r, S', rfl, ⟨rfl, rfl⟩, by show X S' t.heap; rw [ht]; exact hX⟩, hS.F ht⟩) hS.2.2 d hlk
theorem met_l {r : Int64} (hy : plainName y.cls = true) (hlen : (lg_sl av).length ≤ maxL) (walk : ∀ (K : Ctx), kl K = l → kA K = A → kn K = maxL → Fx K cc y.cls Kf fr lo → (∀ (pc : Nat) (lv : List (Nat × Value)), decode cc pc = .ok (.lreturn, 1) → G K X 0 0 pc S' lv [.long r]) → G K X 0 0 0 S (lv_args 0 av) []) : Cl l y cc maxL (some .long) fr lo X Kf A S av r S' := by
  refine met_entry (fr := fr) (lo := lo) hy hlen ⟨rfl, rfl⟩ (fun K hl hA hn hR F hr hlk hQ _ => walk K hl hA hn F ?_)
  intro pc lv d H locs ls hX hS hls
  subst hA
  rw [hQ]
  exact W.lret F.1 F.2.1 hr (fun t ht hW => ⟨⟨r, S', rfl, ⟨rfl, rfl⟩, by show X S' t.heap; rw [ht]; exact hX⟩, hS.F ht⟩) hS.2.2 d hlk
theorem met_v (hy : plainName y.cls = true) (hlen : (lg_sl av).length ≤ maxL) (walk : ∀ (K : Ctx), kl K = l → kA K = A → kn K = maxL → Fx K cc y.cls Kf fr lo → (∀ (pc : Nat) (lv : List (Nat × Value)), decode cc pc = .ok (.return_, 1) → G K X 0 0 pc S' lv []) → G K X 0 0 0 S (lv_args 0 av) []) : Cv l y cc maxL none fr lo X Kf A S av S' := by
  refine met_entry (fr := fr) (lo := lo) hy hlen ⟨rfl, rfl⟩ (fun K hl hA hn hR F hr hlk hQ _ => walk K hl hA hn F ?_)
  intro pc lv d H locs ls hX hS hls
  subst hA
  rw [hQ]
  exact W.vret F.1 F.2.1 hr (fun t ht hW => ⟨⟨S', rfl, rfl, by show X S' t.heap; rw [ht]; exact hX⟩, hS.F ht⟩) hS.2.2 d hlk
theorem met_q {r : Option Nat} {rt : FieldType} (hrt : (∃ n, rt = .object n) ∨ ∃ t, rt = .array t) (hy : plainName y.cls = true) (hlen : (lg_sl av).length ≤ maxL) (walk : ∀ (K : Ctx), kl K = l → kA K = A → kn K = maxL → Fx K cc y.cls Kf fr lo → (∀ (pc : Nat) (lv : List (Nat × Value)), decode cc pc = .ok (.areturn, 1) → G K X 0 0 pc S' lv [va_rf r]) → G K X 0 0 0 S (lv_args 0 av) []) : Cq l y cc maxL (some rt) fr lo X Kf A S av r S' := by
  refine met_entry (fr := fr) (lo := lo) hy hlen ⟨rfl, rfl⟩ (fun K hl hA hn hR F hr hlk hQ _ => walk K hl hA hn F ?_)
  intro pc lv d H locs ls hX hS hls
  subst hA
  rw [hQ]
  exact W.aret F.1 F.2.1 hr hrt (by cases r with | none => exact Or.inl rfl | some a => exact Or.inr ⟨a, rfl⟩) (fun t ht hW => ⟨⟨r, S', rfl, ⟨rfl, rfl⟩, by show X S' t.heap; rw [ht]; exact hX⟩, hS.F ht⟩) hS.2.2 d hlk
end Mets
