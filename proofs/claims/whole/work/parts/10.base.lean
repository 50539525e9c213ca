/-! The words that every contract takes: those of lw_tbl that stay. -/
def wT : List Cond := lw_tbl.filter goodWord
theorem wT_in {w : Cond} (h : w ∈ wT) : w ∈ lw_tbl := (List.mem_filter.mp h).1
theorem wT_good {w : Cond} (h : w ∈ wT) : (w.onTables && w.keeps) = true ∨ ∃ ty, w = .arrayClass ty := good_of_word (List.mem_filter.mp h).2
theorem wT_goodIn {c : Cond} (h : c ∈ wT) : GoodIn wT (c :: wT) := fun w hw => by
  rcases List.mem_cons.mp hw with e | hw
  · rw [e]; exact ⟨h, wT_good h⟩
  · exact ⟨hw, wT_good hw⟩
theorem wT_0 {w : Cond} (h : w ∈ k2_sels lw_privs) (g : goodWord w = true) : w ∈ wT := List.mem_filter.mpr ⟨List.mem_append_left _ h, g⟩
theorem wT_1 {w : Cond} (h : w ∈ tables_1_1) (g : goodWord w = true) : w ∈ wT := List.mem_filter.mpr ⟨List.mem_append_right _ (List.mem_append_left _ h), g⟩
theorem wT_2 {w : Cond} (h : w ∈ tables_1_2) (g : goodWord w = true) : w ∈ wT := List.mem_filter.mpr ⟨List.mem_append_right _ (List.mem_append_right _ (List.mem_append_left _ h)), g⟩
theorem wT_3 {w : Cond} (h : w ∈ tables_1_3) (g : goodWord w = true) : w ∈ wT := List.mem_filter.mpr ⟨List.mem_append_right _ (List.mem_append_right _ (List.mem_append_right _ (List.mem_append_left _ h))), g⟩
theorem wT_4 {w : Cond} (h : w ∈ tables_1_4) (g : goodWord w = true) : w ∈ wT := List.mem_filter.mpr ⟨List.mem_append_right _ (List.mem_append_right _ (List.mem_append_right _ (List.mem_append_right _ (List.mem_append_left _ h)))), g⟩
theorem wT_5 {w : Cond} (h : w ∈ tables_1_5) (g : goodWord w = true) : w ∈ wT := List.mem_filter.mpr ⟨List.mem_append_right _ (List.mem_append_right _ (List.mem_append_right _ (List.mem_append_right _ (List.mem_append_right _ h)))), g⟩
/-! The judgement G: from a place of a method's code, with a state S of the side's world, the locals lv and the stack st. -/
abbrev Ctx : Type := Program × Launch × Env × Room × State × MethodId × Array Value × List Frame × Method × Code × (Nat → Prop) × Nat × (State → Prop)
abbrev kp (K : Ctx) : Program := K.1
abbrev kl (K : Ctx) : Launch := K.2.1
abbrev ke (K : Ctx) : Env := K.2.2.1
abbrev kR (K : Ctx) : Room := K.2.2.2.1
abbrev ks (K : Ctx) : State := K.2.2.2.2.1
abbrev km (K : Ctx) : MethodId := K.2.2.2.2.2.1
abbrev ka (K : Ctx) : Array Value := K.2.2.2.2.2.2.1
abbrev kb (K : Ctx) : List Frame := K.2.2.2.2.2.2.2.1
abbrev kh (K : Ctx) : Method := K.2.2.2.2.2.2.2.2.1
abbrev kc (K : Ctx) : Code := K.2.2.2.2.2.2.2.2.2.1
abbrev kA (K : Ctx) : Nat → Prop := K.2.2.2.2.2.2.2.2.2.2.1
abbrev kn (K : Ctx) : Nat := K.2.2.2.2.2.2.2.2.2.2.2.1
abbrev kQ (K : Ctx) : State → Prop := K.2.2.2.2.2.2.2.2.2.2.2.2
def G {σ : Type} (K : Ctx) (X : σ → Heap → Prop) (cs sl pc : Nat) (S : σ) (lv : List (Nat × Value)) (st : List Value) : Prop :=
  ∀ (H : Heap) (locs : List Loc) (ls : Array Slot), X S H → va_S (kA K) (ks K).heap H locs → lv_has ls (kn K) lv → W (kp K) (kl K) (ke K) (kR K) (ks K) (km K) (ka K) (kb K) (kh K) (kc K) H locs cs sl (kQ K) (F0 (km K) pc ls st)
def Fx (K : Ctx) (cc : ByteArray) (own : String) (Kf : State → Prop) (fr lo : Nat) : Prop :=
  (kp K).tables.exec = Jvm.exec ∧ (kc K).code = cc ∧ (kc K).maxLocals = kn K ∧ (ks K).vm.findClass own = some (km K).cls ∧ (∀ w ∈ wT, w.before (ka K) (ks K) = true) ∧ Kf (ks K) ∧ (∀ q, (ks K).heap.size ≤ q → kA K q) ∧ fr ≤ (kR K).frames ∧ lo ≤ (kR K).locals
/-- what a side's facts of the tables and constants must bear: a call's frame, and what a walk has done -/
def KfOk (A : Nat → Prop) (Kf : State → Prop) : Prop := (∀ (U : State) (g : JFrame) (mk : MethodId) (a : Array Value), Kf U → Kf (U.calling g mk a)) ∧ ∀ (s U : State) (locs : List Loc), Kf s → s.WarmedH U.vm → va_S A s.heap U.heap locs → Kf U
def bI : Bool → Int32
  | true => 1
  | false => 0
theorem bI_narrow (b : Bool) : narrow .boolean (.int (bI b)) = .int (bI b) := by cases b <;> decide +kernel
theorem bI_fits (b : Bool) : fits .boolean (.int (bI b)) = true := by cases b <;> decide +kernel
theorem bI_0 {b : Bool} : bI b = 0 ↔ b = false := by cases b <;> decide
abbrev ok (i : Int32) (n : Nat) : Prop := ¬ (i < 0 ∨ n ≤ i.toNatClampNeg)
section Rows
variable {σ : Type} {K : Ctx} {X : σ → Heap → Prop} {cs sl pc : Nat} {S : σ} {lv : List (Nat × Value)} {st : List Value} {cc : ByteArray} {own : String} {Kf : State → Prop} {fr lo : Nat} {α : Type} {a b q : α}
theorem G.lvs {lv' : List (Nat × Value)} (is : List Nat) (h : lv_pick lv is = lv') (k : G K X cs sl pc S lv' st) : G K X cs sl pc S lv st := fun H locs ls hX hS hl => k H locs ls hX hS (lv_sub hl is h)
theorem g_iconst (n : Nat) {k : Int} {v : Int32} (F : Fx K cc own Kf fr lo) (d : decode cc pc = .ok (.iconst k, 1)) (hv : Int32.ofInt k = v) (hn : pc + 1 = n) (kk : G K X cs sl n S lv (.int v :: st)) : G K X cs sl pc S lv st := by
  subst hn; exact fun H locs ls hX hS hl => lv_iconst F.1 F.2.1 d hv (kk H locs ls hX hS hl)
theorem g_bipush (n : Nat) {k : Int} {v : Int32} (F : Fx K cc own Kf fr lo) (d : decode cc pc = .ok (.bipush k, 2)) (hv : (Int8.ofInt k).toInt32 = v) (hn : pc + 2 = n) (kk : G K X cs sl n S lv (.int v :: st)) : G K X cs sl pc S lv st := by
  subst hn; exact fun H locs ls hX hS hl => lv_bipush F.1 F.2.1 d hv (kk H locs ls hX hS hl)
theorem g_sipush (n : Nat) {k : Int} {v : Int32} (F : Fx K cc own Kf fr lo) (d : decode cc pc = .ok (.sipush k, 3)) (hv : (Int16.ofInt k).toInt32 = v) (hn : pc + 3 = n) (kk : G K X cs sl n S lv (.int v :: st)) : G K X cs sl pc S lv st := by
  subst hn; exact fun H locs ls hX hS hl => lv_sipush F.1 F.2.1 d hv (kk H locs ls hX hS hl)
theorem g_lconst (n : Nat) {k : Fin 2} {v : Int64} (F : Fx K cc own Kf fr lo) (d : decode cc pc = .ok (.lconst k, 1)) (hv : Int64.ofNat (k : Nat) = v) (hn : pc + 1 = n) (kk : G K X cs sl n S lv (.long v :: st)) : G K X cs sl pc S lv st := by
  subst hn; exact fun H locs ls hX hS hl => lv_lconst F.1 F.2.1 d hv (kk H locs ls hX hS hl)
theorem g_ldc (n : Nat) {idx : Nat} {v : Int32} (F : Fx K cc own Kf fr lo) (hw : Cond.constant own idx v ∈ wT) (d : decode cc pc = .ok (.ldc idx, 2)) (hn : pc + 2 = n) (kk : G K X cs sl n S lv (.int v :: st)) : G K X cs sl pc S lv st := by
  subst hn; exact fun H locs ls hX hS hl => lv_ldc F.1 F.2.1 F.2.2.2.1 (F.2.2.2.2.1 _ hw) d (kk H locs ls hX hS hl)
theorem g_ldcw (n : Nat) {idx : Nat} {v : Int32} (F : Fx K cc own Kf fr lo) (hw : Cond.constant own idx v ∈ wT) (d : decode cc pc = .ok (.ldc_w idx, 3)) (hn : pc + 3 = n) (kk : G K X cs sl n S lv (.int v :: st)) : G K X cs sl pc S lv st := by
  subst hn; exact fun H locs ls hX hS hl => lv_ldcw F.1 F.2.1 F.2.2.2.1 (F.2.2.2.2.1 _ hw) d (kk H locs ls hX hS hl)
theorem g_ldc2 (n : Nat) {idx : Nat} {v : Int64} (F : Fx K cc own Kf fr lo) (hw : Cond.constantLong own idx v ∈ wT) (d : decode cc pc = .ok (.ldc2_w idx, 3)) (hn : pc + 3 = n) (kk : G K X cs sl n S lv (.long v :: st)) : G K X cs sl pc S lv st := by
  subst hn; exact fun H locs ls hX hS hl => lv_ldc2 F.1 F.2.1 F.2.2.2.1 (F.2.2.2.2.1 _ hw) d (kk H locs ls hX hS hl)
theorem g_iload_n (n : Nat) {j : Fin 4} {x : Int32} (k : Nat) (F : Fx K cc own Kf fr lo) (d : decode cc pc = .ok (.iload_n j, 1)) (hk : lv[k]? = some ((j : Nat), .int x)) (hn : pc + 1 = n) (kk : G K X cs sl n S lv (.int x :: st)) : G K X cs sl pc S lv st := by
  subst hn; exact fun H locs ls hX hS hl => lv_iload_n F.1 F.2.1 d rfl (lv_at hl k hk) (kk H locs ls hX hS hl)
theorem g_iload (n : Nat) {j : Nat} {x : Int32} (k : Nat) (F : Fx K cc own Kf fr lo) (d : decode cc pc = .ok (.iload j, 2)) (hk : lv[k]? = some (j, .int x)) (hn : pc + 2 = n) (kk : G K X cs sl n S lv (.int x :: st)) : G K X cs sl pc S lv st := by
  subst hn; exact fun H locs ls hX hS hl => lv_iload F.1 F.2.1 d (lv_at hl k hk) (kk H locs ls hX hS hl)
theorem g_lload_n (n : Nat) {j : Fin 4} {x : Int64} (k : Nat) (F : Fx K cc own Kf fr lo) (d : decode cc pc = .ok (.lload_n j, 1)) (hk : lv[k]? = some ((j : Nat), .long x)) (hn : pc + 1 = n) (kk : G K X cs sl n S lv (.long x :: st)) : G K X cs sl pc S lv st := by
  subst hn; exact fun H locs ls hX hS hl => lv_lload_n F.1 F.2.1 d rfl (lv_at hl k hk) (kk H locs ls hX hS hl)
theorem g_lload (n : Nat) {j : Nat} {x : Int64} (k : Nat) (F : Fx K cc own Kf fr lo) (d : decode cc pc = .ok (.lload j, 2)) (hk : lv[k]? = some (j, .long x)) (hn : pc + 2 = n) (kk : G K X cs sl n S lv (.long x :: st)) : G K X cs sl pc S lv st := by
  subst hn; exact fun H locs ls hX hS hl => lv_lload F.1 F.2.1 d (lv_at hl k hk) (kk H locs ls hX hS hl)
theorem g_aload_n (n : Nat) {j : Fin 4} {x : Nat} (k : Nat) (F : Fx K cc own Kf fr lo) (d : decode cc pc = .ok (.aload_n j, 1)) (hk : lv[k]? = some ((j : Nat), .ref x)) (hn : pc + 1 = n) (kk : G K X cs sl n S lv (.ref x :: st)) : G K X cs sl pc S lv st := by
  subst hn; exact fun H locs ls hX hS hl => lv_aload_n F.1 F.2.1 d rfl (lv_at hl k hk) (kk H locs ls hX hS hl)
theorem g_aload (n : Nat) {j : Nat} {x : Nat} (k : Nat) (F : Fx K cc own Kf fr lo) (d : decode cc pc = .ok (.aload j, 2)) (hk : lv[k]? = some (j, .ref x)) (hn : pc + 2 = n) (kk : G K X cs sl n S lv (.ref x :: st)) : G K X cs sl pc S lv st := by
  subst hn; exact fun H locs ls hX hS hl => lv_aload F.1 F.2.1 d (lv_at hl k hk) (kk H locs ls hX hS hl)
theorem g_aload_nN (n : Nat) {j : Fin 4} (k : Nat) (F : Fx K cc own Kf fr lo) (d : decode cc pc = .ok (.aload_n j, 1)) (hk : lv[k]? = some ((j : Nat), .null)) (hn : pc + 1 = n) (kk : G K X cs sl n S lv (.null :: st)) : G K X cs sl pc S lv st := by
  subst hn; exact fun H locs ls hX hS hl => lv_aload_nN F.1 F.2.1 d rfl (lv_at hl k hk) (kk H locs ls hX hS hl)
theorem g_aloadN (n : Nat) {j : Nat} (k : Nat) (F : Fx K cc own Kf fr lo) (d : decode cc pc = .ok (.aload j, 2)) (hk : lv[k]? = some (j, .null)) (hn : pc + 2 = n) (kk : G K X cs sl n S lv (.null :: st)) : G K X cs sl pc S lv st := by
  subst hn; exact fun H locs ls hX hS hl => lv_aloadN F.1 F.2.1 d (lv_at hl k hk) (kk H locs ls hX hS hl)
theorem g_istore_n (n : Nat) {j : Fin 4} {x : Int32} (lv' : List (Nat × Value)) (F : Fx K cc own Kf fr lo) (d : decode cc pc = .ok (.istore_n j, 1)) (hj : (j : Nat) < kn K) (hl : ((j : Nat), Value.int x) :: lv.filter (fun q => !(q.1 == (j : Nat)) && !(q.1 + 1 == (j : Nat) && q.2.category == 2)) = lv') (hn : pc + 1 = n) (kk : G K X cs sl n S lv' st) : G K X cs sl pc S lv (.int x :: st) := by
  subst hn; exact fun H locs ls hX hS h => lv_istore_n F.1 F.2.1 d rfl h hj hl (fun ls' h' => kk H locs ls' hX hS h')
theorem g_istore (n : Nat) {j : Nat} {x : Int32} (lv' : List (Nat × Value)) (F : Fx K cc own Kf fr lo) (d : decode cc pc = .ok (.istore j, 2)) (hj : j < kn K) (hl : (j, Value.int x) :: lv.filter (fun q => !(q.1 == j) && !(q.1 + 1 == j && q.2.category == 2)) = lv') (hn : pc + 2 = n) (kk : G K X cs sl n S lv' st) : G K X cs sl pc S lv (.int x :: st) := by
  subst hn; exact fun H locs ls hX hS h => lv_istore F.1 F.2.1 d h hj hl (fun ls' h' => kk H locs ls' hX hS h')
theorem g_lstore_n (n : Nat) {j : Fin 4} {x : Int64} (lv' : List (Nat × Value)) (F : Fx K cc own Kf fr lo) (d : decode cc pc = .ok (.lstore_n j, 1)) (hj : (j : Nat) + 1 < kn K) (hl : ((j : Nat), Value.long x) :: lv.filter (fun q => !(q.1 == (j : Nat)) && (!(q.1 == (j : Nat) + 1) && !(q.1 + 1 == (j : Nat) && q.2.category == 2))) = lv') (hn : pc + 1 = n) (kk : G K X cs sl n S lv' st) : G K X cs sl pc S lv (.long x :: st) := by
  subst hn; exact fun H locs ls hX hS h => lv_lstore_n F.1 F.2.1 d rfl h hj hl (fun ls' h' => kk H locs ls' hX hS h')
theorem g_lstore (n : Nat) {j : Nat} {x : Int64} (lv' : List (Nat × Value)) (F : Fx K cc own Kf fr lo) (d : decode cc pc = .ok (.lstore j, 2)) (hj : j + 1 < kn K) (hl : (j, Value.long x) :: lv.filter (fun q => !(q.1 == j) && (!(q.1 == j + 1) && !(q.1 + 1 == j && q.2.category == 2))) = lv') (hn : pc + 2 = n) (kk : G K X cs sl n S lv' st) : G K X cs sl pc S lv (.long x :: st) := by
  subst hn; exact fun H locs ls hX hS h => lv_lstore F.1 F.2.1 d h hj hl (fun ls' h' => kk H locs ls' hX hS h')
theorem g_astore_n (n : Nat) {j : Fin 4} {x : Nat} (lv' : List (Nat × Value)) (F : Fx K cc own Kf fr lo) (d : decode cc pc = .ok (.astore_n j, 1)) (hj : (j : Nat) < kn K) (hl : ((j : Nat), Value.ref x) :: lv.filter (fun q => !(q.1 == (j : Nat)) && !(q.1 + 1 == (j : Nat) && q.2.category == 2)) = lv') (hn : pc + 1 = n) (kk : G K X cs sl n S lv' st) : G K X cs sl pc S lv (.ref x :: st) := by
  subst hn; exact fun H locs ls hX hS h => lv_astore_n F.1 F.2.1 d rfl h hj hl (fun ls' h' => kk H locs ls' hX hS h')
theorem g_astore (n : Nat) {j : Nat} {x : Nat} (lv' : List (Nat × Value)) (F : Fx K cc own Kf fr lo) (d : decode cc pc = .ok (.astore j, 2)) (hj : j < kn K) (hl : (j, Value.ref x) :: lv.filter (fun q => !(q.1 == j) && !(q.1 + 1 == j && q.2.category == 2)) = lv') (hn : pc + 2 = n) (kk : G K X cs sl n S lv' st) : G K X cs sl pc S lv (.ref x :: st) := by
  subst hn; exact fun H locs ls hX hS h => lv_astore F.1 F.2.1 d h hj hl (fun ls' h' => kk H locs ls' hX hS h')
theorem g_astore_nN (n : Nat) {j : Fin 4} (lv' : List (Nat × Value)) (F : Fx K cc own Kf fr lo) (d : decode cc pc = .ok (.astore_n j, 1)) (hj : (j : Nat) < kn K) (hl : ((j : Nat), Value.null) :: lv.filter (fun q => !(q.1 == (j : Nat)) && !(q.1 + 1 == (j : Nat) && q.2.category == 2)) = lv') (hn : pc + 1 = n) (kk : G K X cs sl n S lv' st) : G K X cs sl pc S lv (.null :: st) := by
  subst hn; exact fun H locs ls hX hS h => lv_astore_nN F.1 F.2.1 d rfl h hj hl (fun ls' h' => kk H locs ls' hX hS h')
theorem g_astoreN (n : Nat) {j : Nat} (lv' : List (Nat × Value)) (F : Fx K cc own Kf fr lo) (d : decode cc pc = .ok (.astore j, 2)) (hj : j < kn K) (hl : (j, Value.null) :: lv.filter (fun q => !(q.1 == j) && !(q.1 + 1 == j && q.2.category == 2)) = lv') (hn : pc + 2 = n) (kk : G K X cs sl n S lv' st) : G K X cs sl pc S lv (.null :: st) := by
  subst hn; exact fun H locs ls hX hS h => lv_astoreN F.1 F.2.1 d h hj hl (fun ls' h' => kk H locs ls' hX hS h')
theorem g_iinc (n : Nat) {j : Nat} {i : Int} {x : Int32} (k : Nat) (v : Int32) (lv' : List (Nat × Value)) (F : Fx K cc own Kf fr lo) (d : decode cc pc = .ok (.iinc j i, 3)) (hk : lv[k]? = some (j, .int x)) (hv : x + Int32.ofInt i = v) (hj : j < kn K) (hl : (j, Value.int v) :: lv.filter (fun q => !(q.1 == j) && !(q.1 + 1 == j && q.2.category == 2)) = lv') (hn : pc + 3 = n) (kk : G K X cs sl n S lv' st) : G K X cs sl pc S lv st := by
  subst hn; exact fun H locs ls hX hS h => lv_iinc F.1 F.2.1 d h hk hv hj hl (fun ls' h' => kk H locs ls' hX hS h')
theorem g_dup (n : Nat) {v : Value} (F : Fx K cc own Kf fr lo) (d : decode cc pc = .ok (.dup, 1)) (hc : v.category = 1) (hn : pc + 1 = n) (kk : G K X cs sl n S lv (v :: v :: st)) : G K X cs sl pc S lv (v :: st) := by
  subst hn; exact fun H locs ls hX hS hl => lv_dup F.1 F.2.1 d hc (kk H locs ls hX hS hl)
theorem g_pop (n : Nat) {v : Value} (F : Fx K cc own Kf fr lo) (d : decode cc pc = .ok (.pop, 1)) (hc : v.category = 1) (hn : pc + 1 = n) (kk : G K X cs sl n S lv st) : G K X cs sl pc S lv (v :: st) := by
  subst hn; exact fun H locs ls hX hS hl => lv_pop F.1 F.2.1 d hc (kk H locs ls hX hS hl)
theorem g_goto (t : Nat) {off : Int} (F : Fx K cc own Kf fr lo) (d : decode cc pc = .ok (.goto off, 3)) (ht : (pc : Int) + off = (t : Int)) (kk : G K X cs sl t S lv st) : G K X cs sl pc S lv st :=
  fun H locs ls hX hS hl => lv_goto F.1 F.2.1 d ht (kk H locs ls hX hS hl)
theorem g_null (n : Nat) (F : Fx K cc own Kf fr lo) (d : decode cc pc = .ok (.aconst_null, 1)) (hn : pc + 1 = n) (kk : G K X cs sl n S lv (.null :: st)) : G K X cs sl pc S lv st := by
  subst hn; exact fun H locs ls hX hS hl => lv_null F.1 F.2.1 d (kk H locs ls hX hS hl)
theorem g_ifnull (n : Nat) {x : Nat} {off : Int} (F : Fx K cc own Kf fr lo) (d : decode cc pc = .ok (.ifnull off, 3)) (hn : pc + 3 = n) (kk : G K X cs sl n S lv st) : G K X cs sl pc S lv (.ref x :: st) := by
  subst hn; exact fun H locs ls hX hS hl => lv_ifnull F.1 F.2.1 d (kk H locs ls hX hS hl)
theorem g_ifnullN (t : Nat) {off : Int} (F : Fx K cc own Kf fr lo) (d : decode cc pc = .ok (.ifnull off, 3)) (ht : (pc : Int) + off = (t : Int)) (kk : G K X cs sl t S lv st) : G K X cs sl pc S lv (.null :: st) :=
  fun H locs ls hX hS hl => lv_ifnullN F.1 F.2.1 d ht (kk H locs ls hX hS hl)
theorem g_ifnonnull (t : Nat) {x : Nat} {off : Int} (F : Fx K cc own Kf fr lo) (d : decode cc pc = .ok (.ifnonnull off, 3)) (ht : (pc : Int) + off = (t : Int)) (kk : G K X cs sl t S lv st) : G K X cs sl pc S lv (.ref x :: st) :=
  fun H locs ls hX hS hl => lv_ifnonnull F.1 F.2.1 d ht (kk H locs ls hX hS hl)
theorem g_ifnonnullN (n : Nat) {off : Int} (F : Fx K cc own Kf fr lo) (d : decode cc pc = .ok (.ifnonnull off, 3)) (hn : pc + 3 = n) (kk : G K X cs sl n S lv st) : G K X cs sl pc S lv (.null :: st) := by
  subst hn; exact fun H locs ls hX hS hl => lv_ifnonnullN F.1 F.2.1 d (kk H locs ls hX hS hl)
theorem g_iadd (n : Nat) {x y : Int32} (F : Fx K cc own Kf fr lo) (d : decode cc pc = .ok (.iadd, 1)) (hn : pc + 1 = n) (kk : G K X cs sl n S lv (.int (x + y) :: st)) : G K X cs sl pc S lv (.int y :: .int x :: st) := by
  subst hn; exact fun H locs ls hX hS hl => lv_iadd F.1 F.2.1 d (kk H locs ls hX hS hl)
theorem g_isub (n : Nat) {x y : Int32} (F : Fx K cc own Kf fr lo) (d : decode cc pc = .ok (.isub, 1)) (hn : pc + 1 = n) (kk : G K X cs sl n S lv (.int (x - y) :: st)) : G K X cs sl pc S lv (.int y :: .int x :: st) := by
  subst hn; exact fun H locs ls hX hS hl => lv_isub F.1 F.2.1 d (kk H locs ls hX hS hl)
theorem g_imul (n : Nat) {x y : Int32} (F : Fx K cc own Kf fr lo) (d : decode cc pc = .ok (.imul, 1)) (hn : pc + 1 = n) (kk : G K X cs sl n S lv (.int (x * y) :: st)) : G K X cs sl pc S lv (.int y :: .int x :: st) := by
  subst hn; exact fun H locs ls hX hS hl => lv_imul F.1 F.2.1 d (kk H locs ls hX hS hl)
theorem g_iand (n : Nat) {x y : Int32} (F : Fx K cc own Kf fr lo) (d : decode cc pc = .ok (.iand, 1)) (hn : pc + 1 = n) (kk : G K X cs sl n S lv (.int (x &&& y) :: st)) : G K X cs sl pc S lv (.int y :: .int x :: st) := by
  subst hn; exact fun H locs ls hX hS hl => lv_iand F.1 F.2.1 d (kk H locs ls hX hS hl)
theorem g_ior (n : Nat) {x y : Int32} (F : Fx K cc own Kf fr lo) (d : decode cc pc = .ok (.ior, 1)) (hn : pc + 1 = n) (kk : G K X cs sl n S lv (.int (x ||| y) :: st)) : G K X cs sl pc S lv (.int y :: .int x :: st) := by
  subst hn; exact fun H locs ls hX hS hl => lv_ior F.1 F.2.1 d (kk H locs ls hX hS hl)
theorem g_ixor (n : Nat) {x y : Int32} (F : Fx K cc own Kf fr lo) (d : decode cc pc = .ok (.ixor, 1)) (hn : pc + 1 = n) (kk : G K X cs sl n S lv (.int (x ^^^ y) :: st)) : G K X cs sl pc S lv (.int y :: .int x :: st) := by
  subst hn; exact fun H locs ls hX hS hl => lv_ixor F.1 F.2.1 d (kk H locs ls hX hS hl)
theorem g_ishl (n : Nat) {x y : Int32} (F : Fx K cc own Kf fr lo) (d : decode cc pc = .ok (.ishl, 1)) (hn : pc + 1 = n) (kk : G K X cs sl n S lv (.int (x <<< (y &&& 31)) :: st)) : G K X cs sl pc S lv (.int y :: .int x :: st) := by
  subst hn; exact fun H locs ls hX hS hl => lv_ishl F.1 F.2.1 d (kk H locs ls hX hS hl)
theorem g_ishr (n : Nat) {x y : Int32} (F : Fx K cc own Kf fr lo) (d : decode cc pc = .ok (.ishr, 1)) (hn : pc + 1 = n) (kk : G K X cs sl n S lv (.int (x >>> (y &&& 31)) :: st)) : G K X cs sl pc S lv (.int y :: .int x :: st) := by
  subst hn; exact fun H locs ls hX hS hl => lv_ishr F.1 F.2.1 d (kk H locs ls hX hS hl)
theorem g_ladd (n : Nat) {x y : Int64} (F : Fx K cc own Kf fr lo) (d : decode cc pc = .ok (.ladd, 1)) (hn : pc + 1 = n) (kk : G K X cs sl n S lv (.long (x + y) :: st)) : G K X cs sl pc S lv (.long y :: .long x :: st) := by
  subst hn; exact fun H locs ls hX hS hl => lv_ladd F.1 F.2.1 d (kk H locs ls hX hS hl)
theorem g_lsub (n : Nat) {x y : Int64} (F : Fx K cc own Kf fr lo) (d : decode cc pc = .ok (.lsub, 1)) (hn : pc + 1 = n) (kk : G K X cs sl n S lv (.long (x - y) :: st)) : G K X cs sl pc S lv (.long y :: .long x :: st) := by
  subst hn; exact fun H locs ls hX hS hl => lv_lsub F.1 F.2.1 d (kk H locs ls hX hS hl)
theorem g_lmul (n : Nat) {x y : Int64} (F : Fx K cc own Kf fr lo) (d : decode cc pc = .ok (.lmul, 1)) (hn : pc + 1 = n) (kk : G K X cs sl n S lv (.long (x * y) :: st)) : G K X cs sl pc S lv (.long y :: .long x :: st) := by
  subst hn; exact fun H locs ls hX hS hl => lv_lmul F.1 F.2.1 d (kk H locs ls hX hS hl)
theorem g_idiv (n : Nat) {x y : Int32} (F : Fx K cc own Kf fr lo) (d : decode cc pc = .ok (.idiv, 1)) (hy : ¬ y = 0) (hn : pc + 1 = n) (kk : G K X cs sl n S lv (.int (x / y) :: st)) : G K X cs sl pc S lv (.int y :: .int x :: st) := by
  subst hn; exact fun H locs ls hX hS hl => lv_idiv F.1 F.2.1 d hy (kk H locs ls hX hS hl)
theorem g_irem (n : Nat) {x y : Int32} (F : Fx K cc own Kf fr lo) (d : decode cc pc = .ok (.irem, 1)) (hy : ¬ y = 0) (hn : pc + 1 = n) (kk : G K X cs sl n S lv (.int (x - x / y * y) :: st)) : G K X cs sl pc S lv (.int y :: .int x :: st) := by
  subst hn; exact fun H locs ls hX hS hl => lv_irem F.1 F.2.1 d hy (kk H locs ls hX hS hl)
theorem g_ldiv (n : Nat) {x y : Int64} (F : Fx K cc own Kf fr lo) (d : decode cc pc = .ok (.ldiv, 1)) (hy : ¬ y = 0) (hn : pc + 1 = n) (kk : G K X cs sl n S lv (.long (x / y) :: st)) : G K X cs sl pc S lv (.long y :: .long x :: st) := by
  subst hn; exact fun H locs ls hX hS hl => lv_ldiv F.1 F.2.1 d hy (kk H locs ls hX hS hl)
theorem g_lrem (n : Nat) {x y : Int64} (F : Fx K cc own Kf fr lo) (d : decode cc pc = .ok (.lrem, 1)) (hy : ¬ y = 0) (hn : pc + 1 = n) (kk : G K X cs sl n S lv (.long (x - x / y * y) :: st)) : G K X cs sl pc S lv (.long y :: .long x :: st) := by
  subst hn; exact fun H locs ls hX hS hl => lv_lrem F.1 F.2.1 d hy (kk H locs ls hX hS hl)
theorem g_i2l (n : Nat) {x : Int32} (F : Fx K cc own Kf fr lo) (d : decode cc pc = .ok (.i2l, 1)) (hn : pc + 1 = n) (kk : G K X cs sl n S lv (.long x.toInt64 :: st)) : G K X cs sl pc S lv (.int x :: st) := by
  subst hn; exact fun H locs ls hX hS hl => lv_i2l F.1 F.2.1 d rfl (kk H locs ls hX hS hl)
theorem g_l2i (n : Nat) {x : Int64} (F : Fx K cc own Kf fr lo) (d : decode cc pc = .ok (.l2i, 1)) (hn : pc + 1 = n) (kk : G K X cs sl n S lv (.int x.toInt32 :: st)) : G K X cs sl pc S lv (.long x :: st) := by
  subst hn; exact fun H locs ls hX hS hl => lv_l2i F.1 F.2.1 d rfl (kk H locs ls hX hS hl)
theorem g_i2b (n : Nat) {x : Int32} (F : Fx K cc own Kf fr lo) (d : decode cc pc = .ok (.i2b, 1)) (hn : pc + 1 = n) (kk : G K X cs sl n S lv (.int x.toInt8.toInt32 :: st)) : G K X cs sl pc S lv (.int x :: st) := by
  subst hn; exact fun H locs ls hX hS hl => lv_i2b F.1 F.2.1 d rfl (kk H locs ls hX hS hl)
theorem g_i2c (n : Nat) {x : Int32} (F : Fx K cc own Kf fr lo) (d : decode cc pc = .ok (.i2c, 1)) (hn : pc + 1 = n) (kk : G K X cs sl n S lv (.int (x.toUInt32 % 65536).toInt32 :: st)) : G K X cs sl pc S lv (.int x :: st) := by
  subst hn; exact fun H locs ls hX hS hl => lv_i2c F.1 F.2.1 d rfl (kk H locs ls hX hS hl)
theorem g_iushr (n : Nat) {x y : Int32} (F : Fx K cc own Kf fr lo) (d : decode cc pc = .ok (.iushr, 1)) (hn : pc + 1 = n) (kk : G K X cs sl n S lv (.int (x.toUInt32 >>> (y.toUInt32 &&& Int32.toUInt32 31)).toInt32 :: st)) : G K X cs sl pc S lv (.int y :: .int x :: st) := by
  subst hn; exact fun H locs ls hX hS hl => lv_iushr F.1 F.2.1 d rfl (kk H locs ls hX hS hl)
theorem g_lcmp (n : Nat) {x y : Int64} (F : Fx K cc own Kf fr lo) (d : decode cc pc = .ok (.lcmp, 1)) (hn : pc + 1 = n) (kk : G K X cs sl n S lv (.int (lg_cmp x y) :: st)) : G K X cs sl pc S lv (.long y :: .long x :: st) := by
  subst hn; exact fun H locs ls hX hS hl => W.lcmp F.1 F.2.1 d (kk H locs ls hX hS hl)
theorem g_dup2 (n : Nat) {v w : Value} (F : Fx K cc own Kf fr lo) (d : decode cc pc = .ok (.dup2, 1)) (hc : v.category = 1) (hd : w.category = 1) (hn : pc + 1 = n) (kk : G K X cs sl n S lv (v :: w :: v :: w :: st)) : G K X cs sl pc S lv (v :: w :: st) := by
  subst hn; exact fun H locs ls hX hS hl => lv_dup2_11 F.1 F.2.1 d hc hd (kk H locs ls hX hS hl)
theorem g_icmp_eq (t n : Nat) {x y : Int32} {off : Int} (F : Fx K cc own Kf fr lo) (d : decode cc pc = .ok (.if_icmp .eq off, 3)) (ht : (pc : Int) + off = (t : Int)) (hn : pc + 3 = n) (hf : (if x = y then a else b) = q) (kt : x = y → a = q → G K X cs sl t S lv st) (kf : ¬ x = y → b = q → G K X cs sl n S lv st) : G K X cs sl pc S lv (.int y :: .int x :: st) := by
  subst hn; exact fun H locs ls hX hS hl => lv_icmp_eq F.1 F.2.1 d ht (fun h => kt h ((if_pos h).symm.trans hf) H locs ls hX hS hl) (fun h => kf h ((if_neg h).symm.trans hf) H locs ls hX hS hl)
theorem g_if_eq (t n : Nat) {x : Int32} {off : Int} (F : Fx K cc own Kf fr lo) (d : decode cc pc = .ok (.ifCond .eq off, 3)) (ht : (pc : Int) + off = (t : Int)) (hn : pc + 3 = n) (hf : (if x = 0 then a else b) = q) (kt : x = 0 → a = q → G K X cs sl t S lv st) (kf : ¬ x = 0 → b = q → G K X cs sl n S lv st) : G K X cs sl pc S lv (.int x :: st) := by
  subst hn; exact fun H locs ls hX hS hl => lv_if_eq F.1 F.2.1 d ht (fun h => kt h ((if_pos h).symm.trans hf) H locs ls hX hS hl) (fun h => kf h ((if_neg h).symm.trans hf) H locs ls hX hS hl)
theorem g_icmp_ne (t n : Nat) {x y : Int32} {off : Int} (F : Fx K cc own Kf fr lo) (d : decode cc pc = .ok (.if_icmp .ne off, 3)) (ht : (pc : Int) + off = (t : Int)) (hn : pc + 3 = n) (hf : (if x = y then a else b) = q) (kt : ¬ x = y → b = q → G K X cs sl t S lv st) (kf : x = y → a = q → G K X cs sl n S lv st) : G K X cs sl pc S lv (.int y :: .int x :: st) := by
  subst hn; exact fun H locs ls hX hS hl => lv_icmp_ne F.1 F.2.1 d ht (fun h => kt h ((if_neg h).symm.trans hf) H locs ls hX hS hl) (fun h => kf h ((if_pos h).symm.trans hf) H locs ls hX hS hl)
theorem g_if_ne (t n : Nat) {x : Int32} {off : Int} (F : Fx K cc own Kf fr lo) (d : decode cc pc = .ok (.ifCond .ne off, 3)) (ht : (pc : Int) + off = (t : Int)) (hn : pc + 3 = n) (hf : (if x = 0 then a else b) = q) (kt : ¬ x = 0 → b = q → G K X cs sl t S lv st) (kf : x = 0 → a = q → G K X cs sl n S lv st) : G K X cs sl pc S lv (.int x :: st) := by
  subst hn; exact fun H locs ls hX hS hl => lv_if_ne F.1 F.2.1 d ht (fun h => kt h ((if_neg h).symm.trans hf) H locs ls hX hS hl) (fun h => kf h ((if_pos h).symm.trans hf) H locs ls hX hS hl)
theorem g_icmp_lt (t n : Nat) {x y : Int32} {off : Int} (F : Fx K cc own Kf fr lo) (d : decode cc pc = .ok (.if_icmp .lt off, 3)) (ht : (pc : Int) + off = (t : Int)) (hn : pc + 3 = n) (hf : (if x < y then a else b) = q) (kt : x < y → a = q → G K X cs sl t S lv st) (kf : ¬ x < y → b = q → G K X cs sl n S lv st) : G K X cs sl pc S lv (.int y :: .int x :: st) := by
  subst hn; exact fun H locs ls hX hS hl => lv_icmp_lt F.1 F.2.1 d ht (fun h => kt h ((if_pos h).symm.trans hf) H locs ls hX hS hl) (fun h => kf h ((if_neg h).symm.trans hf) H locs ls hX hS hl)
theorem g_if_lt (t n : Nat) {x : Int32} {off : Int} (F : Fx K cc own Kf fr lo) (d : decode cc pc = .ok (.ifCond .lt off, 3)) (ht : (pc : Int) + off = (t : Int)) (hn : pc + 3 = n) (hf : (if x < 0 then a else b) = q) (kt : x < 0 → a = q → G K X cs sl t S lv st) (kf : ¬ x < 0 → b = q → G K X cs sl n S lv st) : G K X cs sl pc S lv (.int x :: st) := by
  subst hn; exact fun H locs ls hX hS hl => lv_if_lt F.1 F.2.1 d ht (fun h => kt h ((if_pos h).symm.trans hf) H locs ls hX hS hl) (fun h => kf h ((if_neg h).symm.trans hf) H locs ls hX hS hl)
theorem g_icmp_ge (t n : Nat) {x y : Int32} {off : Int} (F : Fx K cc own Kf fr lo) (d : decode cc pc = .ok (.if_icmp .ge off, 3)) (ht : (pc : Int) + off = (t : Int)) (hn : pc + 3 = n) (hf : (if y ≤ x then a else b) = q) (kt : y ≤ x → a = q → G K X cs sl t S lv st) (kf : ¬ y ≤ x → b = q → G K X cs sl n S lv st) : G K X cs sl pc S lv (.int y :: .int x :: st) := by
  subst hn; exact fun H locs ls hX hS hl => lv_icmp_ge F.1 F.2.1 d ht (fun h => kt h ((if_pos h).symm.trans hf) H locs ls hX hS hl) (fun h => kf h ((if_neg h).symm.trans hf) H locs ls hX hS hl)
theorem g_if_ge (t n : Nat) {x : Int32} {off : Int} (F : Fx K cc own Kf fr lo) (d : decode cc pc = .ok (.ifCond .ge off, 3)) (ht : (pc : Int) + off = (t : Int)) (hn : pc + 3 = n) (hf : (if 0 ≤ x then a else b) = q) (kt : 0 ≤ x → a = q → G K X cs sl t S lv st) (kf : ¬ 0 ≤ x → b = q → G K X cs sl n S lv st) : G K X cs sl pc S lv (.int x :: st) := by
  subst hn; exact fun H locs ls hX hS hl => lv_if_ge F.1 F.2.1 d ht (fun h => kt h ((if_pos h).symm.trans hf) H locs ls hX hS hl) (fun h => kf h ((if_neg h).symm.trans hf) H locs ls hX hS hl)
theorem g_icmp_gt (t n : Nat) {x y : Int32} {off : Int} (F : Fx K cc own Kf fr lo) (d : decode cc pc = .ok (.if_icmp .gt off, 3)) (ht : (pc : Int) + off = (t : Int)) (hn : pc + 3 = n) (hf : (if y < x then a else b) = q) (kt : y < x → a = q → G K X cs sl t S lv st) (kf : ¬ y < x → b = q → G K X cs sl n S lv st) : G K X cs sl pc S lv (.int y :: .int x :: st) := by
  subst hn; exact fun H locs ls hX hS hl => lv_icmp_gt F.1 F.2.1 d ht (fun h => kt h ((if_pos h).symm.trans hf) H locs ls hX hS hl) (fun h => kf h ((if_neg h).symm.trans hf) H locs ls hX hS hl)
theorem g_if_gt (t n : Nat) {x : Int32} {off : Int} (F : Fx K cc own Kf fr lo) (d : decode cc pc = .ok (.ifCond .gt off, 3)) (ht : (pc : Int) + off = (t : Int)) (hn : pc + 3 = n) (hf : (if 0 < x then a else b) = q) (kt : 0 < x → a = q → G K X cs sl t S lv st) (kf : ¬ 0 < x → b = q → G K X cs sl n S lv st) : G K X cs sl pc S lv (.int x :: st) := by
  subst hn; exact fun H locs ls hX hS hl => lv_if_gt F.1 F.2.1 d ht (fun h => kt h ((if_pos h).symm.trans hf) H locs ls hX hS hl) (fun h => kf h ((if_neg h).symm.trans hf) H locs ls hX hS hl)
theorem g_icmp_le (t n : Nat) {x y : Int32} {off : Int} (F : Fx K cc own Kf fr lo) (d : decode cc pc = .ok (.if_icmp .le off, 3)) (ht : (pc : Int) + off = (t : Int)) (hn : pc + 3 = n) (hf : (if x ≤ y then a else b) = q) (kt : x ≤ y → a = q → G K X cs sl t S lv st) (kf : ¬ x ≤ y → b = q → G K X cs sl n S lv st) : G K X cs sl pc S lv (.int y :: .int x :: st) := by
  subst hn; exact fun H locs ls hX hS hl => lv_icmp_le F.1 F.2.1 d ht (fun h => kt h ((if_pos h).symm.trans hf) H locs ls hX hS hl) (fun h => kf h ((if_neg h).symm.trans hf) H locs ls hX hS hl)
theorem g_if_le (t n : Nat) {x : Int32} {off : Int} (F : Fx K cc own Kf fr lo) (d : decode cc pc = .ok (.ifCond .le off, 3)) (ht : (pc : Int) + off = (t : Int)) (hn : pc + 3 = n) (hf : (if x ≤ 0 then a else b) = q) (kt : x ≤ 0 → a = q → G K X cs sl t S lv st) (kf : ¬ x ≤ 0 → b = q → G K X cs sl n S lv st) : G K X cs sl pc S lv (.int x :: st) := by
  subst hn; exact fun H locs ls hX hS hl => lv_if_le F.1 F.2.1 d ht (fun h => kt h ((if_pos h).symm.trans hf) H locs ls hX hS hl) (fun h => kf h ((if_neg h).symm.trans hf) H locs ls hX hS hl)
theorem g_ifeq_b (t n : Nat) {z : Bool} {off : Int} (F : Fx K cc own Kf fr lo) (d : decode cc pc = .ok (.ifCond .eq off, 3)) (ht : (pc : Int) + off = (t : Int)) (hn : pc + 3 = n) (hf : (if z = true then a else b) = q) (kt : z = false → b = q → G K X cs sl t S lv st) (kf : z = true → a = q → G K X cs sl n S lv st) : G K X cs sl pc S lv (.int (bI z) :: st) := by
  subst hn
  exact fun H locs ls hX hS hl => lv_if_eq F.1 F.2.1 d ht (fun h => by
    have h := bI_0.mp h
    exact kt h ((if_neg (by rw [h]; decide)).symm.trans hf) H locs ls hX hS hl) (fun h => by
    have h : z = true := by cases z with | true => rfl | false => exact absurd rfl h
    exact kf h ((if_pos h).symm.trans hf) H locs ls hX hS hl)
theorem g_ifne_b (t n : Nat) {z : Bool} {off : Int} (F : Fx K cc own Kf fr lo) (d : decode cc pc = .ok (.ifCond .ne off, 3)) (ht : (pc : Int) + off = (t : Int)) (hn : pc + 3 = n) (hf : (if z = true then a else b) = q) (kt : z = true → a = q → G K X cs sl t S lv st) (kf : z = false → b = q → G K X cs sl n S lv st) : G K X cs sl pc S lv (.int (bI z) :: st) := by
  subst hn
  exact fun H locs ls hX hS hl => lv_if_ne F.1 F.2.1 d ht (fun h => by
    have h : z = true := by cases z with | true => rfl | false => exact absurd rfl h
    exact kt h ((if_pos h).symm.trans hf) H locs ls hX hS hl) (fun h => by
    have h := bI_0.mp h
    exact kf h ((if_neg (by rw [h]; decide)).symm.trans hf) H locs ls hX hS hl)
theorem op_ok {c : Prop} [Decidable c] {z : Option α} {v : α} (h : (if c then z else none) = some v) : c ∧ z = some v := by
  by_cases hc : c
  · rw [if_pos hc] at h; exact ⟨hc, h⟩
  · rw [if_neg hc] at h; cases h
theorem op_bd {β : Type} {z : Option β} {f : β → Option α} {v : α} (h : z.bind f = some v) : ∃ w, z = some w ∧ f w = some v := by
  cases z with
  | none => cases h
  | some w => exact ⟨w, rfl, h⟩
end Rows
