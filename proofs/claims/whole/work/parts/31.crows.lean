/-! What stays of the tables, of constants and of texts. -/
def nOk : Cond → Bool
  | .methodLinkNest _ _ _ _ => true
  | .fieldLinkNest _ _ _ _ _ _ => true
  | .castable _ _ => true
  | .declares _ => true
  | _ => false
def nT : List Cond := lw_tbl.filter nOk
theorem nOk_warm {w : Cond} (hw : nOk w = true) {s U : State} (hW : s.WarmedH U.vm) (h : va_Nw w s) : va_Nw w U := by
  cases w <;> first | exact va_Nw.warmM hW h | exact va_Nw.warmF hW h | exact va_Nw.warmC hW h | exact va_Nw.warmD hW h | cases hw
theorem nOk_same {w : Cond} (hw : nOk w = true) {u U : State} (hv : u.vm = U.vm) (h : va_Nw w u) : va_Nw w U := by
  cases w <;> first | exact va_Nw.same rfl hv h | cases hw
def cTabs : List (List Int32) := [[1, 2, 0, 0, 0, 1], [400, 5, 30, 48, 9, 60], [120, 3, 3, 24, 2, 14], [1, 2, 2, 5, 2, 2]]
def cTab (k j : Nat) : Int32 := (cTabs.getD k []).getD j 0
def cSt (B : CB) (A : Nat → Prop) (k : Nat) (C n : String) (U : State) : Prop := va_Z C n "[I" (.ref (B.2.2.1 k)) A U U.heap ∧ va_T .int (B.2.2.1 k) 6 (fun j => .int (cTab k j)) A U U.heap
def cLen : List Nat := [7, 3, 2, 4, 4, 6, 5, 6, 15, 12]
def cByt : List (List Int32) := [[97, 116, 104, 108, 101, 116, 101], [115, 101, 116], [97, 116], [102, 105, 108, 101], [116, 101, 115, 116], [97, 112, 112, 101, 97, 108], [102, 111, 117, 110, 100], [109, 105, 115, 115, 101, 100], [110, 111, 32, 115, 117, 99, 104, 32, 97, 116, 104, 108, 101, 116, 101], [110, 111, 32, 115, 117, 99, 104, 32, 119, 104, 97, 116]]
def cSo (i : Nat) : String := if i < 8 then "WhereFound$Text" else "WhereFound"
def cSi (i : Nat) : Nat := ([60, 66, 68, 70, 72, 74, 86, 91, 113, 151] : List Nat).getD i 0
def cSx (i : Nat) : String := (["athlete", "set", "at", "file", "test", "appeal", "found", "missed", "no such athlete", "no such what"] : List String).getD i ""
abbrev cK (B : CB) (i : Nat) : Nat := B.2.2.2.1 i
abbrev cV (B : CB) (i : Nat) : Nat := B.2.2.2.2.1 i
def cKf (B : CB) (A : Nat → Prop) (U : State) : Prop :=
  va_K B.1 vwCl [(B.2.1 0, .int), (B.2.1 1, .boolean), (B.2.1 2, .byte), (B.2.1 3, .object "WhereFound$Sportsman")] U ∧ (∀ w ∈ nT, va_Nw w U) ∧
  (cSt B A 0 "WhereFound" "SETTING_LEAST" U ∧ cSt B A 1 "WhereFound" "SETTING_MOST" U ∧ cSt B A 2 "WhereFound" "SETTING_AT_FIRST" U ∧ cSt B A 3 "WhereFound$Text" "NUMBERS_OF_FORM" U) ∧
  va_Z "java/lang/String" "COMPACT_STRINGS" "Z" (.int 1) A U U.heap ∧ va_Zq "jdk/internal/util/Preconditions" "SIOOBE_FORMATTER" "Ljava/util/function/BiFunction;" A U U.heap ∧
  vk_S 10 cLen cByt (cK B) (cV B) A U U.heap ∧ (∀ i, i < 10 → vk_R (cSo i) (cSi i) (cSx i) (cK B i) U) ∧
  vx_Zq Bundle.tN "UNASSIGNED_STACK" Bundle.steD A U U.heap ∧ vx_Zq Bundle.tN "SUPPRESSED_SENTINEL" Bundle.listD A U U.heap
theorem cKf_ok (B : CB) (A : Nat → Prop) : KfOk A (cKf B A) := by
  refine ⟨fun U g mk a h => ?_, fun s U locs h hW hS => ?_⟩
  · obtain ⟨h1, h2, ⟨h3, h4, h5, h6⟩, h7, h8, h9, h10, h11, h12⟩ := h
    exact ⟨va_K.moved (u := U) (U := U.calling g mk a) (Vm.Alike.refl U.vm) h1, fun w hw => nOk_same (List.mem_filter.mp hw).2 (u := U) (U := U.calling g mk a) rfl (h2 w hw), ⟨⟨va_Z.moved (u := U) (U := U.calling g mk a) (Vm.Alike.refl U.vm) h3.1, va_T.moved (u := U) (U := U.calling g mk a) (Vm.Alike.refl U.vm) h3.2⟩, ⟨va_Z.moved (u := U) (U := U.calling g mk a) (Vm.Alike.refl U.vm) h4.1, va_T.moved (u := U) (U := U.calling g mk a) (Vm.Alike.refl U.vm) h4.2⟩, ⟨va_Z.moved (u := U) (U := U.calling g mk a) (Vm.Alike.refl U.vm) h5.1, va_T.moved (u := U) (U := U.calling g mk a) (Vm.Alike.refl U.vm) h5.2⟩, ⟨va_Z.moved (u := U) (U := U.calling g mk a) (Vm.Alike.refl U.vm) h6.1, va_T.moved (u := U) (U := U.calling g mk a) (Vm.Alike.refl U.vm) h6.2⟩⟩,
      va_Z.moved (u := U) (U := U.calling g mk a) (Vm.Alike.refl U.vm) h7, va_Zq.moved (u := U) (U := U.calling g mk a) (Vm.Alike.refl U.vm) h8, vk_S.moved (u := U) (U := U.calling g mk a) (Vm.Alike.refl U.vm) h9, fun i hi => vk_R.same (u := U) (U := U.calling g mk a) rfl (h10 i hi), vx_Zq.moved (u := U) (U := U.calling g mk a) (Vm.Alike.refl U.vm) h11, vx_Zq.moved (u := U) (U := U.calling g mk a) (Vm.Alike.refl U.vm) h12⟩
  · obtain ⟨h1, h2, ⟨h3, h4, h5, h6⟩, h7, h8, h9, h10, h11, h12⟩ := h
    have al := hW.alike
    have kq : ∀ a : Nat, a < s.heap.size → ¬ A a → U.heap[a]? = s.heap[a]? := hS.2.1
    exact ⟨va_K.moved al h1, fun w hw => nOk_warm (List.mem_filter.mp hw).2 hW (h2 w hw), ⟨⟨(va_Z.moved al h3.1).kept kq, (va_T.moved al h3.2).kept kq⟩, ⟨(va_Z.moved al h4.1).kept kq, (va_T.moved al h4.2).kept kq⟩, ⟨(va_Z.moved al h5.1).kept kq, (va_T.moved al h5.2).kept kq⟩, ⟨(va_Z.moved al h6.1).kept kq, (va_T.moved al h6.2).kept kq⟩⟩,
      (va_Z.moved al h7).kept kq, (va_Zq.moved al h8).kept kq, (vk_S.moved al h9).kept kq, fun i hi => (h10 i hi).warm hW, (vx_Zq.moved al h11).kept kq, (vx_Zq.moved al h12).kept kq⟩
/-- the name of a register's i-th sportsman, if he is made -/
def hN (h : Nat → Bool) (r i : Nat) : Option Nat := if h (6 * r + i) = true then some (6 * r + i) else none
section CRows
variable {K : Ctx} {B : CB} {sa : Nat → Nat} {h : Nat → Bool} {lk : Nat × Nat} {cs sl pc : Nat} {S : CS} {lv : List (Nat × Value)} {st : List Value} {cc : ByteArray} {own : String} {fr lo idx : Nat}
theorem c_get {nm k ci N : Nat} {C ref : String} {T : u_T} {fs : List Value} {v : Value} (n : Nat) (F : Fx K cc own (cKf B (kA K)) fr lo) (hm : nm ∈ cNm h) (hc : cCell B sa h lk S nm = .inr (ci, fs)) (hcl : vwCl[ci]? = some (C, T, N)) (hin : ∀ w ∈ u_ws C T N, w ∈ wT) (hk : k < N) (hv : fs[k]? = some v) (hl : Cond.fieldLink own idx ref (T k).2.1 (T k).2.2.1 ∈ wT) (href : (T k).1 = ref) (d : decode cc pc = .ok (.getfield idx, 3)) (hn : pc + 3 = n) (kk : G K (cX B (kA K) sa h lk) cs sl n S lv (v :: st)) : G K (cX B (kA K) sa h lk) cs sl pc S lv (.ref (cAd B sa nm) :: st) := by
  subst hn; subst href
  intro H locs ls hX hS hls
  obtain ⟨p, hp, hq⟩ := nW_get (ad := cAd B sa) (cf := cCell B sa h lk S) hm
  exact va_get (D := B.1) F.1 F.2.1 F.2.2.2.2.1 hin F.2.2.2.1 F.2.2.2.2.2.1.1 hX.1 p (hq.trans (by rw [hc])) hcl k hk (F.2.2.2.2.1 _ hl) (fun _ h9 => h9) hv d (kk H locs ls hX hS hls)
theorem c_put {nm k ci N : Nat} {C ref : String} {T : u_T} {ty0 : Nat → FieldType} {fs : List Value} {v : Value} {ty : FieldType} {S' : CS} (n : Nat) (F : Fx K cc own (cKf B (kA K)) fr lo) (hm : nm ∈ cNm h) (hc : cCell B sa h lk S nm = .inr (ci, fs)) (hcl : vwCl[ci]? = some (C, T, N)) (hin : ∀ w ∈ u_ws C T N, w ∈ wT) (hty : ∀ k, k < N → parseFieldDescriptor (T k).2.2.1 = some (ty0 k)) (hnm : ∀ a, a < N → ∀ b, b < N → a ≠ b → (T a).2.1 ≠ (T b).2.1) (hk : k < N) (hl : Cond.fieldLink own idx ref (T k).2.1 (T k).2.2.1 ∈ wT) (href : (T k).1 = ref) (hfin : (T k).2.2.2 = false) (hd : parseFieldDescriptor (T k).2.2.1 = some ty) (hnar : narrow ty v = v) (hfit : fits ty v = true) (hlen : k < fs.length) (hc' : cCell B sa h lk S' nm = .inr (ci, fs.set k v)) (ho : ∀ n, n ≠ nm → cCell B sa h lk S' n = cCell B sa h lk S n) (d : decode cc pc = .ok (.putfield idx, 3)) (hn : pc + 3 = n) (kk : G K (cX B (kA K) sa h lk) cs sl n S' lv st) : G K (cX B (kA K) sa h lk) cs sl pc S lv (v :: .ref (cAd B sa nm) :: st) := by
  subst hn; subst href
  intro H locs ls hX hS hls
  obtain ⟨p, hp, hq⟩ := nW_get (ad := cAd B sa) (cf := cCell B sa h lk S) hm
  refine va_put (D := B.1) F.1 F.2.1 F.2.2.2.2.1 hin ty0 hty hnm F.2.2.2.1 F.2.2.2.2.2.1.1 hX.1 hX.2 hS p (hq.trans (by rw [hc])) hcl k hk (F.2.2.2.2.1 _ hl) (fun _ h9 => h9) hfin hd hnar hfit hlen d (fun H1 locs1 hP hD hS1 => ?_)
  rw [nW_set hX.2 hp hc' ho] at hP hD
  exact kk H1 locs1 ls ⟨hP, hD⟩ hS1 hls
theorem c_recv {nm ci N : Nat} {C : String} {T : u_T} {fs : List Value} (F : Fx K cc own (cKf B (kA K)) fr lo) (hm : nm ∈ cNm h) (hc : cCell B sa h lk S nm = .inr (ci, fs)) (hcl : vwCl[ci]? = some (C, T, N)) : Rcv K (cX B (kA K) sa h lk) S (cAd B sa nm) C := by
  intro H _ hX _
  obtain ⟨p, hp, hq⟩ := nW_get (ad := cAd B sa) (cf := cCell B sa h lk S) hm
  exact va_recv F.2.2.2.2.2.1.1 hX.1 (ci := ci) (q0 := p) (q := (C, T, N)) hcl (hq.trans (by rw [hc]))
theorem c_ldI {nm N : Nat} {f : Nat → Int32} {i : Int32} (n : Nat) (F : Fx K cc own (cKf B (kA K)) fr lo) (hm : nm ∈ cNm h) (hc : cCell B sa h lk S nm = .inl (B.2.1 0, N, .inl f)) (hi : ok i N) (d : decode cc pc = .ok (.iaload, 1)) (hn : pc + 1 = n) (kk : G K (cX B (kA K) sa h lk) cs sl n S lv (.int (f i.toNatClampNeg) :: st)) : G K (cX B (kA K) sa h lk) cs sl pc S lv (.int i :: .ref (cAd B sa nm) :: st) := by
  subst hn
  intro H locs ls hX hS hls
  obtain ⟨p, hp, hq⟩ := nW_get (ad := cAd B sa) (cf := cCell B sa h lk S) hm
  exact va_iald F.1 F.2.1 F.2.2.2.2.2.1.1 hX.1 p 0 (hq.trans (by rw [hc])) rfl hi d (kk H locs ls hX hS hls)
theorem c_ldZ {nm N : Nat} {f : Nat → Int32} {i : Int32} (n : Nat) (F : Fx K cc own (cKf B (kA K)) fr lo) (hm : nm ∈ cNm h) (hc : cCell B sa h lk S nm = .inl (B.2.1 1, N, .inl f)) (hi : ok i N) (d : decode cc pc = .ok (.baload, 1)) (hn : pc + 1 = n) (kk : G K (cX B (kA K) sa h lk) cs sl n S lv (.int (f i.toNatClampNeg) :: st)) : G K (cX B (kA K) sa h lk) cs sl pc S lv (.int i :: .ref (cAd B sa nm) :: st) := by
  subst hn
  intro H locs ls hX hS hls
  obtain ⟨p, hp, hq⟩ := nW_get (ad := cAd B sa) (cf := cCell B sa h lk S) hm
  exact va_zald F.1 F.2.1 F.2.2.2.2.2.1.1 hX.1 p 1 (hq.trans (by rw [hc])) rfl hi d (kk H locs ls hX hS hls)
theorem c_ldB {nm N : Nat} {f : Nat → Int32} {i : Int32} (n : Nat) (F : Fx K cc own (cKf B (kA K)) fr lo) (hm : nm ∈ cNm h) (hc : cCell B sa h lk S nm = .inl (B.2.1 2, N, .inl f)) (hi : ok i N) (d : decode cc pc = .ok (.baload, 1)) (hn : pc + 1 = n) (kk : G K (cX B (kA K) sa h lk) cs sl n S lv (.int (f i.toNatClampNeg) :: st)) : G K (cX B (kA K) sa h lk) cs sl pc S lv (.int i :: .ref (cAd B sa nm) :: st) := by
  subst hn
  intro H locs ls hX hS hls
  obtain ⟨p, hp, hq⟩ := nW_get (ad := cAd B sa) (cf := cCell B sa h lk S) hm
  exact va_bald F.1 F.2.1 F.2.2.2.2.2.1.1 hX.1 p 2 (hq.trans (by rw [hc])) rfl hi d (kk H locs ls hX hS hls)
theorem c_stI {nm N : Nat} {f : Nat → Int32} {i v : Int32} {S' : CS} (n : Nat) (F : Fx K cc own (cKf B (kA K)) fr lo) (hm : nm ∈ cNm h) (hc : cCell B sa h lk S nm = .inl (B.2.1 0, N, .inl f)) (hi : ok i N) (hc' : cCell B sa h lk S' nm = .inl (B.2.1 0, N, .inl (upd f i.toNatClampNeg v))) (ho : ∀ n, n ≠ nm → cCell B sa h lk S' n = cCell B sa h lk S n) (d : decode cc pc = .ok (.iastore, 1)) (hn : pc + 1 = n) (kk : G K (cX B (kA K) sa h lk) cs sl n S' lv st) : G K (cX B (kA K) sa h lk) cs sl pc S lv (.int v :: .int i :: .ref (cAd B sa nm) :: st) := by
  subst hn
  intro H locs ls hX hS hls
  obtain ⟨p, hp, hq⟩ := nW_get (ad := cAd B sa) (cf := cCell B sa h lk S) hm
  refine va_iast F.1 F.2.1 F.2.2.2.2.2.1.1 hX.1 hX.2 hS p 0 (hq.trans (by rw [hc])) rfl hi d (fun H1 locs1 hP hD hS1 => ?_)
  rw [nW_set hX.2 hp hc' ho] at hP hD
  exact kk H1 locs1 ls ⟨hP, hD⟩ hS1 hls
theorem c_stZ {nm N : Nat} {f : Nat → Int32} {i v : Int32} {S' : CS} (n : Nat) (F : Fx K cc own (cKf B (kA K)) fr lo) (hm : nm ∈ cNm h) (hc : cCell B sa h lk S nm = .inl (B.2.1 1, N, .inl f)) (hi : ok i N) (hc' : cCell B sa h lk S' nm = .inl (B.2.1 1, N, .inl (upd f i.toNatClampNeg (vp_nar .boolean v)))) (ho : ∀ n, n ≠ nm → cCell B sa h lk S' n = cCell B sa h lk S n) (d : decode cc pc = .ok (.bastore, 1)) (hn : pc + 1 = n) (kk : G K (cX B (kA K) sa h lk) cs sl n S' lv st) : G K (cX B (kA K) sa h lk) cs sl pc S lv (.int v :: .int i :: .ref (cAd B sa nm) :: st) := by
  subst hn
  intro H locs ls hX hS hls
  obtain ⟨p, hp, hq⟩ := nW_get (ad := cAd B sa) (cf := cCell B sa h lk S) hm
  refine va_zast F.1 F.2.1 F.2.2.2.2.2.1.1 hX.1 hX.2 hS p 1 (hq.trans (by rw [hc])) rfl hi d (fun H1 locs1 hP hD hS1 => ?_)
  rw [nW_set hX.2 hp hc' ho] at hP hD
  exact kk H1 locs1 ls ⟨hP, hD⟩ hS1 hls
theorem c_stB {nm N : Nat} {f : Nat → Int32} {i v : Int32} {S' : CS} (n : Nat) (F : Fx K cc own (cKf B (kA K)) fr lo) (hm : nm ∈ cNm h) (hc : cCell B sa h lk S nm = .inl (B.2.1 2, N, .inl f)) (hi : ok i N) (hc' : cCell B sa h lk S' nm = .inl (B.2.1 2, N, .inl (upd f i.toNatClampNeg (vp_nar .byte v)))) (ho : ∀ n, n ≠ nm → cCell B sa h lk S' n = cCell B sa h lk S n) (d : decode cc pc = .ok (.bastore, 1)) (hn : pc + 1 = n) (kk : G K (cX B (kA K) sa h lk) cs sl n S' lv st) : G K (cX B (kA K) sa h lk) cs sl pc S lv (.int v :: .int i :: .ref (cAd B sa nm) :: st) := by
  subst hn
  intro H locs ls hX hS hls
  obtain ⟨p, hp, hq⟩ := nW_get (ad := cAd B sa) (cf := cCell B sa h lk S) hm
  refine va_bast F.1 F.2.1 F.2.2.2.2.2.1.1 hX.1 hX.2 hS p 2 (hq.trans (by rw [hc])) rfl hi d (fun H1 locs1 hP hD hS1 => ?_)
  rw [nW_set hX.2 hp hc' ho] at hP hD
  exact kk H1 locs1 ls ⟨hP, hD⟩ hS1 hls
theorem cQ_sQw_self {j c : Nat} {f : Nat → Int32} : cQ (sQw S j c f) j c = f := by rw [cQ_sQw, if_pos ⟨rfl, rfl⟩]
theorem cA_sAw_self {k : Nat} {f : Nat → Int32} : cA (sAw S k f) k = f := by unfold cA sAw va_up; exact if_pos rfl
theorem cCell_Q {j c : Nat} (hc : c < 4) : cCell B sa h lk S (16 + 5 * j + (c + 1)) = .inl (B.2.1 0, if c + 1 = 4 then 1100 else 60, .inl (cQ S j c)) := by
  rw [cCell_sp (by omega)]; unfold cSpc; rw [if_neg (by omega), Nat.add_sub_cancel]
theorem cCell_P {j : Nat} : cCell B sa h lk S (16 + 5 * j + 0) = .inr (1, [.int (cP S j 0), .int (cP S j 1), .int (cP S j 2), .int (cP S j 3), .int (cP S j 4), .int (cP S j 5), .int (cP S j 6), .ref (sa (5 * j + 1)), .ref (sa (5 * j + 2)), .ref (sa (5 * j + 3)), .ref (sa (5 * j + 4))]) := by
  rw [cCell_sp (by decide)]; rfl
theorem cR_sR {r f r' f' : Nat} {v : Int32} : cR (sR S r f v) r' f' = if r' = r ∧ f' = f then v else cR S r' f' := by
  unfold cR sR va_up
  by_cases h1 : r' = r
  · subst h1
    by_cases h2 : f' = f
    · simp [h2]
    · simp [h2]
  · simp [h1]
theorem c_ldRows {r : Nat} {i : Int32} (n : Nat) (F : Fx K cc own (cKf B (kA K)) fr lo) (hr : r < 2) (hi : ok i 6) (d : decode cc pc = .ok (.aaload, 1)) (hn : pc + 1 = n) (kk : G K (cX B (kA K) sa h lk) cs sl n S lv (va_rf ((hN h r i.toNatClampNeg).map (fun j => sa (5 * j))) :: st)) : G K (cX B (kA K) sa h lk) cs sl pc S lv (.int i :: .ref (cAf B (5 + r)) :: st) := by
  subst hn
  have kk : G K (cX B (kA K) sa h lk) cs sl (pc + 1) S lv (va_rf (if h (6 * r + i.toNatClampNeg) = true then some (sa (5 * (6 * r + i.toNatClampNeg))) else none) :: st) := by
    have e : (hN h r i.toNatClampNeg).map (fun j => sa (5 * j)) = if h (6 * r + i.toNatClampNeg) = true then some (sa (5 * (6 * r + i.toNatClampNeg))) else none := by
      unfold hN; split <;> rfl
    rw [← e]; exact kk
  rw [← cAd_fix (B := B) (sa := sa) (show 5 + r < 16 by omega)]
  intro H locs ls hX hS hls
  obtain ⟨p, hp, hq⟩ := nW_get (ad := cAd B sa) (cf := cCell B sa h lk S) (cNm_fix (h := h) (show 5 + r < 16 by omega))
  exact va_aldq F.1 F.2.1 F.2.2.2.2.2.1.1 hX.1 p 3 (hq.trans (by rw [cCell_rows hr])) rfl hi d (kk H locs ls hX hS hls)

theorem cg_X2_violations (n : Nat) (F : Fx K cc own (cKf B (kA K)) fr lo) (hl : Cond.fieldLink own idx "WhereFound$Tally" (TX2 0).2.1 (TX2 0).2.2.1 ∈ wT) (d : decode cc pc = .ok (.getfield idx, 3)) (hn : pc + 3 = n) (kk : G K (cX B (kA K) sa h lk) cs sl n S lv (.int (cF S 1) :: st)) : G K (cX B (kA K) sa h lk) cs sl pc S lv (.ref (cAf B 7) :: st) :=
  c_get (nm := 7) (k := 0) (ci := 2) (N := 10) (C := RX2) (T := TX2) n F (cNm_fix (by decide)) rfl rfl inT2 (by decide) rfl hl rfl d hn kk
theorem cp_X2_violations {v : Int32} (n : Nat) (F : Fx K cc own (cKf B (kA K)) fr lo) (hl : Cond.fieldLink own idx "WhereFound$Tally" (TX2 0).2.1 (TX2 0).2.2.1 ∈ wT) (d : decode cc pc = .ok (.putfield idx, 3)) (hn : pc + 3 = n) (kk : G K (cX B (kA K) sa h lk) cs sl n (sF S 1 (v)) lv st) : G K (cX B (kA K) sa h lk) cs sl pc S lv (.int (v) :: .ref (cAf B 7) :: st) :=
  c_put (nm := 7) (k := 0) (ci := 2) (N := 10) (C := RX2) (T := TX2) (ty0 := tyX2) (ty := .int) n F (cNm_fix (by decide)) rfl rfl inT2 tyX2_ok nmX2 (by decide) hl rfl rfl (by decide +kernel) rfl rfl (Nat.le_of_ble_eq_true rfl) rfl (fr_F1 (v)) d hn kk
theorem cg_X2_window (n : Nat) (F : Fx K cc own (cKf B (kA K)) fr lo) (hl : Cond.fieldLink own idx "WhereFound$Tally" (TX2 1).2.1 (TX2 1).2.2.1 ∈ wT) (d : decode cc pc = .ok (.getfield idx, 3)) (hn : pc + 3 = n) (kk : G K (cX B (kA K) sa h lk) cs sl n S lv (.int (cF S 2) :: st)) : G K (cX B (kA K) sa h lk) cs sl pc S lv (.ref (cAf B 7) :: st) :=
  c_get (nm := 7) (k := 1) (ci := 2) (N := 10) (C := RX2) (T := TX2) n F (cNm_fix (by decide)) rfl rfl inT2 (by decide) rfl hl rfl d hn kk
theorem cp_X2_window {v : Int32} (n : Nat) (F : Fx K cc own (cKf B (kA K)) fr lo) (hl : Cond.fieldLink own idx "WhereFound$Tally" (TX2 1).2.1 (TX2 1).2.2.1 ∈ wT) (d : decode cc pc = .ok (.putfield idx, 3)) (hn : pc + 3 = n) (kk : G K (cX B (kA K) sa h lk) cs sl n (sF S 2 (v)) lv st) : G K (cX B (kA K) sa h lk) cs sl pc S lv (.int (v) :: .ref (cAf B 7) :: st) :=
  c_put (nm := 7) (k := 1) (ci := 2) (N := 10) (C := RX2) (T := TX2) (ty0 := tyX2) (ty := .int) n F (cNm_fix (by decide)) rfl rfl inT2 tyX2_ok nmX2 (by decide) hl rfl rfl (by decide +kernel) rfl rfl (Nat.le_of_ble_eq_true rfl) rfl (fr_F2 (v)) d hn kk
theorem cg_X2_limit (n : Nat) (F : Fx K cc own (cKf B (kA K)) fr lo) (hl : Cond.fieldLink own idx "WhereFound$Tally" (TX2 2).2.1 (TX2 2).2.2.1 ∈ wT) (d : decode cc pc = .ok (.getfield idx, 3)) (hn : pc + 3 = n) (kk : G K (cX B (kA K) sa h lk) cs sl n S lv (.int (cF S 3) :: st)) : G K (cX B (kA K) sa h lk) cs sl pc S lv (.ref (cAf B 7) :: st) :=
  c_get (nm := 7) (k := 2) (ci := 2) (N := 10) (C := RX2) (T := TX2) n F (cNm_fix (by decide)) rfl rfl inT2 (by decide) rfl hl rfl d hn kk
theorem cp_X2_limit {v : Int32} (n : Nat) (F : Fx K cc own (cKf B (kA K)) fr lo) (hl : Cond.fieldLink own idx "WhereFound$Tally" (TX2 2).2.1 (TX2 2).2.2.1 ∈ wT) (d : decode cc pc = .ok (.putfield idx, 3)) (hn : pc + 3 = n) (kk : G K (cX B (kA K) sa h lk) cs sl n (sF S 3 (v)) lv st) : G K (cX B (kA K) sa h lk) cs sl pc S lv (.int (v) :: .ref (cAf B 7) :: st) :=
  c_put (nm := 7) (k := 2) (ci := 2) (N := 10) (C := RX2) (T := TX2) (ty0 := tyX2) (ty := .int) n F (cNm_fix (by decide)) rfl rfl inT2 tyX2_ok nmX2 (by decide) hl rfl rfl (by decide +kernel) rfl rfl (Nat.le_of_ble_eq_true rfl) rfl (fr_F3 (v)) d hn kk
theorem cg_X2_notice (n : Nat) (F : Fx K cc own (cKf B (kA K)) fr lo) (hl : Cond.fieldLink own idx "WhereFound$Tally" (TX2 3).2.1 (TX2 3).2.2.1 ∈ wT) (d : decode cc pc = .ok (.getfield idx, 3)) (hn : pc + 3 = n) (kk : G K (cX B (kA K) sa h lk) cs sl n S lv (.int (cF S 4) :: st)) : G K (cX B (kA K) sa h lk) cs sl pc S lv (.ref (cAf B 7) :: st) :=
  c_get (nm := 7) (k := 3) (ci := 2) (N := 10) (C := RX2) (T := TX2) n F (cNm_fix (by decide)) rfl rfl inT2 (by decide) rfl hl rfl d hn kk
theorem cp_X2_notice {v : Int32} (n : Nat) (F : Fx K cc own (cKf B (kA K)) fr lo) (hl : Cond.fieldLink own idx "WhereFound$Tally" (TX2 3).2.1 (TX2 3).2.2.1 ∈ wT) (d : decode cc pc = .ok (.putfield idx, 3)) (hn : pc + 3 = n) (kk : G K (cX B (kA K) sa h lk) cs sl n (sF S 4 (v)) lv st) : G K (cX B (kA K) sa h lk) cs sl pc S lv (.int (v) :: .ref (cAf B 7) :: st) :=
  c_put (nm := 7) (k := 3) (ci := 2) (N := 10) (C := RX2) (T := TX2) (ty0 := tyX2) (ty := .int) n F (cNm_fix (by decide)) rfl rfl inT2 tyX2_ok nmX2 (by decide) hl rfl rfl (by decide +kernel) rfl rfl (Nat.le_of_ble_eq_true rfl) rfl (fr_F4 (v)) d hn kk
theorem cg_X2_size (n : Nat) (F : Fx K cc own (cKf B (kA K)) fr lo) (hl : Cond.fieldLink own idx "WhereFound$Tally" (TX2 4).2.1 (TX2 4).2.2.1 ∈ wT) (d : decode cc pc = .ok (.getfield idx, 3)) (hn : pc + 3 = n) (kk : G K (cX B (kA K) sa h lk) cs sl n S lv (.int (cF S 5) :: st)) : G K (cX B (kA K) sa h lk) cs sl pc S lv (.ref (cAf B 7) :: st) :=
  c_get (nm := 7) (k := 4) (ci := 2) (N := 10) (C := RX2) (T := TX2) n F (cNm_fix (by decide)) rfl rfl inT2 (by decide) rfl hl rfl d hn kk
theorem cp_X2_size {v : Int32} (n : Nat) (F : Fx K cc own (cKf B (kA K)) fr lo) (hl : Cond.fieldLink own idx "WhereFound$Tally" (TX2 4).2.1 (TX2 4).2.2.1 ∈ wT) (d : decode cc pc = .ok (.putfield idx, 3)) (hn : pc + 3 = n) (kk : G K (cX B (kA K) sa h lk) cs sl n (sF S 5 (v)) lv st) : G K (cX B (kA K) sa h lk) cs sl pc S lv (.int (v) :: .ref (cAf B 7) :: st) :=
  c_put (nm := 7) (k := 4) (ci := 2) (N := 10) (C := RX2) (T := TX2) (ty0 := tyX2) (ty := .int) n F (cNm_fix (by decide)) rfl rfl inT2 tyX2_ok nmX2 (by decide) hl rfl rfl (by decide +kernel) rfl rfl (Nat.le_of_ble_eq_true rfl) rfl (fr_F5 (v)) d hn kk
theorem cg_X2_firstOpen (n : Nat) (F : Fx K cc own (cKf B (kA K)) fr lo) (hl : Cond.fieldLink own idx "WhereFound$Tally" (TX2 5).2.1 (TX2 5).2.2.1 ∈ wT) (d : decode cc pc = .ok (.getfield idx, 3)) (hn : pc + 3 = n) (kk : G K (cX B (kA K) sa h lk) cs sl n S lv (.int (cF S 6) :: st)) : G K (cX B (kA K) sa h lk) cs sl pc S lv (.ref (cAf B 7) :: st) :=
  c_get (nm := 7) (k := 5) (ci := 2) (N := 10) (C := RX2) (T := TX2) n F (cNm_fix (by decide)) rfl rfl inT2 (by decide) rfl hl rfl d hn kk
theorem cp_X2_firstOpen {v : Int32} (n : Nat) (F : Fx K cc own (cKf B (kA K)) fr lo) (hl : Cond.fieldLink own idx "WhereFound$Tally" (TX2 5).2.1 (TX2 5).2.2.1 ∈ wT) (d : decode cc pc = .ok (.putfield idx, 3)) (hn : pc + 3 = n) (kk : G K (cX B (kA K) sa h lk) cs sl n (sF S 6 (v)) lv st) : G K (cX B (kA K) sa h lk) cs sl pc S lv (.int (v) :: .ref (cAf B 7) :: st) :=
  c_put (nm := 7) (k := 5) (ci := 2) (N := 10) (C := RX2) (T := TX2) (ty0 := tyX2) (ty := .int) n F (cNm_fix (by decide)) rfl rfl inT2 tyX2_ok nmX2 (by decide) hl rfl rfl (by decide +kernel) rfl rfl (Nat.le_of_ble_eq_true rfl) rfl (fr_F6 (v)) d hn kk
theorem cg_X2_lastCounting (n : Nat) (F : Fx K cc own (cKf B (kA K)) fr lo) (hl : Cond.fieldLink own idx "WhereFound$Tally" (TX2 6).2.1 (TX2 6).2.2.1 ∈ wT) (d : decode cc pc = .ok (.getfield idx, 3)) (hn : pc + 3 = n) (kk : G K (cX B (kA K) sa h lk) cs sl n S lv (.int (cF S 7) :: st)) : G K (cX B (kA K) sa h lk) cs sl pc S lv (.ref (cAf B 7) :: st) :=
  c_get (nm := 7) (k := 6) (ci := 2) (N := 10) (C := RX2) (T := TX2) n F (cNm_fix (by decide)) rfl rfl inT2 (by decide) rfl hl rfl d hn kk
theorem cp_X2_lastCounting {v : Int32} (n : Nat) (F : Fx K cc own (cKf B (kA K)) fr lo) (hl : Cond.fieldLink own idx "WhereFound$Tally" (TX2 6).2.1 (TX2 6).2.2.1 ∈ wT) (d : decode cc pc = .ok (.putfield idx, 3)) (hn : pc + 3 = n) (kk : G K (cX B (kA K) sa h lk) cs sl n (sF S 7 (v)) lv st) : G K (cX B (kA K) sa h lk) cs sl pc S lv (.int (v) :: .ref (cAf B 7) :: st) :=
  c_put (nm := 7) (k := 6) (ci := 2) (N := 10) (C := RX2) (T := TX2) (ty0 := tyX2) (ty := .int) n F (cNm_fix (by decide)) rfl rfl inT2 tyX2_ok nmX2 (by decide) hl rfl rfl (by decide +kernel) rfl rfl (Nat.le_of_ble_eq_true rfl) rfl (fr_F7 (v)) d hn kk
theorem cg_X2_days (n : Nat) (F : Fx K cc own (cKf B (kA K)) fr lo) (hl : Cond.fieldLink own idx "WhereFound$Tally" (TX2 7).2.1 (TX2 7).2.2.1 ∈ wT) (d : decode cc pc = .ok (.getfield idx, 3)) (hn : pc + 3 = n) (kk : G K (cX B (kA K) sa h lk) cs sl n S lv (.ref (cAf B 8) :: st)) : G K (cX B (kA K) sa h lk) cs sl pc S lv (.ref (cAf B 7) :: st) :=
  c_get (nm := 7) (k := 7) (ci := 2) (N := 10) (C := RX2) (T := TX2) n F (cNm_fix (by decide)) rfl rfl inT2 (by decide) rfl hl rfl d hn kk
theorem cg_X2_counting (n : Nat) (F : Fx K cc own (cKf B (kA K)) fr lo) (hl : Cond.fieldLink own idx "WhereFound$Tally" (TX2 8).2.1 (TX2 8).2.2.1 ∈ wT) (d : decode cc pc = .ok (.getfield idx, 3)) (hn : pc + 3 = n) (kk : G K (cX B (kA K) sa h lk) cs sl n S lv (.ref (cAf B 9) :: st)) : G K (cX B (kA K) sa h lk) cs sl pc S lv (.ref (cAf B 7) :: st) :=
  c_get (nm := 7) (k := 8) (ci := 2) (N := 10) (C := RX2) (T := TX2) n F (cNm_fix (by decide)) rfl rfl inT2 (by decide) rfl hl rfl d hn kk
theorem cg_X2_violationDays (n : Nat) (F : Fx K cc own (cKf B (kA K)) fr lo) (hl : Cond.fieldLink own idx "WhereFound$Tally" (TX2 9).2.1 (TX2 9).2.2.1 ∈ wT) (d : decode cc pc = .ok (.getfield idx, 3)) (hn : pc + 3 = n) (kk : G K (cX B (kA K) sa h lk) cs sl n S lv (.ref (cAf B 10) :: st)) : G K (cX B (kA K) sa h lk) cs sl pc S lv (.ref (cAf B 7) :: st) :=
  c_get (nm := 7) (k := 9) (ci := 2) (N := 10) (C := RX2) (T := TX2) n F (cNm_fix (by decide)) rfl rfl inT2 (by decide) rfl hl rfl d hn kk
theorem c_rc_X2 (F : Fx K cc own (cKf B (kA K)) fr lo) : Rcv K (cX B (kA K) sa h lk) S (cAf B 7) RX2 := c_recv (nm := 7) F (cNm_fix (by decide)) rfl rfl
theorem cg_X3_size (n : Nat) (F : Fx K cc own (cKf B (kA K)) fr lo) (hl : Cond.fieldLink own idx "WhereFound$Tape" (TX3 0).2.1 (TX3 0).2.2.1 ∈ wT) (d : decode cc pc = .ok (.getfield idx, 3)) (hn : pc + 3 = n) (kk : G K (cX B (kA K) sa h lk) cs sl n S lv (.int (cF S 8) :: st)) : G K (cX B (kA K) sa h lk) cs sl pc S lv (.ref (cAf B 11) :: st) :=
  c_get (nm := 11) (k := 0) (ci := 3) (N := 6) (C := RX3) (T := TX3) n F (cNm_fix (by decide)) rfl rfl inT3 (by decide) rfl hl rfl d hn kk
theorem cp_X3_size {v : Int32} (n : Nat) (F : Fx K cc own (cKf B (kA K)) fr lo) (hl : Cond.fieldLink own idx "WhereFound$Tape" (TX3 0).2.1 (TX3 0).2.2.1 ∈ wT) (d : decode cc pc = .ok (.putfield idx, 3)) (hn : pc + 3 = n) (kk : G K (cX B (kA K) sa h lk) cs sl n (sF S 8 (v)) lv st) : G K (cX B (kA K) sa h lk) cs sl pc S lv (.int (v) :: .ref (cAf B 11) :: st) :=
  c_put (nm := 11) (k := 0) (ci := 3) (N := 6) (C := RX3) (T := TX3) (ty0 := tyX3) (ty := .int) n F (cNm_fix (by decide)) rfl rfl inT3 tyX3_ok nmX3 (by decide) hl rfl rfl (by decide +kernel) rfl rfl (Nat.le_of_ble_eq_true rfl) rfl (fr_F8 (v)) d hn kk
theorem cg_X3_token (n : Nat) (F : Fx K cc own (cKf B (kA K)) fr lo) (hl : Cond.fieldLink own idx "WhereFound$Tape" (TX3 1).2.1 (TX3 1).2.2.1 ∈ wT) (d : decode cc pc = .ok (.getfield idx, 3)) (hn : pc + 3 = n) (kk : G K (cX B (kA K) sa h lk) cs sl n S lv (.int (cF S 9) :: st)) : G K (cX B (kA K) sa h lk) cs sl pc S lv (.ref (cAf B 11) :: st) :=
  c_get (nm := 11) (k := 1) (ci := 3) (N := 6) (C := RX3) (T := TX3) n F (cNm_fix (by decide)) rfl rfl inT3 (by decide) rfl hl rfl d hn kk
theorem cp_X3_token {v : Int32} (n : Nat) (F : Fx K cc own (cKf B (kA K)) fr lo) (hl : Cond.fieldLink own idx "WhereFound$Tape" (TX3 1).2.1 (TX3 1).2.2.1 ∈ wT) (d : decode cc pc = .ok (.putfield idx, 3)) (hn : pc + 3 = n) (kk : G K (cX B (kA K) sa h lk) cs sl n (sF S 9 (v)) lv st) : G K (cX B (kA K) sa h lk) cs sl pc S lv (.int (v) :: .ref (cAf B 11) :: st) :=
  c_put (nm := 11) (k := 1) (ci := 3) (N := 6) (C := RX3) (T := TX3) (ty0 := tyX3) (ty := .int) n F (cNm_fix (by decide)) rfl rfl inT3 tyX3_ok nmX3 (by decide) hl rfl rfl (by decide +kernel) rfl rfl (Nat.le_of_ble_eq_true rfl) rfl (fr_F9 (v)) d hn kk
theorem cg_X3_first (n : Nat) (F : Fx K cc own (cKf B (kA K)) fr lo) (hl : Cond.fieldLink own idx "WhereFound$Tape" (TX3 2).2.1 (TX3 2).2.2.1 ∈ wT) (d : decode cc pc = .ok (.getfield idx, 3)) (hn : pc + 3 = n) (kk : G K (cX B (kA K) sa h lk) cs sl n S lv (.int (cF S 10) :: st)) : G K (cX B (kA K) sa h lk) cs sl pc S lv (.ref (cAf B 11) :: st) :=
  c_get (nm := 11) (k := 2) (ci := 3) (N := 6) (C := RX3) (T := TX3) n F (cNm_fix (by decide)) rfl rfl inT3 (by decide) rfl hl rfl d hn kk
theorem cp_X3_first {v : Int32} (n : Nat) (F : Fx K cc own (cKf B (kA K)) fr lo) (hl : Cond.fieldLink own idx "WhereFound$Tape" (TX3 2).2.1 (TX3 2).2.2.1 ∈ wT) (d : decode cc pc = .ok (.putfield idx, 3)) (hn : pc + 3 = n) (kk : G K (cX B (kA K) sa h lk) cs sl n (sF S 10 (v)) lv st) : G K (cX B (kA K) sa h lk) cs sl pc S lv (.int (v) :: .ref (cAf B 11) :: st) :=
  c_put (nm := 11) (k := 2) (ci := 3) (N := 6) (C := RX3) (T := TX3) (ty0 := tyX3) (ty := .int) n F (cNm_fix (by decide)) rfl rfl inT3 tyX3_ok nmX3 (by decide) hl rfl rfl (by decide +kernel) rfl rfl (Nat.le_of_ble_eq_true rfl) rfl (fr_F10 (v)) d hn kk
theorem cg_X3_value (n : Nat) (F : Fx K cc own (cKf B (kA K)) fr lo) (hl : Cond.fieldLink own idx "WhereFound$Tape" (TX3 3).2.1 (TX3 3).2.2.1 ∈ wT) (d : decode cc pc = .ok (.getfield idx, 3)) (hn : pc + 3 = n) (kk : G K (cX B (kA K) sa h lk) cs sl n S lv (.int (cF S 11) :: st)) : G K (cX B (kA K) sa h lk) cs sl pc S lv (.ref (cAf B 11) :: st) :=
  c_get (nm := 11) (k := 3) (ci := 3) (N := 6) (C := RX3) (T := TX3) n F (cNm_fix (by decide)) rfl rfl inT3 (by decide) rfl hl rfl d hn kk
theorem cp_X3_value {v : Int32} (n : Nat) (F : Fx K cc own (cKf B (kA K)) fr lo) (hl : Cond.fieldLink own idx "WhereFound$Tape" (TX3 3).2.1 (TX3 3).2.2.1 ∈ wT) (d : decode cc pc = .ok (.putfield idx, 3)) (hn : pc + 3 = n) (kk : G K (cX B (kA K) sa h lk) cs sl n (sF S 11 (v)) lv st) : G K (cX B (kA K) sa h lk) cs sl pc S lv (.int (v) :: .ref (cAf B 11) :: st) :=
  c_put (nm := 11) (k := 3) (ci := 3) (N := 6) (C := RX3) (T := TX3) (ty0 := tyX3) (ty := .int) n F (cNm_fix (by decide)) rfl rfl inT3 tyX3_ok nmX3 (by decide) hl rfl rfl (by decide +kernel) rfl rfl (Nat.le_of_ble_eq_true rfl) rfl (fr_F11 (v)) d hn kk
theorem cg_X3_next (n : Nat) (F : Fx K cc own (cKf B (kA K)) fr lo) (hl : Cond.fieldLink own idx "WhereFound$Tape" (TX3 4).2.1 (TX3 4).2.2.1 ∈ wT) (d : decode cc pc = .ok (.getfield idx, 3)) (hn : pc + 3 = n) (kk : G K (cX B (kA K) sa h lk) cs sl n S lv (.int (cF S 12) :: st)) : G K (cX B (kA K) sa h lk) cs sl pc S lv (.ref (cAf B 11) :: st) :=
  c_get (nm := 11) (k := 4) (ci := 3) (N := 6) (C := RX3) (T := TX3) n F (cNm_fix (by decide)) rfl rfl inT3 (by decide) rfl hl rfl d hn kk
theorem cp_X3_next {v : Int32} (n : Nat) (F : Fx K cc own (cKf B (kA K)) fr lo) (hl : Cond.fieldLink own idx "WhereFound$Tape" (TX3 4).2.1 (TX3 4).2.2.1 ∈ wT) (d : decode cc pc = .ok (.putfield idx, 3)) (hn : pc + 3 = n) (kk : G K (cX B (kA K) sa h lk) cs sl n (sF S 12 (v)) lv st) : G K (cX B (kA K) sa h lk) cs sl pc S lv (.int (v) :: .ref (cAf B 11) :: st) :=
  c_put (nm := 11) (k := 4) (ci := 3) (N := 6) (C := RX3) (T := TX3) (ty0 := tyX3) (ty := .int) n F (cNm_fix (by decide)) rfl rfl inT3 tyX3_ok nmX3 (by decide) hl rfl rfl (by decide +kernel) rfl rfl (Nat.le_of_ble_eq_true rfl) rfl (fr_F12 (v)) d hn kk
theorem cg_X3_bytes (n : Nat) (F : Fx K cc own (cKf B (kA K)) fr lo) (hl : Cond.fieldLink own idx "WhereFound$Tape" (TX3 5).2.1 (TX3 5).2.2.1 ∈ wT) (d : decode cc pc = .ok (.getfield idx, 3)) (hn : pc + 3 = n) (kk : G K (cX B (kA K) sa h lk) cs sl n S lv (.ref (cAf B 12) :: st)) : G K (cX B (kA K) sa h lk) cs sl pc S lv (.ref (cAf B 11) :: st) :=
  c_get (nm := 11) (k := 5) (ci := 3) (N := 6) (C := RX3) (T := TX3) n F (cNm_fix (by decide)) rfl rfl inT3 (by decide) rfl hl rfl d hn kk
theorem c_rc_X3 (F : Fx K cc own (cKf B (kA K)) fr lo) : Rcv K (cX B (kA K) sa h lk) S (cAf B 11) RX3 := c_recv (nm := 11) F (cNm_fix (by decide)) rfl rfl
theorem cg_X4_foundFault (n : Nat) (F : Fx K cc own (cKf B (kA K)) fr lo) (hl : Cond.fieldLink own idx "WhereFound$Text" (TX4 0).2.1 (TX4 0).2.2.1 ∈ wT) (d : decode cc pc = .ok (.getfield idx, 3)) (hn : pc + 3 = n) (kk : G K (cX B (kA K) sa h lk) cs sl n S lv (.int (cF S 13) :: st)) : G K (cX B (kA K) sa h lk) cs sl pc S lv (.ref (cAf B 13) :: st) :=
  c_get (nm := 13) (k := 0) (ci := 4) (N := 4) (C := RX4) (T := TX4) n F (cNm_fix (by decide)) rfl rfl inT4 (by decide) rfl hl rfl d hn kk
theorem cp_X4_foundFault {v : Int32} (n : Nat) (F : Fx K cc own (cKf B (kA K)) fr lo) (hl : Cond.fieldLink own idx "WhereFound$Text" (TX4 0).2.1 (TX4 0).2.2.1 ∈ wT) (d : decode cc pc = .ok (.putfield idx, 3)) (hn : pc + 3 = n) (kk : G K (cX B (kA K) sa h lk) cs sl n (sF S 13 (v)) lv st) : G K (cX B (kA K) sa h lk) cs sl pc S lv (.int (v) :: .ref (cAf B 13) :: st) :=
  c_put (nm := 13) (k := 0) (ci := 4) (N := 4) (C := RX4) (T := TX4) (ty0 := tyX4) (ty := .int) n F (cNm_fix (by decide)) rfl rfl inT4 tyX4_ok nmX4 (by decide) hl rfl rfl (by decide +kernel) rfl rfl (Nat.le_of_ble_eq_true rfl) rfl (fr_F13 (v)) d hn kk
theorem cg_X4_tape (n : Nat) (F : Fx K cc own (cKf B (kA K)) fr lo) (hl : Cond.fieldLink own idx "WhereFound$Text" (TX4 1).2.1 (TX4 1).2.2.1 ∈ wT) (d : decode cc pc = .ok (.getfield idx, 3)) (hn : pc + 3 = n) (kk : G K (cX B (kA K) sa h lk) cs sl n S lv (.ref (cAf B 11) :: st)) : G K (cX B (kA K) sa h lk) cs sl pc S lv (.ref (cAf B 13) :: st) :=
  c_get (nm := 13) (k := 1) (ci := 4) (N := 4) (C := RX4) (T := TX4) n F (cNm_fix (by decide)) rfl rfl inT4 (by decide) rfl hl rfl d hn kk
theorem cg_X4_numbers (n : Nat) (F : Fx K cc own (cKf B (kA K)) fr lo) (hl : Cond.fieldLink own idx "WhereFound$Text" (TX4 2).2.1 (TX4 2).2.2.1 ∈ wT) (d : decode cc pc = .ok (.getfield idx, 3)) (hn : pc + 3 = n) (kk : G K (cX B (kA K) sa h lk) cs sl n S lv (.ref (cAf B 14) :: st)) : G K (cX B (kA K) sa h lk) cs sl pc S lv (.ref (cAf B 13) :: st) :=
  c_get (nm := 13) (k := 2) (ci := 4) (N := 4) (C := RX4) (T := TX4) n F (cNm_fix (by decide)) rfl rfl inT4 (by decide) rfl hl rfl d hn kk
theorem cg_X4_found (n : Nat) (F : Fx K cc own (cKf B (kA K)) fr lo) (hl : Cond.fieldLink own idx "WhereFound$Text" (TX4 3).2.1 (TX4 3).2.2.1 ∈ wT) (d : decode cc pc = .ok (.getfield idx, 3)) (hn : pc + 3 = n) (kk : G K (cX B (kA K) sa h lk) cs sl n S lv (.int (cF S 14) :: st)) : G K (cX B (kA K) sa h lk) cs sl pc S lv (.ref (cAf B 13) :: st) :=
  c_get (nm := 13) (k := 3) (ci := 4) (N := 4) (C := RX4) (T := TX4) n F (cNm_fix (by decide)) rfl rfl inT4 (by decide) rfl hl rfl d hn kk
theorem cp_X4_found {z : Bool} (n : Nat) (F : Fx K cc own (cKf B (kA K)) fr lo) (hl : Cond.fieldLink own idx "WhereFound$Text" (TX4 3).2.1 (TX4 3).2.2.1 ∈ wT) (d : decode cc pc = .ok (.putfield idx, 3)) (hn : pc + 3 = n) (kk : G K (cX B (kA K) sa h lk) cs sl n (sF S 14 (bI z)) lv st) : G K (cX B (kA K) sa h lk) cs sl pc S lv (.int (bI z) :: .ref (cAf B 13) :: st) :=
  c_put (nm := 13) (k := 3) (ci := 4) (N := 4) (C := RX4) (T := TX4) (ty0 := tyX4) (ty := .boolean) n F (cNm_fix (by decide)) rfl rfl inT4 tyX4_ok nmX4 (by decide) hl rfl rfl (by decide +kernel) (bI_narrow z) (bI_fits z) (Nat.le_of_ble_eq_true rfl) rfl (fr_F14 (bI z)) d hn kk
theorem c_rc_X4 (F : Fx K cc own (cKf B (kA K)) fr lo) : Rcv K (cX B (kA K) sa h lk) S (cAf B 13) RX4 := c_recv (nm := 13) F (cNm_fix (by decide)) rfl rfl
theorem cg_X5_live (n : Nat) (F : Fx K cc own (cKf B (kA K)) fr lo) (hl : Cond.fieldLink own idx "WhereFound" (TX5 0).2.1 (TX5 0).2.2.1 ∈ wT) (d : decode cc pc = .ok (.getfield idx, 3)) (hn : pc + 3 = n) (kk : G K (cX B (kA K) sa h lk) cs sl n S lv (.ref (cAf B (1 + lk.1)) :: st)) : G K (cX B (kA K) sa h lk) cs sl pc S lv (.ref (cAf B 0) :: st) :=
  c_get (nm := 0) (k := 0) (ci := 5) (N := 7) (C := RX5) (T := TX5) n F (cNm_fix (by decide)) rfl rfl inT5 (by decide) rfl hl rfl d hn kk
theorem cg_X5_kept (n : Nat) (F : Fx K cc own (cKf B (kA K)) fr lo) (hl : Cond.fieldLink own idx "WhereFound" (TX5 1).2.1 (TX5 1).2.2.1 ∈ wT) (d : decode cc pc = .ok (.getfield idx, 3)) (hn : pc + 3 = n) (kk : G K (cX B (kA K) sa h lk) cs sl n S lv (.ref (cAf B (1 + lk.2)) :: st)) : G K (cX B (kA K) sa h lk) cs sl pc S lv (.ref (cAf B 0) :: st) :=
  c_get (nm := 0) (k := 1) (ci := 5) (N := 7) (C := RX5) (T := TX5) n F (cNm_fix (by decide)) rfl rfl inT5 (by decide) rfl hl rfl d hn kk
theorem cg_X5_tally (n : Nat) (F : Fx K cc own (cKf B (kA K)) fr lo) (hl : Cond.fieldLink own idx "WhereFound" (TX5 2).2.1 (TX5 2).2.2.1 ∈ wT) (d : decode cc pc = .ok (.getfield idx, 3)) (hn : pc + 3 = n) (kk : G K (cX B (kA K) sa h lk) cs sl n S lv (.ref (cAf B 7) :: st)) : G K (cX B (kA K) sa h lk) cs sl pc S lv (.ref (cAf B 0) :: st) :=
  c_get (nm := 0) (k := 2) (ci := 5) (N := 7) (C := RX5) (T := TX5) n F (cNm_fix (by decide)) rfl rfl inT5 (by decide) rfl hl rfl d hn kk
theorem cg_X5_tape (n : Nat) (F : Fx K cc own (cKf B (kA K)) fr lo) (hl : Cond.fieldLink own idx "WhereFound" (TX5 3).2.1 (TX5 3).2.2.1 ∈ wT) (d : decode cc pc = .ok (.getfield idx, 3)) (hn : pc + 3 = n) (kk : G K (cX B (kA K) sa h lk) cs sl n S lv (.ref (cAf B 11) :: st)) : G K (cX B (kA K) sa h lk) cs sl pc S lv (.ref (cAf B 0) :: st) :=
  c_get (nm := 0) (k := 3) (ci := 5) (N := 7) (C := RX5) (T := TX5) n F (cNm_fix (by decide)) rfl rfl inT5 (by decide) rfl hl rfl d hn kk
theorem cg_X5_text (n : Nat) (F : Fx K cc own (cKf B (kA K)) fr lo) (hl : Cond.fieldLink own idx "WhereFound" (TX5 4).2.1 (TX5 4).2.2.1 ∈ wT) (d : decode cc pc = .ok (.getfield idx, 3)) (hn : pc + 3 = n) (kk : G K (cX B (kA K) sa h lk) cs sl n S lv (.ref (cAf B 13) :: st)) : G K (cX B (kA K) sa h lk) cs sl pc S lv (.ref (cAf B 0) :: st) :=
  c_get (nm := 0) (k := 4) (ci := 5) (N := 7) (C := RX5) (T := TX5) n F (cNm_fix (by decide)) rfl rfl inT5 (by decide) rfl hl rfl d hn kk
theorem cg_X5_weights (n : Nat) (F : Fx K cc own (cKf B (kA K)) fr lo) (hl : Cond.fieldLink own idx "WhereFound" (TX5 5).2.1 (TX5 5).2.2.1 ∈ wT) (d : decode cc pc = .ok (.getfield idx, 3)) (hn : pc + 3 = n) (kk : G K (cX B (kA K) sa h lk) cs sl n S lv (.ref (cAf B 15) :: st)) : G K (cX B (kA K) sa h lk) cs sl pc S lv (.ref (cAf B 0) :: st) :=
  c_get (nm := 0) (k := 5) (ci := 5) (N := 7) (C := RX5) (T := TX5) n F (cNm_fix (by decide)) rfl rfl inT5 (by decide) rfl hl rfl d hn kk
theorem cg_X5_latestFault (n : Nat) (F : Fx K cc own (cKf B (kA K)) fr lo) (hl : Cond.fieldLink own idx "WhereFound" (TX5 6).2.1 (TX5 6).2.2.1 ∈ wT) (d : decode cc pc = .ok (.getfield idx, 3)) (hn : pc + 3 = n) (kk : G K (cX B (kA K) sa h lk) cs sl n S lv (.int (cF S 0) :: st)) : G K (cX B (kA K) sa h lk) cs sl pc S lv (.ref (cAf B 0) :: st) :=
  c_get (nm := 0) (k := 6) (ci := 5) (N := 7) (C := RX5) (T := TX5) n F (cNm_fix (by decide)) rfl rfl inT5 (by decide) rfl hl rfl d hn kk
theorem cp_X5_latestFault {v : Int32} (n : Nat) (F : Fx K cc own (cKf B (kA K)) fr lo) (hl : Cond.fieldLink own idx "WhereFound" (TX5 6).2.1 (TX5 6).2.2.1 ∈ wT) (d : decode cc pc = .ok (.putfield idx, 3)) (hn : pc + 3 = n) (kk : G K (cX B (kA K) sa h lk) cs sl n (sF S 0 (v)) lv st) : G K (cX B (kA K) sa h lk) cs sl pc S lv (.int (v) :: .ref (cAf B 0) :: st) :=
  c_put (nm := 0) (k := 6) (ci := 5) (N := 7) (C := RX5) (T := TX5) (ty0 := tyX5) (ty := .int) n F (cNm_fix (by decide)) rfl rfl inT5 tyX5_ok nmX5 (by decide) hl rfl rfl (by decide +kernel) rfl rfl (Nat.le_of_ble_eq_true rfl) rfl (fr_F0 (v)) d hn kk
theorem c_rc_X5 (F : Fx K cc own (cKf B (kA K)) fr lo) : Rcv K (cX B (kA K) sa h lk) S (cAf B 0) RX5 := c_recv (nm := 0) F (cNm_fix (by decide)) rfl rfl
theorem cg_X0_day {r : Nat} (n : Nat) (F : Fx K cc own (cKf B (kA K)) fr lo) (hr : r < 2) (hl : Cond.fieldLink own idx "WhereFound$Register" (TX0 0).2.1 (TX0 0).2.2.1 ∈ wT) (d : decode cc pc = .ok (.getfield idx, 3)) (hn : pc + 3 = n) (kk : G K (cX B (kA K) sa h lk) cs sl n S lv (.int (cR S r 0) :: st)) : G K (cX B (kA K) sa h lk) cs sl pc S lv (.ref (cAf B (1 + r)) :: st) := by
  rw [← cAd_fix (B := B) (sa := sa) (show 1 + r < 16 by omega)]
  exact c_get (nm := 1 + r) (k := 0) (ci := 0) (N := 5) (C := RX0) (T := TX0) n F (cNm_fix (by omega)) (cCell_reg hr) rfl inT0 (by decide) rfl hl rfl d hn kk
theorem cp_X0_day {r : Nat} {v : Int32} (n : Nat) (F : Fx K cc own (cKf B (kA K)) fr lo) (hr : r < 2) (hl : Cond.fieldLink own idx "WhereFound$Register" (TX0 0).2.1 (TX0 0).2.2.1 ∈ wT) (d : decode cc pc = .ok (.putfield idx, 3)) (hn : pc + 3 = n) (kk : G K (cX B (kA K) sa h lk) cs sl n (sR S r 0 v) lv st) : G K (cX B (kA K) sa h lk) cs sl pc S lv (.int v :: .ref (cAf B (1 + r)) :: st) := by
  rw [← cAd_fix (B := B) (sa := sa) (show 1 + r < 16 by omega)]
  exact c_put (nm := 1 + r) (k := 0) (ci := 0) (N := 5) (C := RX0) (T := TX0) (ty0 := tyX0) (ty := .int) n F (cNm_fix (by omega)) (cCell_reg hr) rfl inT0 tyX0_ok nmX0 (by decide) hl rfl rfl (by decide +kernel) rfl rfl (Nat.le_of_ble_eq_true rfl) ((cCell_reg hr).trans (by simp [cR_sR])) (fr_R0 hr v) d hn kk
theorem cg_X0_hour {r : Nat} (n : Nat) (F : Fx K cc own (cKf B (kA K)) fr lo) (hr : r < 2) (hl : Cond.fieldLink own idx "WhereFound$Register" (TX0 1).2.1 (TX0 1).2.2.1 ∈ wT) (d : decode cc pc = .ok (.getfield idx, 3)) (hn : pc + 3 = n) (kk : G K (cX B (kA K) sa h lk) cs sl n S lv (.int (cR S r 1) :: st)) : G K (cX B (kA K) sa h lk) cs sl pc S lv (.ref (cAf B (1 + r)) :: st) := by
  rw [← cAd_fix (B := B) (sa := sa) (show 1 + r < 16 by omega)]
  exact c_get (nm := 1 + r) (k := 1) (ci := 0) (N := 5) (C := RX0) (T := TX0) n F (cNm_fix (by omega)) (cCell_reg hr) rfl inT0 (by decide) rfl hl rfl d hn kk
theorem cp_X0_hour {r : Nat} {v : Int32} (n : Nat) (F : Fx K cc own (cKf B (kA K)) fr lo) (hr : r < 2) (hl : Cond.fieldLink own idx "WhereFound$Register" (TX0 1).2.1 (TX0 1).2.2.1 ∈ wT) (d : decode cc pc = .ok (.putfield idx, 3)) (hn : pc + 3 = n) (kk : G K (cX B (kA K) sa h lk) cs sl n (sR S r 1 v) lv st) : G K (cX B (kA K) sa h lk) cs sl pc S lv (.int v :: .ref (cAf B (1 + r)) :: st) := by
  rw [← cAd_fix (B := B) (sa := sa) (show 1 + r < 16 by omega)]
  exact c_put (nm := 1 + r) (k := 1) (ci := 0) (N := 5) (C := RX0) (T := TX0) (ty0 := tyX0) (ty := .int) n F (cNm_fix (by omega)) (cCell_reg hr) rfl inT0 tyX0_ok nmX0 (by decide) hl rfl rfl (by decide +kernel) rfl rfl (Nat.le_of_ble_eq_true rfl) ((cCell_reg hr).trans (by simp [cR_sR])) (fr_R1 hr v) d hn kk
theorem cg_X0_athletes {r : Nat} (n : Nat) (F : Fx K cc own (cKf B (kA K)) fr lo) (hr : r < 2) (hl : Cond.fieldLink own idx "WhereFound$Register" (TX0 2).2.1 (TX0 2).2.2.1 ∈ wT) (d : decode cc pc = .ok (.getfield idx, 3)) (hn : pc + 3 = n) (kk : G K (cX B (kA K) sa h lk) cs sl n S lv (.int (cR S r 2) :: st)) : G K (cX B (kA K) sa h lk) cs sl pc S lv (.ref (cAf B (1 + r)) :: st) := by
  rw [← cAd_fix (B := B) (sa := sa) (show 1 + r < 16 by omega)]
  exact c_get (nm := 1 + r) (k := 2) (ci := 0) (N := 5) (C := RX0) (T := TX0) n F (cNm_fix (by omega)) (cCell_reg hr) rfl inT0 (by decide) rfl hl rfl d hn kk
theorem cp_X0_athletes {r : Nat} {v : Int32} (n : Nat) (F : Fx K cc own (cKf B (kA K)) fr lo) (hr : r < 2) (hl : Cond.fieldLink own idx "WhereFound$Register" (TX0 2).2.1 (TX0 2).2.2.1 ∈ wT) (d : decode cc pc = .ok (.putfield idx, 3)) (hn : pc + 3 = n) (kk : G K (cX B (kA K) sa h lk) cs sl n (sR S r 2 v) lv st) : G K (cX B (kA K) sa h lk) cs sl pc S lv (.int v :: .ref (cAf B (1 + r)) :: st) := by
  rw [← cAd_fix (B := B) (sa := sa) (show 1 + r < 16 by omega)]
  exact c_put (nm := 1 + r) (k := 2) (ci := 0) (N := 5) (C := RX0) (T := TX0) (ty0 := tyX0) (ty := .int) n F (cNm_fix (by omega)) (cCell_reg hr) rfl inT0 tyX0_ok nmX0 (by decide) hl rfl rfl (by decide +kernel) rfl rfl (Nat.le_of_ble_eq_true rfl) ((cCell_reg hr).trans (by simp [cR_sR])) (fr_R2 hr v) d hn kk
theorem cg_X0_settings {r : Nat} (n : Nat) (F : Fx K cc own (cKf B (kA K)) fr lo) (hr : r < 2) (hl : Cond.fieldLink own idx "WhereFound$Register" (TX0 3).2.1 (TX0 3).2.2.1 ∈ wT) (d : decode cc pc = .ok (.getfield idx, 3)) (hn : pc + 3 = n) (kk : G K (cX B (kA K) sa h lk) cs sl n S lv (.ref (cAf B (3 + r)) :: st)) : G K (cX B (kA K) sa h lk) cs sl pc S lv (.ref (cAf B (1 + r)) :: st) := by
  rw [← cAd_fix (B := B) (sa := sa) (show 1 + r < 16 by omega)]
  exact c_get (nm := 1 + r) (k := 3) (ci := 0) (N := 5) (C := RX0) (T := TX0) n F (cNm_fix (by omega)) (cCell_reg hr) rfl inT0 (by decide) rfl hl rfl d hn kk
theorem cg_X0_rows {r : Nat} (n : Nat) (F : Fx K cc own (cKf B (kA K)) fr lo) (hr : r < 2) (hl : Cond.fieldLink own idx "WhereFound$Register" (TX0 4).2.1 (TX0 4).2.2.1 ∈ wT) (d : decode cc pc = .ok (.getfield idx, 3)) (hn : pc + 3 = n) (kk : G K (cX B (kA K) sa h lk) cs sl n S lv (.ref (cAf B (5 + r)) :: st)) : G K (cX B (kA K) sa h lk) cs sl pc S lv (.ref (cAf B (1 + r)) :: st) := by
  rw [← cAd_fix (B := B) (sa := sa) (show 1 + r < 16 by omega)]
  exact c_get (nm := 1 + r) (k := 4) (ci := 0) (N := 5) (C := RX0) (T := TX0) n F (cNm_fix (by omega)) (cCell_reg hr) rfl inT0 (by decide) rfl hl rfl d hn kk
theorem c_rc_X0 {r : Nat} (F : Fx K cc own (cKf B (kA K)) fr lo) (hr : r < 2) : Rcv K (cX B (kA K) sa h lk) S (cAf B (1 + r)) RX0 := by
  rw [← cAd_fix (B := B) (sa := sa) (show 1 + r < 16 by omega)]
  exact c_recv (nm := 1 + r) F (cNm_fix (by omega)) (cCell_reg hr) rfl
theorem cg_X1_risk {j : Nat} (n : Nat) (F : Fx K cc own (cKf B (kA K)) fr lo) (hw : cWf h lk) (hj : h j = true) (hl : Cond.fieldLink own idx "WhereFound$Sportsman" (TX1 0).2.1 (TX1 0).2.2.1 ∈ wT) (d : decode cc pc = .ok (.getfield idx, 3)) (hn : pc + 3 = n) (kk : G K (cX B (kA K) sa h lk) cs sl n S lv (.int (cP S j 0) :: st)) : G K (cX B (kA K) sa h lk) cs sl pc S lv (.ref (sa (5 * j)) :: st) := by
  rw [← Nat.add_zero (5 * j), ← cAd_sp (B := B) (sa := sa) j 0]
  exact c_get (nm := 16 + 5 * j + 0) (k := 0) (ci := 1) (N := 11) (C := RX1) (T := TX1) n F (cNm_sp hj (hw.2.2 j hj) (by decide)) cCell_P rfl inT1 (by decide) rfl hl rfl d hn kk
theorem cp_X1_risk {j : Nat} {v : Int32} (n : Nat) (F : Fx K cc own (cKf B (kA K)) fr lo) (hw : cWf h lk) (hj : h j = true) (hl : Cond.fieldLink own idx "WhereFound$Sportsman" (TX1 0).2.1 (TX1 0).2.2.1 ∈ wT) (d : decode cc pc = .ok (.putfield idx, 3)) (hn : pc + 3 = n) (kk : G K (cX B (kA K) sa h lk) cs sl n (sP S j 0 v) lv st) : G K (cX B (kA K) sa h lk) cs sl pc S lv (.int v :: .ref (sa (5 * j)) :: st) := by
  rw [← Nat.add_zero (5 * j), ← cAd_sp (B := B) (sa := sa) j 0]
  exact c_put (nm := 16 + 5 * j + 0) (k := 0) (ci := 1) (N := 11) (C := RX1) (T := TX1) (ty0 := tyX1) (ty := .int) n F (cNm_sp hj (hw.2.2 j hj) (by decide)) cCell_P rfl inT1 tyX1_ok nmX1 (by decide) hl rfl rfl (by decide +kernel) rfl rfl (Nat.le_of_ble_eq_true rfl) (cCell_P.trans (by simp [cP_sP])) (fr_P v) d hn kk
theorem cg_X1_came {j : Nat} (n : Nat) (F : Fx K cc own (cKf B (kA K)) fr lo) (hw : cWf h lk) (hj : h j = true) (hl : Cond.fieldLink own idx "WhereFound$Sportsman" (TX1 1).2.1 (TX1 1).2.2.1 ∈ wT) (d : decode cc pc = .ok (.getfield idx, 3)) (hn : pc + 3 = n) (kk : G K (cX B (kA K) sa h lk) cs sl n S lv (.int (cP S j 1) :: st)) : G K (cX B (kA K) sa h lk) cs sl pc S lv (.ref (sa (5 * j)) :: st) := by
  rw [← Nat.add_zero (5 * j), ← cAd_sp (B := B) (sa := sa) j 0]
  exact c_get (nm := 16 + 5 * j + 0) (k := 1) (ci := 1) (N := 11) (C := RX1) (T := TX1) n F (cNm_sp hj (hw.2.2 j hj) (by decide)) cCell_P rfl inT1 (by decide) rfl hl rfl d hn kk
theorem cp_X1_came {j : Nat} {v : Int32} (n : Nat) (F : Fx K cc own (cKf B (kA K)) fr lo) (hw : cWf h lk) (hj : h j = true) (hl : Cond.fieldLink own idx "WhereFound$Sportsman" (TX1 1).2.1 (TX1 1).2.2.1 ∈ wT) (d : decode cc pc = .ok (.putfield idx, 3)) (hn : pc + 3 = n) (kk : G K (cX B (kA K) sa h lk) cs sl n (sP S j 1 v) lv st) : G K (cX B (kA K) sa h lk) cs sl pc S lv (.int v :: .ref (sa (5 * j)) :: st) := by
  rw [← Nat.add_zero (5 * j), ← cAd_sp (B := B) (sa := sa) j 0]
  exact c_put (nm := 16 + 5 * j + 0) (k := 1) (ci := 1) (N := 11) (C := RX1) (T := TX1) (ty0 := tyX1) (ty := .int) n F (cNm_sp hj (hw.2.2 j hj) (by decide)) cCell_P rfl inT1 tyX1_ok nmX1 (by decide) hl rfl rfl (by decide +kernel) rfl rfl (Nat.le_of_ble_eq_true rfl) (cCell_P.trans (by simp [cP_sP])) (fr_P v) d hn kk
theorem cg_X1_late {j : Nat} (n : Nat) (F : Fx K cc own (cKf B (kA K)) fr lo) (hw : cWf h lk) (hj : h j = true) (hl : Cond.fieldLink own idx "WhereFound$Sportsman" (TX1 2).2.1 (TX1 2).2.2.1 ∈ wT) (d : decode cc pc = .ok (.getfield idx, 3)) (hn : pc + 3 = n) (kk : G K (cX B (kA K) sa h lk) cs sl n S lv (.int (cP S j 2) :: st)) : G K (cX B (kA K) sa h lk) cs sl pc S lv (.ref (sa (5 * j)) :: st) := by
  rw [← Nat.add_zero (5 * j), ← cAd_sp (B := B) (sa := sa) j 0]
  exact c_get (nm := 16 + 5 * j + 0) (k := 2) (ci := 1) (N := 11) (C := RX1) (T := TX1) n F (cNm_sp hj (hw.2.2 j hj) (by decide)) cCell_P rfl inT1 (by decide) rfl hl rfl d hn kk
theorem cp_X1_late {j : Nat} {v : Int32} (n : Nat) (F : Fx K cc own (cKf B (kA K)) fr lo) (hw : cWf h lk) (hj : h j = true) (hl : Cond.fieldLink own idx "WhereFound$Sportsman" (TX1 2).2.1 (TX1 2).2.2.1 ∈ wT) (d : decode cc pc = .ok (.putfield idx, 3)) (hn : pc + 3 = n) (kk : G K (cX B (kA K) sa h lk) cs sl n (sP S j 2 v) lv st) : G K (cX B (kA K) sa h lk) cs sl pc S lv (.int v :: .ref (sa (5 * j)) :: st) := by
  rw [← Nat.add_zero (5 * j), ← cAd_sp (B := B) (sa := sa) j 0]
  exact c_put (nm := 16 + 5 * j + 0) (k := 2) (ci := 1) (N := 11) (C := RX1) (T := TX1) (ty0 := tyX1) (ty := .int) n F (cNm_sp hj (hw.2.2 j hj) (by decide)) cCell_P rfl inT1 tyX1_ok nmX1 (by decide) hl rfl rfl (by decide +kernel) rfl rfl (Nat.le_of_ble_eq_true rfl) (cCell_P.trans (by simp [cP_sP])) (fr_P v) d hn kk
theorem cg_X1_tests {j : Nat} (n : Nat) (F : Fx K cc own (cKf B (kA K)) fr lo) (hw : cWf h lk) (hj : h j = true) (hl : Cond.fieldLink own idx "WhereFound$Sportsman" (TX1 3).2.1 (TX1 3).2.2.1 ∈ wT) (d : decode cc pc = .ok (.getfield idx, 3)) (hn : pc + 3 = n) (kk : G K (cX B (kA K) sa h lk) cs sl n S lv (.int (cP S j 3) :: st)) : G K (cX B (kA K) sa h lk) cs sl pc S lv (.ref (sa (5 * j)) :: st) := by
  rw [← Nat.add_zero (5 * j), ← cAd_sp (B := B) (sa := sa) j 0]
  exact c_get (nm := 16 + 5 * j + 0) (k := 3) (ci := 1) (N := 11) (C := RX1) (T := TX1) n F (cNm_sp hj (hw.2.2 j hj) (by decide)) cCell_P rfl inT1 (by decide) rfl hl rfl d hn kk
theorem cp_X1_tests {j : Nat} {v : Int32} (n : Nat) (F : Fx K cc own (cKf B (kA K)) fr lo) (hw : cWf h lk) (hj : h j = true) (hl : Cond.fieldLink own idx "WhereFound$Sportsman" (TX1 3).2.1 (TX1 3).2.2.1 ∈ wT) (d : decode cc pc = .ok (.putfield idx, 3)) (hn : pc + 3 = n) (kk : G K (cX B (kA K) sa h lk) cs sl n (sP S j 3 v) lv st) : G K (cX B (kA K) sa h lk) cs sl pc S lv (.int v :: .ref (sa (5 * j)) :: st) := by
  rw [← Nat.add_zero (5 * j), ← cAd_sp (B := B) (sa := sa) j 0]
  exact c_put (nm := 16 + 5 * j + 0) (k := 3) (ci := 1) (N := 11) (C := RX1) (T := TX1) (ty0 := tyX1) (ty := .int) n F (cNm_sp hj (hw.2.2 j hj) (by decide)) cCell_P rfl inT1 tyX1_ok nmX1 (by decide) hl rfl rfl (by decide +kernel) rfl rfl (Nat.le_of_ble_eq_true rfl) (cCell_P.trans (by simp [cP_sP])) (fr_P v) d hn kk
theorem cg_X1_missed {j : Nat} (n : Nat) (F : Fx K cc own (cKf B (kA K)) fr lo) (hw : cWf h lk) (hj : h j = true) (hl : Cond.fieldLink own idx "WhereFound$Sportsman" (TX1 4).2.1 (TX1 4).2.2.1 ∈ wT) (d : decode cc pc = .ok (.getfield idx, 3)) (hn : pc + 3 = n) (kk : G K (cX B (kA K) sa h lk) cs sl n S lv (.int (cP S j 4) :: st)) : G K (cX B (kA K) sa h lk) cs sl pc S lv (.ref (sa (5 * j)) :: st) := by
  rw [← Nat.add_zero (5 * j), ← cAd_sp (B := B) (sa := sa) j 0]
  exact c_get (nm := 16 + 5 * j + 0) (k := 4) (ci := 1) (N := 11) (C := RX1) (T := TX1) n F (cNm_sp hj (hw.2.2 j hj) (by decide)) cCell_P rfl inT1 (by decide) rfl hl rfl d hn kk
theorem cp_X1_missed {j : Nat} {v : Int32} (n : Nat) (F : Fx K cc own (cKf B (kA K)) fr lo) (hw : cWf h lk) (hj : h j = true) (hl : Cond.fieldLink own idx "WhereFound$Sportsman" (TX1 4).2.1 (TX1 4).2.2.1 ∈ wT) (d : decode cc pc = .ok (.putfield idx, 3)) (hn : pc + 3 = n) (kk : G K (cX B (kA K) sa h lk) cs sl n (sP S j 4 v) lv st) : G K (cX B (kA K) sa h lk) cs sl pc S lv (.int v :: .ref (sa (5 * j)) :: st) := by
  rw [← Nat.add_zero (5 * j), ← cAd_sp (B := B) (sa := sa) j 0]
  exact c_put (nm := 16 + 5 * j + 0) (k := 4) (ci := 1) (N := 11) (C := RX1) (T := TX1) (ty0 := tyX1) (ty := .int) n F (cNm_sp hj (hw.2.2 j hj) (by decide)) cCell_P rfl inT1 tyX1_ok nmX1 (by decide) hl rfl rfl (by decide +kernel) rfl rfl (Nat.le_of_ble_eq_true rfl) (cCell_P.trans (by simp [cP_sP])) (fr_P v) d hn kk
theorem cg_X1_lastTest {j : Nat} (n : Nat) (F : Fx K cc own (cKf B (kA K)) fr lo) (hw : cWf h lk) (hj : h j = true) (hl : Cond.fieldLink own idx "WhereFound$Sportsman" (TX1 5).2.1 (TX1 5).2.2.1 ∈ wT) (d : decode cc pc = .ok (.getfield idx, 3)) (hn : pc + 3 = n) (kk : G K (cX B (kA K) sa h lk) cs sl n S lv (.int (cP S j 5) :: st)) : G K (cX B (kA K) sa h lk) cs sl pc S lv (.ref (sa (5 * j)) :: st) := by
  rw [← Nat.add_zero (5 * j), ← cAd_sp (B := B) (sa := sa) j 0]
  exact c_get (nm := 16 + 5 * j + 0) (k := 5) (ci := 1) (N := 11) (C := RX1) (T := TX1) n F (cNm_sp hj (hw.2.2 j hj) (by decide)) cCell_P rfl inT1 (by decide) rfl hl rfl d hn kk
theorem cp_X1_lastTest {j : Nat} {v : Int32} (n : Nat) (F : Fx K cc own (cKf B (kA K)) fr lo) (hw : cWf h lk) (hj : h j = true) (hl : Cond.fieldLink own idx "WhereFound$Sportsman" (TX1 5).2.1 (TX1 5).2.2.1 ∈ wT) (d : decode cc pc = .ok (.putfield idx, 3)) (hn : pc + 3 = n) (kk : G K (cX B (kA K) sa h lk) cs sl n (sP S j 5 v) lv st) : G K (cX B (kA K) sa h lk) cs sl pc S lv (.int v :: .ref (sa (5 * j)) :: st) := by
  rw [← Nat.add_zero (5 * j), ← cAd_sp (B := B) (sa := sa) j 0]
  exact c_put (nm := 16 + 5 * j + 0) (k := 5) (ci := 1) (N := 11) (C := RX1) (T := TX1) (ty0 := tyX1) (ty := .int) n F (cNm_sp hj (hw.2.2 j hj) (by decide)) cCell_P rfl inT1 tyX1_ok nmX1 (by decide) hl rfl rfl (by decide +kernel) rfl rfl (Nat.le_of_ble_eq_true rfl) (cCell_P.trans (by simp [cP_sP])) (fr_P v) d hn kk
theorem cg_X1_failures {j : Nat} (n : Nat) (F : Fx K cc own (cKf B (kA K)) fr lo) (hw : cWf h lk) (hj : h j = true) (hl : Cond.fieldLink own idx "WhereFound$Sportsman" (TX1 6).2.1 (TX1 6).2.2.1 ∈ wT) (d : decode cc pc = .ok (.getfield idx, 3)) (hn : pc + 3 = n) (kk : G K (cX B (kA K) sa h lk) cs sl n S lv (.int (cP S j 6) :: st)) : G K (cX B (kA K) sa h lk) cs sl pc S lv (.ref (sa (5 * j)) :: st) := by
  rw [← Nat.add_zero (5 * j), ← cAd_sp (B := B) (sa := sa) j 0]
  exact c_get (nm := 16 + 5 * j + 0) (k := 6) (ci := 1) (N := 11) (C := RX1) (T := TX1) n F (cNm_sp hj (hw.2.2 j hj) (by decide)) cCell_P rfl inT1 (by decide) rfl hl rfl d hn kk
theorem cp_X1_failures {j : Nat} {v : Int32} (n : Nat) (F : Fx K cc own (cKf B (kA K)) fr lo) (hw : cWf h lk) (hj : h j = true) (hl : Cond.fieldLink own idx "WhereFound$Sportsman" (TX1 6).2.1 (TX1 6).2.2.1 ∈ wT) (d : decode cc pc = .ok (.putfield idx, 3)) (hn : pc + 3 = n) (kk : G K (cX B (kA K) sa h lk) cs sl n (sP S j 6 v) lv st) : G K (cX B (kA K) sa h lk) cs sl pc S lv (.int v :: .ref (sa (5 * j)) :: st) := by
  rw [← Nat.add_zero (5 * j), ← cAd_sp (B := B) (sa := sa) j 0]
  exact c_put (nm := 16 + 5 * j + 0) (k := 6) (ci := 1) (N := 11) (C := RX1) (T := TX1) (ty0 := tyX1) (ty := .int) n F (cNm_sp hj (hw.2.2 j hj) (by decide)) cCell_P rfl inT1 tyX1_ok nmX1 (by decide) hl rfl rfl (by decide +kernel) rfl rfl (Nat.le_of_ble_eq_true rfl) (cCell_P.trans (by simp [cP_sP])) (fr_P v) d hn kk
theorem cg_X1_failureDay {j : Nat} (n : Nat) (F : Fx K cc own (cKf B (kA K)) fr lo) (hw : cWf h lk) (hj : h j = true) (hl : Cond.fieldLink own idx "WhereFound$Sportsman" (TX1 7).2.1 (TX1 7).2.2.1 ∈ wT) (d : decode cc pc = .ok (.getfield idx, 3)) (hn : pc + 3 = n) (kk : G K (cX B (kA K) sa h lk) cs sl n S lv (.ref (sa (5 * j + 1)) :: st)) : G K (cX B (kA K) sa h lk) cs sl pc S lv (.ref (sa (5 * j)) :: st) := by
  rw [← Nat.add_zero (5 * j), ← cAd_sp (B := B) (sa := sa) j 0]
  exact c_get (nm := 16 + 5 * j + 0) (k := 7) (ci := 1) (N := 11) (C := RX1) (T := TX1) n F (cNm_sp hj (hw.2.2 j hj) (by decide)) cCell_P rfl inT1 (by decide) rfl hl rfl d hn kk
theorem cg_X1_failureKind {j : Nat} (n : Nat) (F : Fx K cc own (cKf B (kA K)) fr lo) (hw : cWf h lk) (hj : h j = true) (hl : Cond.fieldLink own idx "WhereFound$Sportsman" (TX1 8).2.1 (TX1 8).2.2.1 ∈ wT) (d : decode cc pc = .ok (.getfield idx, 3)) (hn : pc + 3 = n) (kk : G K (cX B (kA K) sa h lk) cs sl n S lv (.ref (sa (5 * j + 2)) :: st)) : G K (cX B (kA K) sa h lk) cs sl pc S lv (.ref (sa (5 * j)) :: st) := by
  rw [← Nat.add_zero (5 * j), ← cAd_sp (B := B) (sa := sa) j 0]
  exact c_get (nm := 16 + 5 * j + 0) (k := 8) (ci := 1) (N := 11) (C := RX1) (T := TX1) n F (cNm_sp hj (hw.2.2 j hj) (by decide)) cCell_P rfl inT1 (by decide) rfl hl rfl d hn kk
theorem cg_X1_struck {j : Nat} (n : Nat) (F : Fx K cc own (cKf B (kA K)) fr lo) (hw : cWf h lk) (hj : h j = true) (hl : Cond.fieldLink own idx "WhereFound$Sportsman" (TX1 9).2.1 (TX1 9).2.2.1 ∈ wT) (d : decode cc pc = .ok (.getfield idx, 3)) (hn : pc + 3 = n) (kk : G K (cX B (kA K) sa h lk) cs sl n S lv (.ref (sa (5 * j + 3)) :: st)) : G K (cX B (kA K) sa h lk) cs sl pc S lv (.ref (sa (5 * j)) :: st) := by
  rw [← Nat.add_zero (5 * j), ← cAd_sp (B := B) (sa := sa) j 0]
  exact c_get (nm := 16 + 5 * j + 0) (k := 9) (ci := 1) (N := 11) (C := RX1) (T := TX1) n F (cNm_sp hj (hw.2.2 j hj) (by decide)) cCell_P rfl inT1 (by decide) rfl hl rfl d hn kk
theorem cg_X1_slots {j : Nat} (n : Nat) (F : Fx K cc own (cKf B (kA K)) fr lo) (hw : cWf h lk) (hj : h j = true) (hl : Cond.fieldLink own idx "WhereFound$Sportsman" (TX1 10).2.1 (TX1 10).2.2.1 ∈ wT) (d : decode cc pc = .ok (.getfield idx, 3)) (hn : pc + 3 = n) (kk : G K (cX B (kA K) sa h lk) cs sl n S lv (.ref (sa (5 * j + 4)) :: st)) : G K (cX B (kA K) sa h lk) cs sl pc S lv (.ref (sa (5 * j)) :: st) := by
  rw [← Nat.add_zero (5 * j), ← cAd_sp (B := B) (sa := sa) j 0]
  exact c_get (nm := 16 + 5 * j + 0) (k := 10) (ci := 1) (N := 11) (C := RX1) (T := TX1) n F (cNm_sp hj (hw.2.2 j hj) (by decide)) cCell_P rfl inT1 (by decide) rfl hl rfl d hn kk
theorem c_rc_X1 {j : Nat} (F : Fx K cc own (cKf B (kA K)) fr lo) (hw : cWf h lk) (hj : h j = true) : Rcv K (cX B (kA K) sa h lk) S (sa (5 * j)) RX1 := by
  rw [← Nat.add_zero (5 * j), ← cAd_sp (B := B) (sa := sa) j 0]
  exact c_recv (nm := 16 + 5 * j + 0) F (cNm_sp hj (hw.2.2 j hj) (by decide)) cCell_P rfl
theorem cl_A2 {i : Int32} (n : Nat) (F : Fx K cc own (cKf B (kA K)) fr lo) (hi : ok i 61) (d : decode cc pc = .ok (.iaload, 1)) (hn : pc + 1 = n) (kk : G K (cX B (kA K) sa h lk) cs sl n S lv (.int (cA S 2 i.toNatClampNeg) :: st)) : G K (cX B (kA K) sa h lk) cs sl pc S lv (.int i :: .ref (cAf B 8) :: st) :=
  c_ldI (nm := 8) n F (cNm_fix (by decide)) rfl hi d hn kk
theorem cs_A2 {i v : Int32} (n : Nat) (F : Fx K cc own (cKf B (kA K)) fr lo) (hi : ok i 61) (d : decode cc pc = .ok (.iastore, 1)) (hn : pc + 1 = n) (kk : G K (cX B (kA K) sa h lk) cs sl n (sA S 2 i.toNatClampNeg v) lv st) : G K (cX B (kA K) sa h lk) cs sl pc S lv (.int v :: .int i :: .ref (cAf B 8) :: st) :=
  c_stI (nm := 8) n F (cNm_fix (by decide)) rfl hi rfl (fr_A2 _) d hn kk
theorem clK_A2 {i : Int32} (n j : Nat) (F : Fx K cc own (cKf B (kA K)) fr lo) (hj : i.toNatClampNeg = j) (hi : ok i 61) (d : decode cc pc = .ok (.iaload, 1)) (hn : pc + 1 = n) (kk : G K (cX B (kA K) sa h lk) cs sl n S lv (.int (cA S 2 j) :: st)) : G K (cX B (kA K) sa h lk) cs sl pc S lv (.int i :: .ref (cAf B 8) :: st) := by
  subst hj; exact cl_A2 n F hi d hn kk
theorem cl_A3 {i : Int32} (n : Nat) (F : Fx K cc own (cKf B (kA K)) fr lo) (hi : ok i 61) (d : decode cc pc = .ok (.baload, 1)) (hn : pc + 1 = n) (kk : G K (cX B (kA K) sa h lk) cs sl n S lv (.int (cA S 3 i.toNatClampNeg) :: st)) : G K (cX B (kA K) sa h lk) cs sl pc S lv (.int i :: .ref (cAf B 9) :: st) :=
  c_ldZ (nm := 9) n F (cNm_fix (by decide)) rfl hi d hn kk
theorem cs_A3 {i v : Int32} (n : Nat) (F : Fx K cc own (cKf B (kA K)) fr lo) (hi : ok i 61) (d : decode cc pc = .ok (.bastore, 1)) (hn : pc + 1 = n) (kk : G K (cX B (kA K) sa h lk) cs sl n (sA S 3 i.toNatClampNeg (vp_nar .boolean v)) lv st) : G K (cX B (kA K) sa h lk) cs sl pc S lv (.int v :: .int i :: .ref (cAf B 9) :: st) :=
  c_stZ (nm := 9) n F (cNm_fix (by decide)) rfl hi rfl (fr_A3 _) d hn kk
theorem clK_A3 {i : Int32} (n j : Nat) (F : Fx K cc own (cKf B (kA K)) fr lo) (hj : i.toNatClampNeg = j) (hi : ok i 61) (d : decode cc pc = .ok (.baload, 1)) (hn : pc + 1 = n) (kk : G K (cX B (kA K) sa h lk) cs sl n S lv (.int (cA S 3 j) :: st)) : G K (cX B (kA K) sa h lk) cs sl pc S lv (.int i :: .ref (cAf B 9) :: st) := by
  subst hj; exact cl_A3 n F hi d hn kk
theorem cl_A4 {i : Int32} (n : Nat) (F : Fx K cc own (cKf B (kA K)) fr lo) (hi : ok i 61) (d : decode cc pc = .ok (.iaload, 1)) (hn : pc + 1 = n) (kk : G K (cX B (kA K) sa h lk) cs sl n S lv (.int (cA S 4 i.toNatClampNeg) :: st)) : G K (cX B (kA K) sa h lk) cs sl pc S lv (.int i :: .ref (cAf B 10) :: st) :=
  c_ldI (nm := 10) n F (cNm_fix (by decide)) rfl hi d hn kk
theorem cs_A4 {i v : Int32} (n : Nat) (F : Fx K cc own (cKf B (kA K)) fr lo) (hi : ok i 61) (d : decode cc pc = .ok (.iastore, 1)) (hn : pc + 1 = n) (kk : G K (cX B (kA K) sa h lk) cs sl n (sA S 4 i.toNatClampNeg v) lv st) : G K (cX B (kA K) sa h lk) cs sl pc S lv (.int v :: .int i :: .ref (cAf B 10) :: st) :=
  c_stI (nm := 10) n F (cNm_fix (by decide)) rfl hi rfl (fr_A4 _) d hn kk
theorem clK_A4 {i : Int32} (n j : Nat) (F : Fx K cc own (cKf B (kA K)) fr lo) (hj : i.toNatClampNeg = j) (hi : ok i 61) (d : decode cc pc = .ok (.iaload, 1)) (hn : pc + 1 = n) (kk : G K (cX B (kA K) sa h lk) cs sl n S lv (.int (cA S 4 j) :: st)) : G K (cX B (kA K) sa h lk) cs sl pc S lv (.int i :: .ref (cAf B 10) :: st) := by
  subst hj; exact cl_A4 n F hi d hn kk
theorem cl_A5 {i : Int32} (n : Nat) (F : Fx K cc own (cKf B (kA K)) fr lo) (hi : ok i 400) (d : decode cc pc = .ok (.baload, 1)) (hn : pc + 1 = n) (kk : G K (cX B (kA K) sa h lk) cs sl n S lv (.int (cA S 5 i.toNatClampNeg) :: st)) : G K (cX B (kA K) sa h lk) cs sl pc S lv (.int i :: .ref (cAf B 12) :: st) :=
  c_ldB (nm := 12) n F (cNm_fix (by decide)) rfl hi d hn kk
theorem cs_A5 {i v : Int32} (n : Nat) (F : Fx K cc own (cKf B (kA K)) fr lo) (hi : ok i 400) (d : decode cc pc = .ok (.bastore, 1)) (hn : pc + 1 = n) (kk : G K (cX B (kA K) sa h lk) cs sl n (sA S 5 i.toNatClampNeg (vp_nar .byte v)) lv st) : G K (cX B (kA K) sa h lk) cs sl pc S lv (.int v :: .int i :: .ref (cAf B 12) :: st) :=
  c_stB (nm := 12) n F (cNm_fix (by decide)) rfl hi rfl (fr_A5 _) d hn kk
theorem clK_A5 {i : Int32} (n j : Nat) (F : Fx K cc own (cKf B (kA K)) fr lo) (hj : i.toNatClampNeg = j) (hi : ok i 400) (d : decode cc pc = .ok (.baload, 1)) (hn : pc + 1 = n) (kk : G K (cX B (kA K) sa h lk) cs sl n S lv (.int (cA S 5 j) :: st)) : G K (cX B (kA K) sa h lk) cs sl pc S lv (.int i :: .ref (cAf B 12) :: st) := by
  subst hj; exact cl_A5 n F hi d hn kk
theorem cl_A6 {i : Int32} (n : Nat) (F : Fx K cc own (cKf B (kA K)) fr lo) (hi : ok i 5) (d : decode cc pc = .ok (.iaload, 1)) (hn : pc + 1 = n) (kk : G K (cX B (kA K) sa h lk) cs sl n S lv (.int (cA S 6 i.toNatClampNeg) :: st)) : G K (cX B (kA K) sa h lk) cs sl pc S lv (.int i :: .ref (cAf B 14) :: st) :=
  c_ldI (nm := 14) n F (cNm_fix (by decide)) rfl hi d hn kk
theorem cs_A6 {i v : Int32} (n : Nat) (F : Fx K cc own (cKf B (kA K)) fr lo) (hi : ok i 5) (d : decode cc pc = .ok (.iastore, 1)) (hn : pc + 1 = n) (kk : G K (cX B (kA K) sa h lk) cs sl n (sA S 6 i.toNatClampNeg v) lv st) : G K (cX B (kA K) sa h lk) cs sl pc S lv (.int v :: .int i :: .ref (cAf B 14) :: st) :=
  c_stI (nm := 14) n F (cNm_fix (by decide)) rfl hi rfl (fr_A6 _) d hn kk
theorem clK_A6 {i : Int32} (n j : Nat) (F : Fx K cc own (cKf B (kA K)) fr lo) (hj : i.toNatClampNeg = j) (hi : ok i 5) (d : decode cc pc = .ok (.iaload, 1)) (hn : pc + 1 = n) (kk : G K (cX B (kA K) sa h lk) cs sl n S lv (.int (cA S 6 j) :: st)) : G K (cX B (kA K) sa h lk) cs sl pc S lv (.int i :: .ref (cAf B 14) :: st) := by
  subst hj; exact cl_A6 n F hi d hn kk
theorem cl_A7 {i : Int32} (n : Nat) (F : Fx K cc own (cKf B (kA K)) fr lo) (hi : ok i 6) (d : decode cc pc = .ok (.iaload, 1)) (hn : pc + 1 = n) (kk : G K (cX B (kA K) sa h lk) cs sl n S lv (.int (cA S 7 i.toNatClampNeg) :: st)) : G K (cX B (kA K) sa h lk) cs sl pc S lv (.int i :: .ref (cAf B 15) :: st) :=
  c_ldI (nm := 15) n F (cNm_fix (by decide)) rfl hi d hn kk
theorem cs_A7 {i v : Int32} (n : Nat) (F : Fx K cc own (cKf B (kA K)) fr lo) (hi : ok i 6) (d : decode cc pc = .ok (.iastore, 1)) (hn : pc + 1 = n) (kk : G K (cX B (kA K) sa h lk) cs sl n (sA S 7 i.toNatClampNeg v) lv st) : G K (cX B (kA K) sa h lk) cs sl pc S lv (.int v :: .int i :: .ref (cAf B 15) :: st) :=
  c_stI (nm := 15) n F (cNm_fix (by decide)) rfl hi rfl (fr_A7 _) d hn kk
theorem clK_A7 {i : Int32} (n j : Nat) (F : Fx K cc own (cKf B (kA K)) fr lo) (hj : i.toNatClampNeg = j) (hi : ok i 6) (d : decode cc pc = .ok (.iaload, 1)) (hn : pc + 1 = n) (kk : G K (cX B (kA K) sa h lk) cs sl n S lv (.int (cA S 7 j) :: st)) : G K (cX B (kA K) sa h lk) cs sl pc S lv (.int i :: .ref (cAf B 15) :: st) := by
  subst hj; exact cl_A7 n F hi d hn kk
theorem cl_As {r : Nat} {i : Int32} (n : Nat) (F : Fx K cc own (cKf B (kA K)) fr lo) (hr : r < 2) (hi : ok i 6) (d : decode cc pc = .ok (.iaload, 1)) (hn : pc + 1 = n) (kk : G K (cX B (kA K) sa h lk) cs sl n S lv (.int (cA S r i.toNatClampNeg) :: st)) : G K (cX B (kA K) sa h lk) cs sl pc S lv (.int i :: .ref (cAf B (3 + r)) :: st) := by
  rw [← cAd_fix (B := B) (sa := sa) (show 3 + r < 16 by omega)]
  exact c_ldI (nm := 3 + r) n F (cNm_fix (by omega)) (cCell_set hr) hi d hn kk
theorem clK_As {r : Nat} {i : Int32} (n j : Nat) (F : Fx K cc own (cKf B (kA K)) fr lo) (hr : r < 2) (hj : i.toNatClampNeg = j) (hi : ok i 6) (d : decode cc pc = .ok (.iaload, 1)) (hn : pc + 1 = n) (kk : G K (cX B (kA K) sa h lk) cs sl n S lv (.int (cA S r j) :: st)) : G K (cX B (kA K) sa h lk) cs sl pc S lv (.int i :: .ref (cAf B (3 + r)) :: st) := by
  subst hj; exact cl_As n F hr hi d hn kk
theorem cs_As {r : Nat} {i v : Int32} (n : Nat) (F : Fx K cc own (cKf B (kA K)) fr lo) (hr : r < 2) (hi : ok i 6) (d : decode cc pc = .ok (.iastore, 1)) (hn : pc + 1 = n) (kk : G K (cX B (kA K) sa h lk) cs sl n (sA S r i.toNatClampNeg v) lv st) : G K (cX B (kA K) sa h lk) cs sl pc S lv (.int v :: .int i :: .ref (cAf B (3 + r)) :: st) := by
  rw [← cAd_fix (B := B) (sa := sa) (show 3 + r < 16 by omega)]
  exact c_stI (nm := 3 + r) n F (cNm_fix (by omega)) (cCell_set hr) hi ((cCell_set hr).trans (by rw [cA_sAw_self])) (fr_As hr _) d hn kk
theorem cl_Q0 {j : Nat} {i : Int32} (n : Nat) (F : Fx K cc own (cKf B (kA K)) fr lo) (hw : cWf h lk) (hj : h j = true) (hi : ok i 60) (d : decode cc pc = .ok (.iaload, 1)) (hn : pc + 1 = n) (kk : G K (cX B (kA K) sa h lk) cs sl n S lv (.int (cQ S j 0 i.toNatClampNeg) :: st)) : G K (cX B (kA K) sa h lk) cs sl pc S lv (.int i :: .ref (sa (5 * j + 1)) :: st) := by
  rw [← cAd_sp (B := B) (sa := sa) j 1]
  exact c_ldI (nm := 16 + 5 * j + (0 + 1)) n F (cNm_sp hj (hw.2.2 j hj) (by decide)) (cCell_Q (by decide)) hi d hn kk
theorem cs_Q0 {j : Nat} {i v : Int32} (n : Nat) (F : Fx K cc own (cKf B (kA K)) fr lo) (hw : cWf h lk) (hj : h j = true) (hi : ok i 60) (d : decode cc pc = .ok (.iastore, 1)) (hn : pc + 1 = n) (kk : G K (cX B (kA K) sa h lk) cs sl n (sQ S j 0 i.toNatClampNeg v) lv st) : G K (cX B (kA K) sa h lk) cs sl pc S lv (.int v :: .int i :: .ref (sa (5 * j + 1)) :: st) := by
  rw [← cAd_sp (B := B) (sa := sa) j 1]
  exact c_stI (nm := 16 + 5 * j + (0 + 1)) n F (cNm_sp hj (hw.2.2 j hj) (by decide)) (cCell_Q (by decide)) hi ((cCell_Q (by decide)).trans (by rw [cQ_sQw_self])) (fr_Q _) d hn kk
theorem cl_Q1 {j : Nat} {i : Int32} (n : Nat) (F : Fx K cc own (cKf B (kA K)) fr lo) (hw : cWf h lk) (hj : h j = true) (hi : ok i 60) (d : decode cc pc = .ok (.iaload, 1)) (hn : pc + 1 = n) (kk : G K (cX B (kA K) sa h lk) cs sl n S lv (.int (cQ S j 1 i.toNatClampNeg) :: st)) : G K (cX B (kA K) sa h lk) cs sl pc S lv (.int i :: .ref (sa (5 * j + 2)) :: st) := by
  rw [← cAd_sp (B := B) (sa := sa) j 2]
  exact c_ldI (nm := 16 + 5 * j + (1 + 1)) n F (cNm_sp hj (hw.2.2 j hj) (by decide)) (cCell_Q (by decide)) hi d hn kk
theorem cs_Q1 {j : Nat} {i v : Int32} (n : Nat) (F : Fx K cc own (cKf B (kA K)) fr lo) (hw : cWf h lk) (hj : h j = true) (hi : ok i 60) (d : decode cc pc = .ok (.iastore, 1)) (hn : pc + 1 = n) (kk : G K (cX B (kA K) sa h lk) cs sl n (sQ S j 1 i.toNatClampNeg v) lv st) : G K (cX B (kA K) sa h lk) cs sl pc S lv (.int v :: .int i :: .ref (sa (5 * j + 2)) :: st) := by
  rw [← cAd_sp (B := B) (sa := sa) j 2]
  exact c_stI (nm := 16 + 5 * j + (1 + 1)) n F (cNm_sp hj (hw.2.2 j hj) (by decide)) (cCell_Q (by decide)) hi ((cCell_Q (by decide)).trans (by rw [cQ_sQw_self])) (fr_Q _) d hn kk
theorem cl_Q2 {j : Nat} {i : Int32} (n : Nat) (F : Fx K cc own (cKf B (kA K)) fr lo) (hw : cWf h lk) (hj : h j = true) (hi : ok i 60) (d : decode cc pc = .ok (.iaload, 1)) (hn : pc + 1 = n) (kk : G K (cX B (kA K) sa h lk) cs sl n S lv (.int (cQ S j 2 i.toNatClampNeg) :: st)) : G K (cX B (kA K) sa h lk) cs sl pc S lv (.int i :: .ref (sa (5 * j + 3)) :: st) := by
  rw [← cAd_sp (B := B) (sa := sa) j 3]
  exact c_ldI (nm := 16 + 5 * j + (2 + 1)) n F (cNm_sp hj (hw.2.2 j hj) (by decide)) (cCell_Q (by decide)) hi d hn kk
theorem cs_Q2 {j : Nat} {i v : Int32} (n : Nat) (F : Fx K cc own (cKf B (kA K)) fr lo) (hw : cWf h lk) (hj : h j = true) (hi : ok i 60) (d : decode cc pc = .ok (.iastore, 1)) (hn : pc + 1 = n) (kk : G K (cX B (kA K) sa h lk) cs sl n (sQ S j 2 i.toNatClampNeg v) lv st) : G K (cX B (kA K) sa h lk) cs sl pc S lv (.int v :: .int i :: .ref (sa (5 * j + 3)) :: st) := by
  rw [← cAd_sp (B := B) (sa := sa) j 3]
  exact c_stI (nm := 16 + 5 * j + (2 + 1)) n F (cNm_sp hj (hw.2.2 j hj) (by decide)) (cCell_Q (by decide)) hi ((cCell_Q (by decide)).trans (by rw [cQ_sQw_self])) (fr_Q _) d hn kk
theorem cl_Q3 {j : Nat} {i : Int32} (n : Nat) (F : Fx K cc own (cKf B (kA K)) fr lo) (hw : cWf h lk) (hj : h j = true) (hi : ok i 1100) (d : decode cc pc = .ok (.iaload, 1)) (hn : pc + 1 = n) (kk : G K (cX B (kA K) sa h lk) cs sl n S lv (.int (cQ S j 3 i.toNatClampNeg) :: st)) : G K (cX B (kA K) sa h lk) cs sl pc S lv (.int i :: .ref (sa (5 * j + 4)) :: st) := by
  rw [← cAd_sp (B := B) (sa := sa) j 4]
  exact c_ldI (nm := 16 + 5 * j + (3 + 1)) n F (cNm_sp hj (hw.2.2 j hj) (by decide)) (cCell_Q (by decide)) hi d hn kk
theorem cs_Q3 {j : Nat} {i v : Int32} (n : Nat) (F : Fx K cc own (cKf B (kA K)) fr lo) (hw : cWf h lk) (hj : h j = true) (hi : ok i 1100) (d : decode cc pc = .ok (.iastore, 1)) (hn : pc + 1 = n) (kk : G K (cX B (kA K) sa h lk) cs sl n (sQ S j 3 i.toNatClampNeg v) lv st) : G K (cX B (kA K) sa h lk) cs sl pc S lv (.int v :: .int i :: .ref (sa (5 * j + 4)) :: st) := by
  rw [← cAd_sp (B := B) (sa := sa) j 4]
  exact c_stI (nm := 16 + 5 * j + (3 + 1)) n F (cNm_sp hj (hw.2.2 j hj) (by decide)) (cCell_Q (by decide)) hi ((cCell_Q (by decide)).trans (by rw [cQ_sQw_self])) (fr_Q _) d hn kk
end CRows
