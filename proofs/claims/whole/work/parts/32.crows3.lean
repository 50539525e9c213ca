def oC {α β : Type} (o : Option α) (n : β) (s : α → β) : β := match o with
  | none => n
  | some a => s a
theorem op_oc {α β : Type} {o : Option α} {n : β} {s : α → β} {q : β} (h : oC o n s = q) : (o = none ∧ n = q) ∨ ∃ j, o = some j ∧ s j = q := by
  cases o with
  | none => exact Or.inl ⟨rfl, h⟩
  | some j => exact Or.inr ⟨j, rfl, h⟩
section CRows3
variable {K : Ctx} {B : CB} {sa : Nat → Nat} {h : Nat → Bool} {lk : Nat × Nat} {cs sl pc : Nat} {S : CS} {lv : List (Nat × Value)} {st : List Value} {cc : ByteArray} {own : String} {fr lo idx : Nat}
theorem c_gets {σ : Type} {X : σ → Heap → Prop} {S : σ} {Kf : State → Prop} {C nm ds : String} {v : Value} (n : Nat) (F : Fx K cc own Kf fr lo) (hZ : va_Z C nm ds v (kA K) (ks K) (ks K).heap) (hl : Cond.fieldLink own idx C nm ds ∈ wT) (d : decode cc pc = .ok (.getstatic idx, 3)) (hn : pc + 3 = n) (kk : G K X cs sl n S lv (v :: st)) : G K X cs sl pc S lv st := by
  subst hn
  exact fun H locs ls hX hS hls => va_gets F.1 F.2.1 hZ hS F.2.2.2.1 (F.2.2.2.2.1 _ hl) (fun _ h9 => h9) d (kk H locs ls hX hS hls)
theorem c_tld {σ : Type} {X : σ → Heap → Prop} {S : σ} {Kf : State → Prop} {t N : Nat} {f : Nat → Int32} {i : Int32} (n : Nat) (F : Fx K cc own Kf fr lo) (hT : va_T .int t N (fun j => .int (f j)) (kA K) (ks K) (ks K).heap) (hi : ok i N) (d : decode cc pc = .ok (.iaload, 1)) (hn : pc + 1 = n) (kk : G K X cs sl n S lv (.int (f i.toNatClampNeg) :: st)) : G K X cs sl pc S lv (.int i :: .ref t :: st) := by
  subst hn
  exact fun H locs ls hX hS hls => va_ti F.1 F.2.1 hT hS hi rfl d (kk H locs ls hX hS hls)
theorem c_tldB {σ : Type} {X : σ → Heap → Prop} {S : σ} {Kf : State → Prop} {t N : Nat} {f : Nat → Int32} {i : Int32} (n : Nat) (F : Fx K cc own Kf fr lo) (hT : va_T .byte t N (fun j => .int (f j)) (kA K) (ks K) (ks K).heap) (hi : ok i N) (d : decode cc pc = .ok (.baload, 1)) (hn : pc + 1 = n) (kk : G K X cs sl n S lv (.int (f i.toNatClampNeg) :: st)) : G K X cs sl pc S lv (.int i :: .ref t :: st) := by
  subst hn
  exact fun H locs ls hX hS hls => va_tb F.1 F.2.1 hT hS hi rfl d (kk H locs ls hX hS hls)
theorem c_tlen {σ : Type} {X : σ → Heap → Prop} {S : σ} {Kf : State → Prop} {ty : FieldType} {t N : Nat} {f : Nat → Value} (n : Nat) (F : Fx K cc own Kf fr lo) (hT : va_T ty t N f (kA K) (ks K) (ks K).heap) (d : decode cc pc = .ok (.arraylength, 1)) (hn : pc + 1 = n) (kk : G K X cs sl n S lv (.int (Int32.ofNat N) :: st)) : G K X cs sl pc S lv (.ref t :: st) := by
  subst hn
  exact fun H locs ls hX hS hls => va_tlen F.1 F.2.1 hT hS rfl d (kk H locs ls hX hS hls)
theorem c_kget {σ : Type} {X : σ → Heap → Prop} {S : σ} {Kf : State → Prop} {C nm ds : String} {v : Value} {t : Nat} (n : Nat) (F : Fx K cc own Kf fr lo) (hE : va_OF C nm ds v t (kA K) (ks K) (ks K).heap) (hl : Cond.fieldLink own idx C nm ds ∈ wT) (d : decode cc pc = .ok (.getfield idx, 3)) (hn : pc + 3 = n) (kk : G K X cs sl n S lv (v :: st)) : G K X cs sl pc S lv (.ref t :: st) := by
  subst hn
  exact fun H locs ls hX hS hls => vk_getf F.1 F.2.1 hE hS F.2.2.2.1 (F.2.2.2.2.1 _ hl) (fun _ h9 => h9) d (kk H locs ls hX hS hls)
theorem c_ldcS {i : Nat} (n : Nat) (F : Fx K cc own (cKf B (kA K)) fr lo) (hi : i < 10) (ho : cSo i = own) (hx : cSi i = idx) (d : decode cc pc = .ok (.ldc idx, 2)) (hn : pc + 2 = n) (kk : G K (cX B (kA K) sa h lk) cs sl n S lv (.ref (cK B i) :: st)) : G K (cX B (kA K) sa h lk) cs sl pc S lv st := by
  subst hn; subst ho; subst hx
  exact fun H locs ls hX hS hls => va_ldcS F.1 F.2.1 F.2.2.2.1 (F.2.2.2.2.2.1.2.2.2.2.2.2.1 i hi) d (kk H locs ls hX hS hls)
theorem c_rc_S {i : Nat} (F : Fx K cc own (cKf B (kA K)) fr lo) (hi : i < 10) : Rcv K (cX B (kA K) sa h lk) S (cK B i) RJ0 :=
  fun H locs hX hS => vk_recv F.2.2.2.2.2.1.2.2.2.2.2.1 hi hS
theorem c_min {σ : Type} {X : σ → Heap → Prop} {S : σ} {Kf : State → Prop} {x y : Int32} (n : Nat) (F : Fx K cc own Kf fr lo) (hl : Cond.methodLink own idx yJ9_min_7cf53 ∈ wT) (hfr : 1 ≤ fr) (hlo : (st.map fun v => v.category).sum + 13 ≤ lo) (hcs : cs ≤ (kR K).cells ∧ sl ≤ (kR K).slots) (d : decode cc pc = .ok (.invokestatic idx, 3)) (hn : pc + 3 = n) (kk : G K X cs sl n S lv (.int (if y < x then y else x) :: st)) : G K X cs sl pc S lv (.int y :: .int x :: st) := by
  subst hn
  exact fun H locs ls hX hS hls => va_mmin F.1 F.2.1 (F.2.2.1.trans hls.1.symm) F.2.2.2.1 (F.2.2.2.2.1 _ hl) (F.2.2.2.2.1 _ ws_J9_min_7cf53.2.1) (F.2.2.2.2.1 _ ws_J9_min_7cf53.2.2.1) (F.2.2.2.2.1 _ tc_J9_min_7cf53) (Nat.le_trans hfr F.2.2.2.2.2.2.2.1) (Nat.le_trans hlo F.2.2.2.2.2.2.2.2) hcs.1 hcs.2 d (kk H locs ls hX hS hls)
theorem c_copy {m0 m1 N : Nat} {f g : Nat → Int32} {v : Int32} {S' : CS} (n : Nat) (F : Fx K cc own (cKf B (kA K)) fr lo) (hl : Cond.methodLink own idx arraycopyName ∈ wT) (hm0 : m0 ∈ cNm h) (hc0 : cCell B sa h lk S m0 = .inl (B.2.1 0, N, .inl f)) (hm1 : m1 ∈ cNm h) (hc1 : cCell B sa h lk S m1 = .inl (B.2.1 0, N, .inl g)) (hv : ¬ v < 0) (hvN : v.toNatClampNeg = N) (hc' : cCell B sa h lk S' m1 = .inl (B.2.1 0, N, .inl (va_cpy f g 0 0 N))) (ho : ∀ n, n ≠ m1 → cCell B sa h lk S' n = cCell B sa h lk S n) (hfr : 1 ≤ fr) (hlo : (st.map fun v => v.category).sum + (nativeFrameWords "java/lang/System" "arraycopy" 5 + 11) ≤ lo) (d : decode cc pc = .ok (.invokestatic idx, 3)) (hn : pc + 3 = n) (kk : G K (cX B (kA K) sa h lk) cs sl n S' lv st) : G K (cX B (kA K) sa h lk) cs sl pc S lv (.int v :: .int 0 :: .ref (cAd B sa m1) :: .int 0 :: .ref (cAd B sa m0) :: st) := by
  subst hn
  intro H locs ls hX hS hls
  obtain ⟨p0, hp0, hq0⟩ := nW_get (ad := cAd B sa) (cf := cCell B sa h lk S) hm0
  obtain ⟨p1, hp1, hq1⟩ := nW_get (ad := cAd B sa) (cf := cCell B sa h lk S) hm1
  have z : (0 : Int32).toNatClampNeg = 0 := by decide
  refine va_copyi F.1 F.2.1 (F.2.2.1.trans hls.1.symm) F.2.2.2.1 (F.2.2.2.2.1 _ hl) (F.2.2.2.2.1 _ tn_arraycopy) (F.2.2.2.2.1 _ ts_arraycopy) (F.2.2.2.2.1 _ ti_System) F.2.2.2.2.2.1.1 hX.1 hX.2 hS p0 p1 0 0 (hq0.trans (by rw [hc0])) (hq1.trans (by rw [hc1])) rfl rfl rfl (by decide) (by decide) hv (by rw [z, hvN, Nat.zero_add]; exact Nat.le_refl _) (by rw [z, hvN, Nat.zero_add]; exact Nat.le_refl _) (fun _ _ => rfl) (Nat.le_trans hfr F.2.2.2.2.2.2.2.1) (Nat.le_trans hlo F.2.2.2.2.2.2.2.2) d (fun H1 locs1 hP hD hS1 => ?_)
  rw [z, hvN] at hP hD
  rw [nW_set hX.2 hp1 hc' ho] at hP hD
  exact kk H1 locs1 ls ⟨hP, hD⟩ hS1 hls
theorem c_cpS {r0 r1 : Nat} (n : Nat) (F : Fx K cc own (cKf B (kA K)) fr lo) (hl : Cond.methodLink own idx arraycopyName ∈ wT) (h0 : r0 < 2) (h1 : r1 < 2) (hfr : 1 ≤ fr) (hlo : (st.map fun v => v.category).sum + (nativeFrameWords "java/lang/System" "arraycopy" 5 + 11) ≤ lo) (d : decode cc pc = .ok (.invokestatic idx, 3)) (hn : pc + 3 = n) (kk : G K (cX B (kA K) sa h lk) cs sl n (sAw S r1 (va_cpy (cA S r0) (cA S r1) 0 0 6)) lv st) : G K (cX B (kA K) sa h lk) cs sl pc S lv (.int 6 :: .int 0 :: .ref (cAf B (3 + r1)) :: .int 0 :: .ref (cAf B (3 + r0)) :: st) := by
  rw [← cAd_fix (B := B) (sa := sa) (show 3 + r0 < 16 by omega), ← cAd_fix (B := B) (sa := sa) (show 3 + r1 < 16 by omega)]
  exact c_copy n F hl (cNm_fix (by omega)) (cCell_set h0) (cNm_fix (by omega)) (cCell_set h1) (by decide) (by decide) ((cCell_set h1).trans (by rw [cA_sAw_self])) (fr_As h1 _) hfr hlo d hn kk
theorem c_cpQ (c N : Nat) {v : Int32} {j0 j1 : Nat} (n : Nat) (F : Fx K cc own (cKf B (kA K)) fr lo) (hl : Cond.methodLink own idx arraycopyName ∈ wT) (hw : cWf h lk) (h0 : h j0 = true) (h1 : h j1 = true) (hc : c < 4) (hN : (if c + 1 = 4 then 1100 else 60) = N) (hv : ¬ v < 0) (hvN : v.toNatClampNeg = N) (hfr : 1 ≤ fr) (hlo : (st.map fun v => v.category).sum + (nativeFrameWords "java/lang/System" "arraycopy" 5 + 11) ≤ lo) (d : decode cc pc = .ok (.invokestatic idx, 3)) (hn : pc + 3 = n) (kk : G K (cX B (kA K) sa h lk) cs sl n (sQw S j1 c (va_cpy (cQ S j0 c) (cQ S j1 c) 0 0 N)) lv st) : G K (cX B (kA K) sa h lk) cs sl pc S lv (.int v :: .int 0 :: .ref (sa (5 * j1 + (c + 1))) :: .int 0 :: .ref (sa (5 * j0 + (c + 1))) :: st) := by
  subst hN
  rw [← cAd_sp (B := B) (sa := sa) j0 (c + 1), ← cAd_sp (B := B) (sa := sa) j1 (c + 1)]
  exact c_copy n F hl (cNm_sp h0 (hw.2.2 j0 h0) (by omega)) (cCell_Q hc) (cNm_sp h1 (hw.2.2 j1 h1) (by omega)) (cCell_Q hc) hv hvN ((cCell_Q hc).trans (by rw [cQ_sQw_self])) (fr_Q _) hfr hlo d hn kk
theorem c_lenQ3 {j : Nat} (n : Nat) (F : Fx K cc own (cKf B (kA K)) fr lo) (hw : cWf h lk) (hj : h j = true) (d : decode cc pc = .ok (.arraylength, 1)) (hn : pc + 1 = n) (kk : G K (cX B (kA K) sa h lk) cs sl n S lv (.int 1100 :: st)) : G K (cX B (kA K) sa h lk) cs sl pc S lv (.ref (sa (5 * j + 4)) :: st) := by
  subst hn
  rw [← cAd_sp (B := B) (sa := sa) j 4]
  intro H locs ls hX hS hls
  obtain ⟨p, hp, hq⟩ := nW_get (ad := cAd B sa) (cf := cCell B sa h lk S) (cNm_sp hj (hw.2.2 j hj) (show 4 < 5 by decide))
  exact va_alen F.1 F.2.1 F.2.2.2.2.2.1.1 hX.1 p 0 (hq.trans (by rw [show 16 + 5 * j + 4 = 16 + 5 * j + (3 + 1) from rfl, cCell_Q (by decide)])) rfl (show Int32.ofNat 1100 = 1100 by decide) d (kk H locs ls hX hS hls)
end CRows3
