/-! THE REFERENCE'S WORLD: its int fields S.1 by slot, its arrays S.2 by slot. -/
abbrev MS : Type := (Nat → Int32) × (Nat → Nat → Int32)
def mS (S : MS) (k : Nat) (v : Int32) : MS := (va_up S.1 k v, S.2)
def mA (S : MS) (k i : Nat) (v : Int32) : MS := (S.1, va_up S.2 k (upd (S.2 k) i v))
def mF (ad : Nat → Nat) (g : Nat → Int32) : List Value := [.int (g 0), .ref (ad 1), .ref (ad 2), .ref (ad 3), .ref (ad 4), .ref (ad 5), .int (g 6), .int (g 7), .int (g 8), .int (g 9), .int (g 10), .int (g 11), .int (g 12), .ref (ad 13), .ref (ad 14), .ref (ad 15), .ref (ad 16), .int (g 17)]
def mW (cI cZ : ClassId) (ad : Nat → Nat) (S : MS) : va_W := [(ad 0, .inr (6, mF ad S.1)), (ad 1, .inl (cI, 7737, .inl (S.2 1))), (ad 2, .inl (cI, 7737, .inl (S.2 2))), (ad 3, .inl (cI, 6, .inl (S.2 3))), (ad 4, .inl (cI, 6, .inl (S.2 4))), (ad 5, .inl (cI, 400, .inl (S.2 5))), (ad 13, .inl (cI, 6, .inl (S.2 13))), (ad 14, .inl (cZ, 61, .inl (S.2 14))), (ad 15, .inl (cZ, 61, .inl (S.2 15))), (ad 16, .inl (cI, 61, .inl (S.2 16)))]
def mX (D : va_G) (cI cZ : ClassId) (A : Nat → Prop) (ad : Nat → Nat) (S : MS) (H : Heap) : Prop := va_P D vwCl (mW cI cZ ad S) H ∧ va_D A (mW cI cZ ad S)
def mKf (D : va_G) (cI cZ : ClassId) (U : State) : Prop := va_K D vwCl [(cI, .int), (cZ, .boolean)] U
theorem mKf_ok (D : va_G) (cI cZ : ClassId) (A : Nat → Prop) : KfOk A (mKf D cI cZ) := ⟨fun U g mk a h => va_K.moved (u := U) (U := U.calling g mk a) (Vm.Alike.refl U.vm) h, fun _ _ _ h hW _ => va_K.moved hW.alike h⟩
section MRows
variable {K : Ctx} {D : va_G} {cI cZ : ClassId} {ad : Nat → Nat} {cs sl pc : Nat} {S : MS} {lv : List (Nat × Value)} {st : List Value} {cc : ByteArray} {fr lo idx : Nat} {α : Type} {a q : α}
theorem m_recv (F : Fx K cc RX6 (mKf D cI cZ) fr lo) : Rcv K (mX D cI cZ (kA K) ad) S (ad 0) RX6 := fun H _ hX _ => va_recv F.2.2.2.2.2.1 hX.1 (ci := 6) (q0 := 0) rfl rfl
theorem m_get_0 (n : Nat) (F : Fx K cc RX6 (mKf D cI cZ) fr lo) (hl : Cond.fieldLink RX6 idx "WhereFoundModel" "raised" "I" ∈ wT) (d : decode cc pc = .ok (.getfield idx, 3)) (hn : pc + 3 = n) (kk : G K (mX D cI cZ (kA K) ad) cs sl n S lv (.int (S.1 0) :: st)) : G K (mX D cI cZ (kA K) ad) cs sl pc S lv (.ref (ad 0) :: st) := by
  subst hn
  exact fun H locs ls hX hS hls => va_get (D := D) (ci := 6) (C := RX6) (T := TX6) (N := 18) F.1 F.2.1 F.2.2.2.2.1 inT6 F.2.2.2.1 F.2.2.2.2.2.1 hX.1 0 rfl rfl 0 (by decide) (F.2.2.2.2.1 _ hl) (fun _ h => h) rfl d (kk H locs ls hX hS hls)
theorem m_get_1 (n : Nat) (F : Fx K cc RX6 (mKf D cI cZ) fr lo) (hl : Cond.fieldLink RX6 idx "WhereFoundModel" "w" "[I" ∈ wT) (d : decode cc pc = .ok (.getfield idx, 3)) (hn : pc + 3 = n) (kk : G K (mX D cI cZ (kA K) ad) cs sl n S lv (.ref (ad 1) :: st)) : G K (mX D cI cZ (kA K) ad) cs sl pc S lv (.ref (ad 0) :: st) := by
  subst hn
  exact fun H locs ls hX hS hls => va_get (D := D) (ci := 6) (C := RX6) (T := TX6) (N := 18) F.1 F.2.1 F.2.2.2.2.1 inT6 F.2.2.2.1 F.2.2.2.2.2.1 hX.1 0 rfl rfl 1 (by decide) (F.2.2.2.2.1 _ hl) (fun _ h => h) rfl d (kk H locs ls hX hS hls)
theorem m_get_2 (n : Nat) (F : Fx K cc RX6 (mKf D cI cZ) fr lo) (hl : Cond.fieldLink RX6 idx "WhereFoundModel" "back" "[I" ∈ wT) (d : decode cc pc = .ok (.getfield idx, 3)) (hn : pc + 3 = n) (kk : G K (mX D cI cZ (kA K) ad) cs sl n S lv (.ref (ad 2) :: st)) : G K (mX D cI cZ (kA K) ad) cs sl pc S lv (.ref (ad 0) :: st) := by
  subst hn
  exact fun H locs ls hX hS hls => va_get (D := D) (ci := 6) (C := RX6) (T := TX6) (N := 18) F.1 F.2.1 F.2.2.2.2.1 inT6 F.2.2.2.1 F.2.2.2.2.2.1 hX.1 0 rfl rfl 2 (by decide) (F.2.2.2.2.1 _ hl) (fun _ h => h) rfl d (kk H locs ls hX hS hls)
theorem m_get_3 (n : Nat) (F : Fx K cc RX6 (mKf D cI cZ) fr lo) (hl : Cond.fieldLink RX6 idx "WhereFoundModel" "lowest" "[I" ∈ wT) (d : decode cc pc = .ok (.getfield idx, 3)) (hn : pc + 3 = n) (kk : G K (mX D cI cZ (kA K) ad) cs sl n S lv (.ref (ad 3) :: st)) : G K (mX D cI cZ (kA K) ad) cs sl pc S lv (.ref (ad 0) :: st) := by
  subst hn
  exact fun H locs ls hX hS hls => va_get (D := D) (ci := 6) (C := RX6) (T := TX6) (N := 18) F.1 F.2.1 F.2.2.2.2.1 inT6 F.2.2.2.1 F.2.2.2.2.2.1 hX.1 0 rfl rfl 3 (by decide) (F.2.2.2.2.1 _ hl) (fun _ h => h) rfl d (kk H locs ls hX hS hls)
theorem m_get_4 (n : Nat) (F : Fx K cc RX6 (mKf D cI cZ) fr lo) (hl : Cond.fieldLink RX6 idx "WhereFoundModel" "highest" "[I" ∈ wT) (d : decode cc pc = .ok (.getfield idx, 3)) (hn : pc + 3 = n) (kk : G K (mX D cI cZ (kA K) ad) cs sl n S lv (.ref (ad 4) :: st)) : G K (mX D cI cZ (kA K) ad) cs sl pc S lv (.ref (ad 0) :: st) := by
  subst hn
  exact fun H locs ls hX hS hls => va_get (D := D) (ci := 6) (C := RX6) (T := TX6) (N := 18) F.1 F.2.1 F.2.2.2.2.1 inT6 F.2.2.2.1 F.2.2.2.2.2.1 hX.1 0 rfl rfl 4 (by decide) (F.2.2.2.2.1 _ hl) (fun _ h => h) rfl d (kk H locs ls hX hS hls)
theorem m_get_5 (n : Nat) (F : Fx K cc RX6 (mKf D cI cZ) fr lo) (hl : Cond.fieldLink RX6 idx "WhereFoundModel" "tape" "[I" ∈ wT) (d : decode cc pc = .ok (.getfield idx, 3)) (hn : pc + 3 = n) (kk : G K (mX D cI cZ (kA K) ad) cs sl n S lv (.ref (ad 5) :: st)) : G K (mX D cI cZ (kA K) ad) cs sl pc S lv (.ref (ad 0) :: st) := by
  subst hn
  exact fun H locs ls hX hS hls => va_get (D := D) (ci := 6) (C := RX6) (T := TX6) (N := 18) F.1 F.2.1 F.2.2.2.2.1 inT6 F.2.2.2.1 F.2.2.2.2.2.1 hX.1 0 rfl rfl 5 (by decide) (F.2.2.2.2.1 _ hl) (fun _ h => h) rfl d (kk H locs ls hX hS hls)
theorem m_get_6 (n : Nat) (F : Fx K cc RX6 (mKf D cI cZ) fr lo) (hl : Cond.fieldLink RX6 idx "WhereFoundModel" "taped" "I" ∈ wT) (d : decode cc pc = .ok (.getfield idx, 3)) (hn : pc + 3 = n) (kk : G K (mX D cI cZ (kA K) ad) cs sl n S lv (.int (S.1 6) :: st)) : G K (mX D cI cZ (kA K) ad) cs sl pc S lv (.ref (ad 0) :: st) := by
  subst hn
  exact fun H locs ls hX hS hls => va_get (D := D) (ci := 6) (C := RX6) (T := TX6) (N := 18) F.1 F.2.1 F.2.2.2.2.1 inT6 F.2.2.2.1 F.2.2.2.2.2.1 hX.1 0 rfl rfl 6 (by decide) (F.2.2.2.2.1 _ hl) (fun _ h => h) rfl d (kk H locs ls hX hS hls)
theorem m_get_7 (n : Nat) (F : Fx K cc RX6 (mKf D cI cZ) fr lo) (hl : Cond.fieldLink RX6 idx "WhereFoundModel" "fault" "I" ∈ wT) (d : decode cc pc = .ok (.getfield idx, 3)) (hn : pc + 3 = n) (kk : G K (mX D cI cZ (kA K) ad) cs sl n S lv (.int (S.1 7) :: st)) : G K (mX D cI cZ (kA K) ad) cs sl pc S lv (.ref (ad 0) :: st) := by
  subst hn
  exact fun H locs ls hX hS hls => va_get (D := D) (ci := 6) (C := RX6) (T := TX6) (N := 18) F.1 F.2.1 F.2.2.2.2.1 inT6 F.2.2.2.1 F.2.2.2.2.2.1 hX.1 0 rfl rfl 7 (by decide) (F.2.2.2.2.1 _ hl) (fun _ h => h) rfl d (kk H locs ls hX hS hls)
theorem m_get_8 (n : Nat) (F : Fx K cc RX6 (mKf D cI cZ) fr lo) (hl : Cond.fieldLink RX6 idx "WhereFoundModel" "spot" "I" ∈ wT) (d : decode cc pc = .ok (.getfield idx, 3)) (hn : pc + 3 = n) (kk : G K (mX D cI cZ (kA K) ad) cs sl n S lv (.int (S.1 8) :: st)) : G K (mX D cI cZ (kA K) ad) cs sl pc S lv (.ref (ad 0) :: st) := by
  subst hn
  exact fun H locs ls hX hS hls => va_get (D := D) (ci := 6) (C := RX6) (T := TX6) (N := 18) F.1 F.2.1 F.2.2.2.2.1 inT6 F.2.2.2.1 F.2.2.2.2.2.1 hX.1 0 rfl rfl 8 (by decide) (F.2.2.2.2.1 _ hl) (fun _ h => h) rfl d (kk H locs ls hX hS hls)
theorem m_get_9 (n : Nat) (F : Fx K cc RX6 (mKf D cI cZ) fr lo) (hl : Cond.fieldLink RX6 idx "WhereFoundModel" "wrong" "I" ∈ wT) (d : decode cc pc = .ok (.getfield idx, 3)) (hn : pc + 3 = n) (kk : G K (mX D cI cZ (kA K) ad) cs sl n S lv (.int (S.1 9) :: st)) : G K (mX D cI cZ (kA K) ad) cs sl pc S lv (.ref (ad 0) :: st) := by
  subst hn
  exact fun H locs ls hX hS hls => va_get (D := D) (ci := 6) (C := RX6) (T := TX6) (N := 18) F.1 F.2.1 F.2.2.2.2.1 inT6 F.2.2.2.1 F.2.2.2.2.2.1 hX.1 0 rfl rfl 9 (by decide) (F.2.2.2.2.1 _ hl) (fun _ h => h) rfl d (kk H locs ls hX hS hls)
theorem m_get_10 (n : Nat) (F : Fx K cc RX6 (mKf D cI cZ) fr lo) (hl : Cond.fieldLink RX6 idx "WhereFoundModel" "value" "I" ∈ wT) (d : decode cc pc = .ok (.getfield idx, 3)) (hn : pc + 3 = n) (kk : G K (mX D cI cZ (kA K) ad) cs sl n S lv (.int (S.1 10) :: st)) : G K (mX D cI cZ (kA K) ad) cs sl pc S lv (.ref (ad 0) :: st) := by
  subst hn
  exact fun H locs ls hX hS hls => va_get (D := D) (ci := 6) (C := RX6) (T := TX6) (N := 18) F.1 F.2.1 F.2.2.2.2.1 inT6 F.2.2.2.1 F.2.2.2.2.2.1 hX.1 0 rfl rfl 10 (by decide) (F.2.2.2.2.1 _ hl) (fun _ h => h) rfl d (kk H locs ls hX hS hls)
theorem m_get_11 (n : Nat) (F : Fx K cc RX6 (mKf D cI cZ) fr lo) (hl : Cond.fieldLink RX6 idx "WhereFoundModel" "place" "I" ∈ wT) (d : decode cc pc = .ok (.getfield idx, 3)) (hn : pc + 3 = n) (kk : G K (mX D cI cZ (kA K) ad) cs sl n S lv (.int (S.1 11) :: st)) : G K (mX D cI cZ (kA K) ad) cs sl pc S lv (.ref (ad 0) :: st) := by
  subst hn
  exact fun H locs ls hX hS hls => va_get (D := D) (ci := 6) (C := RX6) (T := TX6) (N := 18) F.1 F.2.1 F.2.2.2.2.1 inT6 F.2.2.2.1 F.2.2.2.2.2.1 hX.1 0 rfl rfl 11 (by decide) (F.2.2.2.2.1 _ hl) (fun _ h => h) rfl d (kk H locs ls hX hS hls)
theorem m_get_12 (n : Nat) (F : Fx K cc RX6 (mKf D cI cZ) fr lo) (hl : Cond.fieldLink RX6 idx "WhereFoundModel" "statements" "I" ∈ wT) (d : decode cc pc = .ok (.getfield idx, 3)) (hn : pc + 3 = n) (kk : G K (mX D cI cZ (kA K) ad) cs sl n S lv (.int (S.1 12) :: st)) : G K (mX D cI cZ (kA K) ad) cs sl pc S lv (.ref (ad 0) :: st) := by
  subst hn
  exact fun H locs ls hX hS hls => va_get (D := D) (ci := 6) (C := RX6) (T := TX6) (N := 18) F.1 F.2.1 F.2.2.2.2.1 inT6 F.2.2.2.1 F.2.2.2.2.2.1 hX.1 0 rfl rfl 12 (by decide) (F.2.2.2.2.1 _ hl) (fun _ h => h) rfl d (kk H locs ls hX hS hls)
theorem m_get_13 (n : Nat) (F : Fx K cc RX6 (mKf D cI cZ) fr lo) (hl : Cond.fieldLink RX6 idx "WhereFoundModel" "read" "[I" ∈ wT) (d : decode cc pc = .ok (.getfield idx, 3)) (hn : pc + 3 = n) (kk : G K (mX D cI cZ (kA K) ad) cs sl n S lv (.ref (ad 13) :: st)) : G K (mX D cI cZ (kA K) ad) cs sl pc S lv (.ref (ad 0) :: st) := by
  subst hn
  exact fun H locs ls hX hS hls => va_get (D := D) (ci := 6) (C := RX6) (T := TX6) (N := 18) F.1 F.2.1 F.2.2.2.2.1 inT6 F.2.2.2.1 F.2.2.2.2.2.1 hX.1 0 rfl rfl 13 (by decide) (F.2.2.2.2.1 _ hl) (fun _ h => h) rfl d (kk H locs ls hX hS hls)
theorem m_get_14 (n : Nat) (F : Fx K cc RX6 (mKf D cI cZ) fr lo) (hl : Cond.fieldLink RX6 idx "WhereFoundModel" "counts" "[Z" ∈ wT) (d : decode cc pc = .ok (.getfield idx, 3)) (hn : pc + 3 = n) (kk : G K (mX D cI cZ (kA K) ad) cs sl n S lv (.ref (ad 14) :: st)) : G K (mX D cI cZ (kA K) ad) cs sl pc S lv (.ref (ad 0) :: st) := by
  subst hn
  exact fun H locs ls hX hS hls => va_get (D := D) (ci := 6) (C := RX6) (T := TX6) (N := 18) F.1 F.2.1 F.2.2.2.2.1 inT6 F.2.2.2.1 F.2.2.2.2.2.1 hX.1 0 rfl rfl 14 (by decide) (F.2.2.2.2.1 _ hl) (fun _ h => h) rfl d (kk H locs ls hX hS hls)
theorem m_get_15 (n : Nat) (F : Fx K cc RX6 (mKf D cI cZ) fr lo) (hl : Cond.fieldLink RX6 idx "WhereFoundModel" "isOpen" "[Z" ∈ wT) (d : decode cc pc = .ok (.getfield idx, 3)) (hn : pc + 3 = n) (kk : G K (mX D cI cZ (kA K) ad) cs sl n S lv (.ref (ad 15) :: st)) : G K (mX D cI cZ (kA K) ad) cs sl pc S lv (.ref (ad 0) :: st) := by
  subst hn
  exact fun H locs ls hX hS hls => va_get (D := D) (ci := 6) (C := RX6) (T := TX6) (N := 18) F.1 F.2.1 F.2.2.2.2.1 inT6 F.2.2.2.1 F.2.2.2.2.2.1 hX.1 0 rfl rfl 15 (by decide) (F.2.2.2.2.1 _ hl) (fun _ h => h) rfl d (kk H locs ls hX hS hls)
theorem m_get_16 (n : Nat) (F : Fx K cc RX6 (mKf D cI cZ) fr lo) (hl : Cond.fieldLink RX6 idx "WhereFoundModel" "violated" "[I" ∈ wT) (d : decode cc pc = .ok (.getfield idx, 3)) (hn : pc + 3 = n) (kk : G K (mX D cI cZ (kA K) ad) cs sl n S lv (.ref (ad 16) :: st)) : G K (mX D cI cZ (kA K) ad) cs sl pc S lv (.ref (ad 0) :: st) := by
  subst hn
  exact fun H locs ls hX hS hls => va_get (D := D) (ci := 6) (C := RX6) (T := TX6) (N := 18) F.1 F.2.1 F.2.2.2.2.1 inT6 F.2.2.2.1 F.2.2.2.2.2.1 hX.1 0 rfl rfl 16 (by decide) (F.2.2.2.2.1 _ hl) (fun _ h => h) rfl d (kk H locs ls hX hS hls)
theorem m_get_17 (n : Nat) (F : Fx K cc RX6 (mKf D cI cZ) fr lo) (hl : Cond.fieldLink RX6 idx "WhereFoundModel" "violations" "I" ∈ wT) (d : decode cc pc = .ok (.getfield idx, 3)) (hn : pc + 3 = n) (kk : G K (mX D cI cZ (kA K) ad) cs sl n S lv (.int (S.1 17) :: st)) : G K (mX D cI cZ (kA K) ad) cs sl pc S lv (.ref (ad 0) :: st) := by
  subst hn
  exact fun H locs ls hX hS hls => va_get (D := D) (ci := 6) (C := RX6) (T := TX6) (N := 18) F.1 F.2.1 F.2.2.2.2.1 inT6 F.2.2.2.1 F.2.2.2.2.2.1 hX.1 0 rfl rfl 17 (by decide) (F.2.2.2.2.1 _ hl) (fun _ h => h) rfl d (kk H locs ls hX hS hls)
theorem m_put_0 (n : Nat) {v : Int32} (F : Fx K cc RX6 (mKf D cI cZ) fr lo) (hl : Cond.fieldLink RX6 idx "WhereFoundModel" "raised" "I" ∈ wT) (d : decode cc pc = .ok (.putfield idx, 3)) (hn : pc + 3 = n) (kk : G K (mX D cI cZ (kA K) ad) cs sl n (mS S 0 v) lv st) : G K (mX D cI cZ (kA K) ad) cs sl pc S lv (.int v :: .ref (ad 0) :: st) := by
  subst hn
  exact fun H locs ls hX hS hls => va_put (D := D) (ci := 6) (v := .int v) (ty := .int) (C := RX6) (T := TX6) (N := 18) F.1 F.2.1 F.2.2.2.2.1 inT6 tyX6 tyX6_ok nmX6 F.2.2.2.1 F.2.2.2.2.2.1 hX.1 hX.2 hS 0 rfl rfl 0 (by decide) (F.2.2.2.2.1 _ hl) (fun _ h => h) rfl (by decide +kernel) rfl rfl (Nat.le_of_ble_eq_true rfl) d (fun H1 locs1 hP hD hS1 => kk H1 locs1 ls ⟨hP, hD⟩ hS1 hls)
theorem m_put_6 (n : Nat) {v : Int32} (F : Fx K cc RX6 (mKf D cI cZ) fr lo) (hl : Cond.fieldLink RX6 idx "WhereFoundModel" "taped" "I" ∈ wT) (d : decode cc pc = .ok (.putfield idx, 3)) (hn : pc + 3 = n) (kk : G K (mX D cI cZ (kA K) ad) cs sl n (mS S 6 v) lv st) : G K (mX D cI cZ (kA K) ad) cs sl pc S lv (.int v :: .ref (ad 0) :: st) := by
  subst hn
  exact fun H locs ls hX hS hls => va_put (D := D) (ci := 6) (v := .int v) (ty := .int) (C := RX6) (T := TX6) (N := 18) F.1 F.2.1 F.2.2.2.2.1 inT6 tyX6 tyX6_ok nmX6 F.2.2.2.1 F.2.2.2.2.2.1 hX.1 hX.2 hS 0 rfl rfl 6 (by decide) (F.2.2.2.2.1 _ hl) (fun _ h => h) rfl (by decide +kernel) rfl rfl (Nat.le_of_ble_eq_true rfl) d (fun H1 locs1 hP hD hS1 => kk H1 locs1 ls ⟨hP, hD⟩ hS1 hls)
theorem m_put_7 (n : Nat) {v : Int32} (F : Fx K cc RX6 (mKf D cI cZ) fr lo) (hl : Cond.fieldLink RX6 idx "WhereFoundModel" "fault" "I" ∈ wT) (d : decode cc pc = .ok (.putfield idx, 3)) (hn : pc + 3 = n) (kk : G K (mX D cI cZ (kA K) ad) cs sl n (mS S 7 v) lv st) : G K (mX D cI cZ (kA K) ad) cs sl pc S lv (.int v :: .ref (ad 0) :: st) := by
  subst hn
  exact fun H locs ls hX hS hls => va_put (D := D) (ci := 6) (v := .int v) (ty := .int) (C := RX6) (T := TX6) (N := 18) F.1 F.2.1 F.2.2.2.2.1 inT6 tyX6 tyX6_ok nmX6 F.2.2.2.1 F.2.2.2.2.2.1 hX.1 hX.2 hS 0 rfl rfl 7 (by decide) (F.2.2.2.2.1 _ hl) (fun _ h => h) rfl (by decide +kernel) rfl rfl (Nat.le_of_ble_eq_true rfl) d (fun H1 locs1 hP hD hS1 => kk H1 locs1 ls ⟨hP, hD⟩ hS1 hls)
theorem m_put_8 (n : Nat) {v : Int32} (F : Fx K cc RX6 (mKf D cI cZ) fr lo) (hl : Cond.fieldLink RX6 idx "WhereFoundModel" "spot" "I" ∈ wT) (d : decode cc pc = .ok (.putfield idx, 3)) (hn : pc + 3 = n) (kk : G K (mX D cI cZ (kA K) ad) cs sl n (mS S 8 v) lv st) : G K (mX D cI cZ (kA K) ad) cs sl pc S lv (.int v :: .ref (ad 0) :: st) := by
  subst hn
  exact fun H locs ls hX hS hls => va_put (D := D) (ci := 6) (v := .int v) (ty := .int) (C := RX6) (T := TX6) (N := 18) F.1 F.2.1 F.2.2.2.2.1 inT6 tyX6 tyX6_ok nmX6 F.2.2.2.1 F.2.2.2.2.2.1 hX.1 hX.2 hS 0 rfl rfl 8 (by decide) (F.2.2.2.2.1 _ hl) (fun _ h => h) rfl (by decide +kernel) rfl rfl (Nat.le_of_ble_eq_true rfl) d (fun H1 locs1 hP hD hS1 => kk H1 locs1 ls ⟨hP, hD⟩ hS1 hls)
theorem m_put_9 (n : Nat) {v : Int32} (F : Fx K cc RX6 (mKf D cI cZ) fr lo) (hl : Cond.fieldLink RX6 idx "WhereFoundModel" "wrong" "I" ∈ wT) (d : decode cc pc = .ok (.putfield idx, 3)) (hn : pc + 3 = n) (kk : G K (mX D cI cZ (kA K) ad) cs sl n (mS S 9 v) lv st) : G K (mX D cI cZ (kA K) ad) cs sl pc S lv (.int v :: .ref (ad 0) :: st) := by
  subst hn
  exact fun H locs ls hX hS hls => va_put (D := D) (ci := 6) (v := .int v) (ty := .int) (C := RX6) (T := TX6) (N := 18) F.1 F.2.1 F.2.2.2.2.1 inT6 tyX6 tyX6_ok nmX6 F.2.2.2.1 F.2.2.2.2.2.1 hX.1 hX.2 hS 0 rfl rfl 9 (by decide) (F.2.2.2.2.1 _ hl) (fun _ h => h) rfl (by decide +kernel) rfl rfl (Nat.le_of_ble_eq_true rfl) d (fun H1 locs1 hP hD hS1 => kk H1 locs1 ls ⟨hP, hD⟩ hS1 hls)
theorem m_put_10 (n : Nat) {v : Int32} (F : Fx K cc RX6 (mKf D cI cZ) fr lo) (hl : Cond.fieldLink RX6 idx "WhereFoundModel" "value" "I" ∈ wT) (d : decode cc pc = .ok (.putfield idx, 3)) (hn : pc + 3 = n) (kk : G K (mX D cI cZ (kA K) ad) cs sl n (mS S 10 v) lv st) : G K (mX D cI cZ (kA K) ad) cs sl pc S lv (.int v :: .ref (ad 0) :: st) := by
  subst hn
  exact fun H locs ls hX hS hls => va_put (D := D) (ci := 6) (v := .int v) (ty := .int) (C := RX6) (T := TX6) (N := 18) F.1 F.2.1 F.2.2.2.2.1 inT6 tyX6 tyX6_ok nmX6 F.2.2.2.1 F.2.2.2.2.2.1 hX.1 hX.2 hS 0 rfl rfl 10 (by decide) (F.2.2.2.2.1 _ hl) (fun _ h => h) rfl (by decide +kernel) rfl rfl (Nat.le_of_ble_eq_true rfl) d (fun H1 locs1 hP hD hS1 => kk H1 locs1 ls ⟨hP, hD⟩ hS1 hls)
theorem m_put_11 (n : Nat) {v : Int32} (F : Fx K cc RX6 (mKf D cI cZ) fr lo) (hl : Cond.fieldLink RX6 idx "WhereFoundModel" "place" "I" ∈ wT) (d : decode cc pc = .ok (.putfield idx, 3)) (hn : pc + 3 = n) (kk : G K (mX D cI cZ (kA K) ad) cs sl n (mS S 11 v) lv st) : G K (mX D cI cZ (kA K) ad) cs sl pc S lv (.int v :: .ref (ad 0) :: st) := by
  subst hn
  exact fun H locs ls hX hS hls => va_put (D := D) (ci := 6) (v := .int v) (ty := .int) (C := RX6) (T := TX6) (N := 18) F.1 F.2.1 F.2.2.2.2.1 inT6 tyX6 tyX6_ok nmX6 F.2.2.2.1 F.2.2.2.2.2.1 hX.1 hX.2 hS 0 rfl rfl 11 (by decide) (F.2.2.2.2.1 _ hl) (fun _ h => h) rfl (by decide +kernel) rfl rfl (Nat.le_of_ble_eq_true rfl) d (fun H1 locs1 hP hD hS1 => kk H1 locs1 ls ⟨hP, hD⟩ hS1 hls)
theorem m_put_12 (n : Nat) {v : Int32} (F : Fx K cc RX6 (mKf D cI cZ) fr lo) (hl : Cond.fieldLink RX6 idx "WhereFoundModel" "statements" "I" ∈ wT) (d : decode cc pc = .ok (.putfield idx, 3)) (hn : pc + 3 = n) (kk : G K (mX D cI cZ (kA K) ad) cs sl n (mS S 12 v) lv st) : G K (mX D cI cZ (kA K) ad) cs sl pc S lv (.int v :: .ref (ad 0) :: st) := by
  subst hn
  exact fun H locs ls hX hS hls => va_put (D := D) (ci := 6) (v := .int v) (ty := .int) (C := RX6) (T := TX6) (N := 18) F.1 F.2.1 F.2.2.2.2.1 inT6 tyX6 tyX6_ok nmX6 F.2.2.2.1 F.2.2.2.2.2.1 hX.1 hX.2 hS 0 rfl rfl 12 (by decide) (F.2.2.2.2.1 _ hl) (fun _ h => h) rfl (by decide +kernel) rfl rfl (Nat.le_of_ble_eq_true rfl) d (fun H1 locs1 hP hD hS1 => kk H1 locs1 ls ⟨hP, hD⟩ hS1 hls)
theorem m_put_17 (n : Nat) {v : Int32} (F : Fx K cc RX6 (mKf D cI cZ) fr lo) (hl : Cond.fieldLink RX6 idx "WhereFoundModel" "violations" "I" ∈ wT) (d : decode cc pc = .ok (.putfield idx, 3)) (hn : pc + 3 = n) (kk : G K (mX D cI cZ (kA K) ad) cs sl n (mS S 17 v) lv st) : G K (mX D cI cZ (kA K) ad) cs sl pc S lv (.int v :: .ref (ad 0) :: st) := by
  subst hn
  exact fun H locs ls hX hS hls => va_put (D := D) (ci := 6) (v := .int v) (ty := .int) (C := RX6) (T := TX6) (N := 18) F.1 F.2.1 F.2.2.2.2.1 inT6 tyX6 tyX6_ok nmX6 F.2.2.2.1 F.2.2.2.2.2.1 hX.1 hX.2 hS 0 rfl rfl 17 (by decide) (F.2.2.2.2.1 _ hl) (fun _ h => h) rfl (by decide +kernel) rfl rfl (Nat.le_of_ble_eq_true rfl) d (fun H1 locs1 hP hD hS1 => kk H1 locs1 ls ⟨hP, hD⟩ hS1 hls)
theorem m_ld_1 (n : Nat) {i : Int32} (F : Fx K cc RX6 (mKf D cI cZ) fr lo) (hi : ok i 7737) (d : decode cc pc = .ok (.iaload, 1)) (hn : pc + 1 = n) (kk : G K (mX D cI cZ (kA K) ad) cs sl n S lv (.int (S.2 1 i.toNatClampNeg) :: st)) : G K (mX D cI cZ (kA K) ad) cs sl pc S lv (.int i :: .ref (ad 1) :: st) := by
  subst hn
  exact fun H locs ls hX hS hls => va_iald F.1 F.2.1 F.2.2.2.2.2.1 hX.1 1 0 rfl rfl hi d (kk H locs ls hX hS hls)
theorem m_ldK_1 (n j : Nat) {i : Int32} (F : Fx K cc RX6 (mKf D cI cZ) fr lo) (hj : i.toNatClampNeg = j) (hi : ok i 7737) (d : decode cc pc = .ok (.iaload, 1)) (hn : pc + 1 = n) (kk : G K (mX D cI cZ (kA K) ad) cs sl n S lv (.int (S.2 1 j) :: st)) : G K (mX D cI cZ (kA K) ad) cs sl pc S lv (.int i :: .ref (ad 1) :: st) := by
  subst hj
  exact m_ld_1 n F hi d hn kk
theorem m_st_1 (n : Nat) {i v : Int32} (F : Fx K cc RX6 (mKf D cI cZ) fr lo) (hi : ok i 7737) (d : decode cc pc = .ok (.iastore, 1)) (hn : pc + 1 = n) (kk : G K (mX D cI cZ (kA K) ad) cs sl n (mA S 1 i.toNatClampNeg v) lv st) : G K (mX D cI cZ (kA K) ad) cs sl pc S lv (.int v :: .int i :: .ref (ad 1) :: st) := by
  subst hn
  exact fun H locs ls hX hS hls => va_iast F.1 F.2.1 F.2.2.2.2.2.1 hX.1 hX.2 hS 1 0 rfl rfl hi d (fun H1 locs1 hP hD hS1 => kk H1 locs1 ls ⟨hP, hD⟩ hS1 hls)
theorem m_stK_1 (n j : Nat) {i v : Int32} (F : Fx K cc RX6 (mKf D cI cZ) fr lo) (hj : i.toNatClampNeg = j) (hi : ok i 7737) (d : decode cc pc = .ok (.iastore, 1)) (hn : pc + 1 = n) (kk : G K (mX D cI cZ (kA K) ad) cs sl n (mA S 1 j v) lv st) : G K (mX D cI cZ (kA K) ad) cs sl pc S lv (.int v :: .int i :: .ref (ad 1) :: st) := by
  subst hj
  exact m_st_1 n F hi d hn kk
theorem m_ld_2 (n : Nat) {i : Int32} (F : Fx K cc RX6 (mKf D cI cZ) fr lo) (hi : ok i 7737) (d : decode cc pc = .ok (.iaload, 1)) (hn : pc + 1 = n) (kk : G K (mX D cI cZ (kA K) ad) cs sl n S lv (.int (S.2 2 i.toNatClampNeg) :: st)) : G K (mX D cI cZ (kA K) ad) cs sl pc S lv (.int i :: .ref (ad 2) :: st) := by
  subst hn
  exact fun H locs ls hX hS hls => va_iald F.1 F.2.1 F.2.2.2.2.2.1 hX.1 2 0 rfl rfl hi d (kk H locs ls hX hS hls)
theorem m_ldK_2 (n j : Nat) {i : Int32} (F : Fx K cc RX6 (mKf D cI cZ) fr lo) (hj : i.toNatClampNeg = j) (hi : ok i 7737) (d : decode cc pc = .ok (.iaload, 1)) (hn : pc + 1 = n) (kk : G K (mX D cI cZ (kA K) ad) cs sl n S lv (.int (S.2 2 j) :: st)) : G K (mX D cI cZ (kA K) ad) cs sl pc S lv (.int i :: .ref (ad 2) :: st) := by
  subst hj
  exact m_ld_2 n F hi d hn kk
theorem m_st_2 (n : Nat) {i v : Int32} (F : Fx K cc RX6 (mKf D cI cZ) fr lo) (hi : ok i 7737) (d : decode cc pc = .ok (.iastore, 1)) (hn : pc + 1 = n) (kk : G K (mX D cI cZ (kA K) ad) cs sl n (mA S 2 i.toNatClampNeg v) lv st) : G K (mX D cI cZ (kA K) ad) cs sl pc S lv (.int v :: .int i :: .ref (ad 2) :: st) := by
  subst hn
  exact fun H locs ls hX hS hls => va_iast F.1 F.2.1 F.2.2.2.2.2.1 hX.1 hX.2 hS 2 0 rfl rfl hi d (fun H1 locs1 hP hD hS1 => kk H1 locs1 ls ⟨hP, hD⟩ hS1 hls)
theorem m_stK_2 (n j : Nat) {i v : Int32} (F : Fx K cc RX6 (mKf D cI cZ) fr lo) (hj : i.toNatClampNeg = j) (hi : ok i 7737) (d : decode cc pc = .ok (.iastore, 1)) (hn : pc + 1 = n) (kk : G K (mX D cI cZ (kA K) ad) cs sl n (mA S 2 j v) lv st) : G K (mX D cI cZ (kA K) ad) cs sl pc S lv (.int v :: .int i :: .ref (ad 2) :: st) := by
  subst hj
  exact m_st_2 n F hi d hn kk
theorem m_ld_3 (n : Nat) {i : Int32} (F : Fx K cc RX6 (mKf D cI cZ) fr lo) (hi : ok i 6) (d : decode cc pc = .ok (.iaload, 1)) (hn : pc + 1 = n) (kk : G K (mX D cI cZ (kA K) ad) cs sl n S lv (.int (S.2 3 i.toNatClampNeg) :: st)) : G K (mX D cI cZ (kA K) ad) cs sl pc S lv (.int i :: .ref (ad 3) :: st) := by
  subst hn
  exact fun H locs ls hX hS hls => va_iald F.1 F.2.1 F.2.2.2.2.2.1 hX.1 3 0 rfl rfl hi d (kk H locs ls hX hS hls)
theorem m_ldK_3 (n j : Nat) {i : Int32} (F : Fx K cc RX6 (mKf D cI cZ) fr lo) (hj : i.toNatClampNeg = j) (hi : ok i 6) (d : decode cc pc = .ok (.iaload, 1)) (hn : pc + 1 = n) (kk : G K (mX D cI cZ (kA K) ad) cs sl n S lv (.int (S.2 3 j) :: st)) : G K (mX D cI cZ (kA K) ad) cs sl pc S lv (.int i :: .ref (ad 3) :: st) := by
  subst hj
  exact m_ld_3 n F hi d hn kk
theorem m_st_3 (n : Nat) {i v : Int32} (F : Fx K cc RX6 (mKf D cI cZ) fr lo) (hi : ok i 6) (d : decode cc pc = .ok (.iastore, 1)) (hn : pc + 1 = n) (kk : G K (mX D cI cZ (kA K) ad) cs sl n (mA S 3 i.toNatClampNeg v) lv st) : G K (mX D cI cZ (kA K) ad) cs sl pc S lv (.int v :: .int i :: .ref (ad 3) :: st) := by
  subst hn
  exact fun H locs ls hX hS hls => va_iast F.1 F.2.1 F.2.2.2.2.2.1 hX.1 hX.2 hS 3 0 rfl rfl hi d (fun H1 locs1 hP hD hS1 => kk H1 locs1 ls ⟨hP, hD⟩ hS1 hls)
theorem m_stK_3 (n j : Nat) {i v : Int32} (F : Fx K cc RX6 (mKf D cI cZ) fr lo) (hj : i.toNatClampNeg = j) (hi : ok i 6) (d : decode cc pc = .ok (.iastore, 1)) (hn : pc + 1 = n) (kk : G K (mX D cI cZ (kA K) ad) cs sl n (mA S 3 j v) lv st) : G K (mX D cI cZ (kA K) ad) cs sl pc S lv (.int v :: .int i :: .ref (ad 3) :: st) := by
  subst hj
  exact m_st_3 n F hi d hn kk
theorem m_ld_4 (n : Nat) {i : Int32} (F : Fx K cc RX6 (mKf D cI cZ) fr lo) (hi : ok i 6) (d : decode cc pc = .ok (.iaload, 1)) (hn : pc + 1 = n) (kk : G K (mX D cI cZ (kA K) ad) cs sl n S lv (.int (S.2 4 i.toNatClampNeg) :: st)) : G K (mX D cI cZ (kA K) ad) cs sl pc S lv (.int i :: .ref (ad 4) :: st) := by
  subst hn
  exact fun H locs ls hX hS hls => va_iald F.1 F.2.1 F.2.2.2.2.2.1 hX.1 4 0 rfl rfl hi d (kk H locs ls hX hS hls)
theorem m_ldK_4 (n j : Nat) {i : Int32} (F : Fx K cc RX6 (mKf D cI cZ) fr lo) (hj : i.toNatClampNeg = j) (hi : ok i 6) (d : decode cc pc = .ok (.iaload, 1)) (hn : pc + 1 = n) (kk : G K (mX D cI cZ (kA K) ad) cs sl n S lv (.int (S.2 4 j) :: st)) : G K (mX D cI cZ (kA K) ad) cs sl pc S lv (.int i :: .ref (ad 4) :: st) := by
  subst hj
  exact m_ld_4 n F hi d hn kk
theorem m_st_4 (n : Nat) {i v : Int32} (F : Fx K cc RX6 (mKf D cI cZ) fr lo) (hi : ok i 6) (d : decode cc pc = .ok (.iastore, 1)) (hn : pc + 1 = n) (kk : G K (mX D cI cZ (kA K) ad) cs sl n (mA S 4 i.toNatClampNeg v) lv st) : G K (mX D cI cZ (kA K) ad) cs sl pc S lv (.int v :: .int i :: .ref (ad 4) :: st) := by
  subst hn
  exact fun H locs ls hX hS hls => va_iast F.1 F.2.1 F.2.2.2.2.2.1 hX.1 hX.2 hS 4 0 rfl rfl hi d (fun H1 locs1 hP hD hS1 => kk H1 locs1 ls ⟨hP, hD⟩ hS1 hls)
theorem m_stK_4 (n j : Nat) {i v : Int32} (F : Fx K cc RX6 (mKf D cI cZ) fr lo) (hj : i.toNatClampNeg = j) (hi : ok i 6) (d : decode cc pc = .ok (.iastore, 1)) (hn : pc + 1 = n) (kk : G K (mX D cI cZ (kA K) ad) cs sl n (mA S 4 j v) lv st) : G K (mX D cI cZ (kA K) ad) cs sl pc S lv (.int v :: .int i :: .ref (ad 4) :: st) := by
  subst hj
  exact m_st_4 n F hi d hn kk
theorem m_ld_5 (n : Nat) {i : Int32} (F : Fx K cc RX6 (mKf D cI cZ) fr lo) (hi : ok i 400) (d : decode cc pc = .ok (.iaload, 1)) (hn : pc + 1 = n) (kk : G K (mX D cI cZ (kA K) ad) cs sl n S lv (.int (S.2 5 i.toNatClampNeg) :: st)) : G K (mX D cI cZ (kA K) ad) cs sl pc S lv (.int i :: .ref (ad 5) :: st) := by
  subst hn
  exact fun H locs ls hX hS hls => va_iald F.1 F.2.1 F.2.2.2.2.2.1 hX.1 5 0 rfl rfl hi d (kk H locs ls hX hS hls)
theorem m_ldK_5 (n j : Nat) {i : Int32} (F : Fx K cc RX6 (mKf D cI cZ) fr lo) (hj : i.toNatClampNeg = j) (hi : ok i 400) (d : decode cc pc = .ok (.iaload, 1)) (hn : pc + 1 = n) (kk : G K (mX D cI cZ (kA K) ad) cs sl n S lv (.int (S.2 5 j) :: st)) : G K (mX D cI cZ (kA K) ad) cs sl pc S lv (.int i :: .ref (ad 5) :: st) := by
  subst hj
  exact m_ld_5 n F hi d hn kk
theorem m_st_5 (n : Nat) {i v : Int32} (F : Fx K cc RX6 (mKf D cI cZ) fr lo) (hi : ok i 400) (d : decode cc pc = .ok (.iastore, 1)) (hn : pc + 1 = n) (kk : G K (mX D cI cZ (kA K) ad) cs sl n (mA S 5 i.toNatClampNeg v) lv st) : G K (mX D cI cZ (kA K) ad) cs sl pc S lv (.int v :: .int i :: .ref (ad 5) :: st) := by
  subst hn
  exact fun H locs ls hX hS hls => va_iast F.1 F.2.1 F.2.2.2.2.2.1 hX.1 hX.2 hS 5 0 rfl rfl hi d (fun H1 locs1 hP hD hS1 => kk H1 locs1 ls ⟨hP, hD⟩ hS1 hls)
theorem m_stK_5 (n j : Nat) {i v : Int32} (F : Fx K cc RX6 (mKf D cI cZ) fr lo) (hj : i.toNatClampNeg = j) (hi : ok i 400) (d : decode cc pc = .ok (.iastore, 1)) (hn : pc + 1 = n) (kk : G K (mX D cI cZ (kA K) ad) cs sl n (mA S 5 j v) lv st) : G K (mX D cI cZ (kA K) ad) cs sl pc S lv (.int v :: .int i :: .ref (ad 5) :: st) := by
  subst hj
  exact m_st_5 n F hi d hn kk
theorem m_ld_13 (n : Nat) {i : Int32} (F : Fx K cc RX6 (mKf D cI cZ) fr lo) (hi : ok i 6) (d : decode cc pc = .ok (.iaload, 1)) (hn : pc + 1 = n) (kk : G K (mX D cI cZ (kA K) ad) cs sl n S lv (.int (S.2 13 i.toNatClampNeg) :: st)) : G K (mX D cI cZ (kA K) ad) cs sl pc S lv (.int i :: .ref (ad 13) :: st) := by
  subst hn
  exact fun H locs ls hX hS hls => va_iald F.1 F.2.1 F.2.2.2.2.2.1 hX.1 6 0 rfl rfl hi d (kk H locs ls hX hS hls)
theorem m_ldK_13 (n j : Nat) {i : Int32} (F : Fx K cc RX6 (mKf D cI cZ) fr lo) (hj : i.toNatClampNeg = j) (hi : ok i 6) (d : decode cc pc = .ok (.iaload, 1)) (hn : pc + 1 = n) (kk : G K (mX D cI cZ (kA K) ad) cs sl n S lv (.int (S.2 13 j) :: st)) : G K (mX D cI cZ (kA K) ad) cs sl pc S lv (.int i :: .ref (ad 13) :: st) := by
  subst hj
  exact m_ld_13 n F hi d hn kk
theorem m_st_13 (n : Nat) {i v : Int32} (F : Fx K cc RX6 (mKf D cI cZ) fr lo) (hi : ok i 6) (d : decode cc pc = .ok (.iastore, 1)) (hn : pc + 1 = n) (kk : G K (mX D cI cZ (kA K) ad) cs sl n (mA S 13 i.toNatClampNeg v) lv st) : G K (mX D cI cZ (kA K) ad) cs sl pc S lv (.int v :: .int i :: .ref (ad 13) :: st) := by
  subst hn
  exact fun H locs ls hX hS hls => va_iast F.1 F.2.1 F.2.2.2.2.2.1 hX.1 hX.2 hS 6 0 rfl rfl hi d (fun H1 locs1 hP hD hS1 => kk H1 locs1 ls ⟨hP, hD⟩ hS1 hls)
theorem m_stK_13 (n j : Nat) {i v : Int32} (F : Fx K cc RX6 (mKf D cI cZ) fr lo) (hj : i.toNatClampNeg = j) (hi : ok i 6) (d : decode cc pc = .ok (.iastore, 1)) (hn : pc + 1 = n) (kk : G K (mX D cI cZ (kA K) ad) cs sl n (mA S 13 j v) lv st) : G K (mX D cI cZ (kA K) ad) cs sl pc S lv (.int v :: .int i :: .ref (ad 13) :: st) := by
  subst hj
  exact m_st_13 n F hi d hn kk
theorem m_ld_14 (n : Nat) {i : Int32} (F : Fx K cc RX6 (mKf D cI cZ) fr lo) (hi : ok i 61) (d : decode cc pc = .ok (.baload, 1)) (hn : pc + 1 = n) (kk : G K (mX D cI cZ (kA K) ad) cs sl n S lv (.int (S.2 14 i.toNatClampNeg) :: st)) : G K (mX D cI cZ (kA K) ad) cs sl pc S lv (.int i :: .ref (ad 14) :: st) := by
  subst hn
  exact fun H locs ls hX hS hls => va_zald F.1 F.2.1 F.2.2.2.2.2.1 hX.1 7 1 rfl rfl hi d (kk H locs ls hX hS hls)
theorem m_ldK_14 (n j : Nat) {i : Int32} (F : Fx K cc RX6 (mKf D cI cZ) fr lo) (hj : i.toNatClampNeg = j) (hi : ok i 61) (d : decode cc pc = .ok (.baload, 1)) (hn : pc + 1 = n) (kk : G K (mX D cI cZ (kA K) ad) cs sl n S lv (.int (S.2 14 j) :: st)) : G K (mX D cI cZ (kA K) ad) cs sl pc S lv (.int i :: .ref (ad 14) :: st) := by
  subst hj
  exact m_ld_14 n F hi d hn kk
theorem m_st_14 (n : Nat) {i v : Int32} (F : Fx K cc RX6 (mKf D cI cZ) fr lo) (hi : ok i 61) (d : decode cc pc = .ok (.bastore, 1)) (hn : pc + 1 = n) (kk : G K (mX D cI cZ (kA K) ad) cs sl n (mA S 14 i.toNatClampNeg (vp_nar .boolean v)) lv st) : G K (mX D cI cZ (kA K) ad) cs sl pc S lv (.int v :: .int i :: .ref (ad 14) :: st) := by
  subst hn
  exact fun H locs ls hX hS hls => va_zast F.1 F.2.1 F.2.2.2.2.2.1 hX.1 hX.2 hS 7 1 rfl rfl hi d (fun H1 locs1 hP hD hS1 => kk H1 locs1 ls ⟨hP, hD⟩ hS1 hls)
theorem m_stK_14 (n j : Nat) {i v : Int32} (F : Fx K cc RX6 (mKf D cI cZ) fr lo) (hj : i.toNatClampNeg = j) (hi : ok i 61) (d : decode cc pc = .ok (.bastore, 1)) (hn : pc + 1 = n) (kk : G K (mX D cI cZ (kA K) ad) cs sl n (mA S 14 j (vp_nar .boolean v)) lv st) : G K (mX D cI cZ (kA K) ad) cs sl pc S lv (.int v :: .int i :: .ref (ad 14) :: st) := by
  subst hj
  exact m_st_14 n F hi d hn kk
theorem m_ld_15 (n : Nat) {i : Int32} (F : Fx K cc RX6 (mKf D cI cZ) fr lo) (hi : ok i 61) (d : decode cc pc = .ok (.baload, 1)) (hn : pc + 1 = n) (kk : G K (mX D cI cZ (kA K) ad) cs sl n S lv (.int (S.2 15 i.toNatClampNeg) :: st)) : G K (mX D cI cZ (kA K) ad) cs sl pc S lv (.int i :: .ref (ad 15) :: st) := by
  subst hn
  exact fun H locs ls hX hS hls => va_zald F.1 F.2.1 F.2.2.2.2.2.1 hX.1 8 1 rfl rfl hi d (kk H locs ls hX hS hls)
theorem m_ldK_15 (n j : Nat) {i : Int32} (F : Fx K cc RX6 (mKf D cI cZ) fr lo) (hj : i.toNatClampNeg = j) (hi : ok i 61) (d : decode cc pc = .ok (.baload, 1)) (hn : pc + 1 = n) (kk : G K (mX D cI cZ (kA K) ad) cs sl n S lv (.int (S.2 15 j) :: st)) : G K (mX D cI cZ (kA K) ad) cs sl pc S lv (.int i :: .ref (ad 15) :: st) := by
  subst hj
  exact m_ld_15 n F hi d hn kk
theorem m_st_15 (n : Nat) {i v : Int32} (F : Fx K cc RX6 (mKf D cI cZ) fr lo) (hi : ok i 61) (d : decode cc pc = .ok (.bastore, 1)) (hn : pc + 1 = n) (kk : G K (mX D cI cZ (kA K) ad) cs sl n (mA S 15 i.toNatClampNeg (vp_nar .boolean v)) lv st) : G K (mX D cI cZ (kA K) ad) cs sl pc S lv (.int v :: .int i :: .ref (ad 15) :: st) := by
  subst hn
  exact fun H locs ls hX hS hls => va_zast F.1 F.2.1 F.2.2.2.2.2.1 hX.1 hX.2 hS 8 1 rfl rfl hi d (fun H1 locs1 hP hD hS1 => kk H1 locs1 ls ⟨hP, hD⟩ hS1 hls)
theorem m_stK_15 (n j : Nat) {i v : Int32} (F : Fx K cc RX6 (mKf D cI cZ) fr lo) (hj : i.toNatClampNeg = j) (hi : ok i 61) (d : decode cc pc = .ok (.bastore, 1)) (hn : pc + 1 = n) (kk : G K (mX D cI cZ (kA K) ad) cs sl n (mA S 15 j (vp_nar .boolean v)) lv st) : G K (mX D cI cZ (kA K) ad) cs sl pc S lv (.int v :: .int i :: .ref (ad 15) :: st) := by
  subst hj
  exact m_st_15 n F hi d hn kk
theorem m_ld_16 (n : Nat) {i : Int32} (F : Fx K cc RX6 (mKf D cI cZ) fr lo) (hi : ok i 61) (d : decode cc pc = .ok (.iaload, 1)) (hn : pc + 1 = n) (kk : G K (mX D cI cZ (kA K) ad) cs sl n S lv (.int (S.2 16 i.toNatClampNeg) :: st)) : G K (mX D cI cZ (kA K) ad) cs sl pc S lv (.int i :: .ref (ad 16) :: st) := by
  subst hn
  exact fun H locs ls hX hS hls => va_iald F.1 F.2.1 F.2.2.2.2.2.1 hX.1 9 0 rfl rfl hi d (kk H locs ls hX hS hls)
theorem m_ldK_16 (n j : Nat) {i : Int32} (F : Fx K cc RX6 (mKf D cI cZ) fr lo) (hj : i.toNatClampNeg = j) (hi : ok i 61) (d : decode cc pc = .ok (.iaload, 1)) (hn : pc + 1 = n) (kk : G K (mX D cI cZ (kA K) ad) cs sl n S lv (.int (S.2 16 j) :: st)) : G K (mX D cI cZ (kA K) ad) cs sl pc S lv (.int i :: .ref (ad 16) :: st) := by
  subst hj
  exact m_ld_16 n F hi d hn kk
theorem m_st_16 (n : Nat) {i v : Int32} (F : Fx K cc RX6 (mKf D cI cZ) fr lo) (hi : ok i 61) (d : decode cc pc = .ok (.iastore, 1)) (hn : pc + 1 = n) (kk : G K (mX D cI cZ (kA K) ad) cs sl n (mA S 16 i.toNatClampNeg v) lv st) : G K (mX D cI cZ (kA K) ad) cs sl pc S lv (.int v :: .int i :: .ref (ad 16) :: st) := by
  subst hn
  exact fun H locs ls hX hS hls => va_iast F.1 F.2.1 F.2.2.2.2.2.1 hX.1 hX.2 hS 9 0 rfl rfl hi d (fun H1 locs1 hP hD hS1 => kk H1 locs1 ls ⟨hP, hD⟩ hS1 hls)
theorem m_stK_16 (n j : Nat) {i v : Int32} (F : Fx K cc RX6 (mKf D cI cZ) fr lo) (hj : i.toNatClampNeg = j) (hi : ok i 61) (d : decode cc pc = .ok (.iastore, 1)) (hn : pc + 1 = n) (kk : G K (mX D cI cZ (kA K) ad) cs sl n (mA S 16 j v) lv st) : G K (mX D cI cZ (kA K) ad) cs sl pc S lv (.int v :: .int i :: .ref (ad 16) :: st) := by
  subst hj
  exact m_st_16 n F hi d hn kk
end MRows
