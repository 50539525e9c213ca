/-- the loops' fuel in the pure functions -/
def fu : Nat := 10000
theorem lt_kn {K : Ctx} {m j : Nat} (hn : kn K = m) (h : j < m) : j < kn K := hn ▸ h
theorem op_if {c : Prop} [Decidable c] {α : Type} {a b q : α} (h : (if c then a else b) = q) : (c ∧ a = q) ∨ (¬ c ∧ b = q) := by
  by_cases hc : c
  · rw [if_pos hc] at h; exact Or.inl ⟨hc, h⟩
  · rw [if_neg hc] at h; exact Or.inr ⟨hc, h⟩
theorem g_tab {σ : Type} {K : Ctx} {X : σ → Heap → Prop} {cs sl pc : Nat} {S : σ} {lv : List (Nat × Value)} {st : List Value} {cc : ByteArray} {own : String} {Kf : State → Prop} {fr lo : Nat} {dflt l h off : Int} {offs : Array Int} {len : Nat} {x : Int32} (v : Int32) (t : Nat) (F : Fx K cc own Kf fr lo) (d : decode cc pc = .ok (.tableswitch dflt l h offs, len)) (hx : x = v) (h1 : ¬ v.toInt < l) (h2 : ¬ h < v.toInt) (ho : offs[(v.toInt - l).toNat]? = some off) (ht : (pc : Int) + off = (t : Int)) (kk : G K X cs sl t S lv st) : G K X cs sl pc S lv (.int x :: st) := by
  subst hx; exact fun H locs ls hX hS hl => lv_tableIn F.1 F.2.1 d h1 h2 ho ht (kk H locs ls hX hS hl)
theorem g_tabD {σ : Type} {K : Ctx} {X : σ → Heap → Prop} {cs sl pc : Nat} {S : σ} {lv : List (Nat × Value)} {st : List Value} {cc : ByteArray} {own : String} {Kf : State → Prop} {fr lo : Nat} {dflt l h : Int} {offs : Array Int} {len : Nat} {x : Int32} (t : Nat) (F : Fx K cc own Kf fr lo) (d : decode cc pc = .ok (.tableswitch dflt l h offs, len)) (hx : x.toInt < l ∨ h < x.toInt) (ht : (pc : Int) + dflt = (t : Int)) (kk : G K X cs sl t S lv st) : G K X cs sl pc S lv (.int x :: st) :=
  fun H locs ls hX hS hl => lv_tableOut F.1 F.2.1 d hx ht (kk H locs ls hX hS hl)
