theorem oC_n {α : Type} (a : α) (f : Nat → α) : oC none a f = a := rfl
theorem slot_e {x y : Int32} : ((10 * x) + y) + 1 = f_X1_slotOf x y := by
  unfold f_X1_slotOf
  rw [Int32.mul_comm 10 x, Int32.add_comm (x * 10 + y) 1, ← Int32.add_assoc]
theorem there_l {h : Nat → Bool} {r : Nat} {S : CS} {T : MS} (hg : RgRel h r S (T.2 1)) {d hh p : Int32} (hd : 0 ≤ d.toInt ∧ d.toInt < 1100) : ∀ (k n n' : Nat) (acc x : Int32), 0 ≤ x.toInt → x.toInt + k = (T.2 1 2).toInt → k < n → k < n' → ∃ v, l_X0_bitsOfThose_22 h r S n d (f_X1_slotOf hh p) acc x = some v ∧ l_X6_thereAt_6 T n' d hh p acc x = some v := by
  have g3 := hg.1.2.2
  have b3 := hg.2.1.2.2
  intro k
  induction k with
  | zero =>
    intro n n' acc x hx hk hn hn'
    obtain ⟨n, rfl⟩ : ∃ z, n = z + 1 := ⟨n - 1, by omega⟩
    obtain ⟨n', rfl⟩ : ∃ z, n' = z + 1 := ⟨n' - 1, by omega⟩
    have c : T.2 1 2 ≤ x := by rw [i32_le]; omega
    refine ⟨acc, ?_, ?_⟩
    · rw [l_X0_bitsOfThose_22, g3, if_pos c]
    · rw [l_X6_thereAt_6, if_pos c]
  | succ k ih =>
    intro n n' acc x hx hk hn hn'
    obtain ⟨n, rfl⟩ : ∃ z, n = z + 1 := ⟨n - 1, by omega⟩
    obtain ⟨n', rfl⟩ : ∃ z, n' = z + 1 := ⟨n' - 1, by omega⟩
    have c : ¬ T.2 1 2 ≤ x := by rw [i32_le]; omega
    have hb := b3.2
    obtain ⟨f1, f2, f3, f4, f5⟩ := find_t hg (a := x) (by omega)
    have hf := filed_e f5 ⟨hx, f3⟩ hd
    rw [l_X0_bitsOfThose_22, g3, if_neg c, f1, Option.bind_some, oC_s, if_pos (ok_t hd), l_X6_thereAt_6, if_neg c, hf.1, Option.bind_some, slot_e]
    have ex := i32_inc (x := x) (by omega)
    by_cases e : cQ S (6 * r + x.toNatClampNeg) 3 d.toNatClampNeg = f_X1_slotOf hh p
    · rw [if_pos e, if_pos e]
      exact ih n n' _ (x + 1) (by omega) (by omega) (by omega) (by omega)
    · have e0 : acc ||| 0 = acc := by simp
      rw [if_neg e, if_neg e, e0]
      exact ih n n' _ (x + 1) (by omega) (by omega) (by omega) (by omega)
theorem Rel_there : P_there Rel := by
  intro h lk S T a1 a2 a3 hr
  have hr0 : Rel h lk S (mS T 0 0) := hr
  have hg : RgRel h lk.1 S ((mS T 0 0).2 1) := hr.2.2.1
  unfold f_X5_there f_X6_there
  generalize mS T 0 0 = U at *
  by_cases cd : 0 ≤ a1.toInt ∧ a1.toInt < 1100
  · obtain ⟨d1, d2, -, -⟩ := fday_t cd
    rw [if_pos d1, if_pos d2]
    have hH : f_X5_canBeFiledHour a2 = f_X6_in a2 5 22 := rfl
    have hP : f_X5_canBePlace a3 = f_X6_in a3 0 9 := by
      unfold f_X5_canBePlace f_X6_in
      by_cases c : a3 < 0
      · rw [if_pos c, if_pos c]
      · rw [if_neg c, if_neg c]
        by_cases c2 : (10 : Int32) ≤ a3
        · rw [if_pos c2, if_pos (by rw [i32_le] at c2; have c2 : (10 : Int) ≤ a3.toInt := c2; rw [i32_lt]; show (9 : Int) < _; omega)]
        · rw [if_neg c2, if_neg (by rw [i32_le] at c2; have c2 : ¬ (10 : Int) ≤ a3.toInt := c2; rw [i32_lt]; show ¬ (9 : Int) < _; omega)]
    rw [hH, hP]
    by_cases c1 : f_X6_in a2 5 22 = true
    · rw [if_pos c1, if_pos c1]
      by_cases c2 : f_X6_in a3 0 9 = true
      · rw [if_pos c2, if_pos c2]
        have b3 := hg.2.1.2.2
        have hb1 := b3.1
        have hb2 := b3.2
        have hfu : fu = 10000 := rfl
        obtain ⟨v, v1, v2⟩ := there_l hg (hh := a2) (p := a3) cd (U.2 1 2).toInt.toNat fu fu 0 0 (by decide) (by show (0 : Int) + _ = _; omega) (by omega) (by omega)
        unfold f_X0_bitsOfThose f_X6_thereAt
        rw [if_pos d1, v1, v2]
        exact ⟨_, _, rfl, rfl, rfl, hr0⟩
      · rw [if_neg c2, if_neg c2]
        exact ⟨_, _, rfl, rfl, rfl, hr0⟩
    · rw [if_neg c1, if_neg c1]
      exact ⟨_, _, rfl, rfl, rfl, hr0⟩
  · obtain ⟨d1, d2⟩ := fday_f cd
    rw [if_neg (by rw [d1]; decide), if_neg (by rw [d2]; decide)]
    exact ⟨_, _, rfl, rfl, rfl, hr0⟩
