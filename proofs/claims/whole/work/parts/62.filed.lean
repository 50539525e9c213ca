theorem find_t {h : Nat → Bool} {r : Nat} {S : CS} {T : MS} (hr : RgRel h r S (T.2 1)) {a : Int32} (ha : 0 ≤ a.toInt ∧ a.toInt < (T.2 1 2).toInt) : f_X0_find h S r a = some (some (6 * r + a.toNatClampNeg)) ∧ f_X6_isAthlete T a = true ∧ a.toInt < 6 ∧ h (6 * r + a.toNatClampNeg) = true ∧ SpRel S (6 * r + a.toNatClampNeg) (T.2 1) (9 + 1288 * a.toNatClampNeg) := by
  obtain ⟨⟨-, -, g3⟩, ⟨-, -, b3⟩, -, g4⟩ := hr
  have hb := b3.2
  have hi : a.toNatClampNeg < (T.2 1 2).toNatClampNeg := by rw [i32_nc, i32_nc]; omega
  obtain ⟨h1, h2⟩ := g4 _ hi
  refine ⟨?_, ?_, by omega, h1, h2⟩
  · unfold f_X0_find
    rw [if_neg (by rw [i32_lt]; show ¬ _ < (0 : Int); omega), g3, if_neg (by rw [i32_le]; omega), if_pos (by rw [i32_lt]; show _ < (6 : Int); omega), if_pos (ok_t (by omega))]
    unfold hN
    rw [if_pos h1]
  · unfold f_X6_isAthlete
    refine in_t ⟨ha.1, ?_⟩
    rw [i32_subI (by show _ ≤ _ - (1 : Int) ∧ _ - (1 : Int) ≤ _; omega)]
    show _ ≤ _ - (1 : Int)
    omega
theorem find_f {h : Nat → Bool} {r : Nat} {S : CS} {T : MS} (hr : RgRel h r S (T.2 1)) {a : Int32} (ha : ¬ (0 ≤ a.toInt ∧ a.toInt < (T.2 1 2).toInt)) : f_X0_find h S r a = some none ∧ f_X6_isAthlete T a = false := by
  obtain ⟨⟨-, -, g3⟩, ⟨-, -, b3⟩, -, -⟩ := hr
  have hb := b3.2
  have hb1 := b3.1
  constructor
  · unfold f_X0_find
    by_cases c : a < 0
    · rw [if_pos c]
    · rw [if_neg c, g3, if_pos (by rw [i32_lt] at c; have c : ¬ a.toInt < 0 := c; rw [i32_le]; omega)]
  · unfold f_X6_isAthlete
    refine in_f ?_
    rw [i32_subI (by show _ ≤ _ - (1 : Int) ∧ _ - (1 : Int) ≤ _; omega)]
    show ¬ ((0 : Int) ≤ _ ∧ _ ≤ _ - (1 : Int))
    omega
theorem cell_e {a k : Int32} (ha : 0 ≤ a.toInt ∧ a.toInt < 6) (hk : 0 ≤ k.toInt ∧ k.toInt < 1288) : (f_X6_cell a k).toInt = 9 + 1288 * a.toInt + k.toInt ∧ ok (f_X6_cell a k) 7737 ∧ (f_X6_cell a k).toNatClampNeg = 9 + 1288 * a.toNatClampNeg + k.toNatClampNeg := by
  have e0 : (1288 * a : Int32).toInt = 1288 * a.toInt := by
    rw [Int32.toInt_mul, show (1288 : Int32).toInt = 1288 from rfl, Int.bmod_eq_of_le (by omega) (by omega)]
  have e1 : (9 + 1288 * a : Int32).toInt = 9 + 1288 * a.toInt := by
    rw [i32_addI (by rw [e0]; show _ ≤ (9 : Int) + _ ∧ (9 : Int) + _ ≤ _; omega), e0]
    rfl
  have e2 : (f_X6_cell a k).toInt = 9 + 1288 * a.toInt + k.toInt := by
    unfold f_X6_cell
    rw [i32_addI (by rw [e1]; omega), e1]
  exact ⟨e2, ok_t (by omega), by rw [i32_nc, i32_nc, i32_nc]; omega⟩
theorem its_e {T : MS} {a k : Int32} (ha : 0 ≤ a.toInt ∧ a.toInt < 6) (hk : 0 ≤ k.toInt ∧ k.toInt < 1288) : f_X6_its T a k = some (T.2 1 (9 + 1288 * a.toNatClampNeg + k.toNatClampNeg)) := by
  obtain ⟨-, h2, h3⟩ := cell_e ha hk
  unfold f_X6_its
  rw [if_pos h2, h3]
theorem fday_t {a : Int32} (h : 0 ≤ a.toInt ∧ a.toInt < 1100) : f_X5_canBeFiledDay a = true ∧ f_X6_isDay a = true ∧ (188 + a).toInt = 188 + a.toInt ∧ (188 + a).toNatClampNeg = 188 + a.toNatClampNeg := by
  have e : (188 + a).toInt = 188 + a.toInt := i32_addI (by show _ ≤ (188 : Int) + _ ∧ (188 : Int) + _ ≤ _; omega)
  refine ⟨?_, in_t ⟨h.1, by show _ ≤ (1099 : Int); omega⟩, e, by rw [i32_nc, i32_nc]; omega⟩
  unfold f_X5_canBeFiledDay
  rw [if_neg (by rw [i32_lt]; show ¬ _ < (0 : Int); omega), if_neg (by rw [i32_le]; show ¬ (1100 : Int) ≤ _; omega)]
theorem fday_f {a : Int32} (h : ¬ (0 ≤ a.toInt ∧ a.toInt < 1100)) : f_X5_canBeFiledDay a = false ∧ f_X6_isDay a = false := by
  refine ⟨?_, in_f (by show ¬ ((0 : Int) ≤ _ ∧ _ ≤ (1099 : Int)); omega)⟩
  unfold f_X5_canBeFiledDay
  by_cases c : a < 0
  · rw [if_pos c]
  · rw [if_neg c, if_pos (by rw [i32_lt] at c; have c : ¬ a.toInt < 0 := c; rw [i32_le]; show (1100 : Int) ≤ _; omega)]
/-- what is filed for a day, on both sides -/
theorem filed_e {S : CS} {T : MS} {j : Nat} {a d : Int32} (hs : SpRel S j (T.2 1) (9 + 1288 * a.toNatClampNeg)) (ha : 0 ≤ a.toInt ∧ a.toInt < 6) (hd : 0 ≤ d.toInt ∧ d.toInt < 1100) : f_X6_its T a (188 + d) = some (cQ S j 3 d.toNatClampNeg) ∧ (cQ S j 3 d.toNatClampNeg = 0 ∨ bt (cQ S j 3 d.toNatClampNeg) 51 230) := by
  obtain ⟨-, -, e1, e2⟩ := fday_t hd
  have h1 := hs.2.2.2 d.toNatClampNeg (by rw [i32_nc]; omega)
  rw [its_e ha (by omega), e2, ← Nat.add_assoc, ← h1.1]
  refine ⟨rfl, ?_⟩
  rw [h1.1]
  exact h1.2
theorem isFiled_e {S : CS} {T : MS} {j : Nat} {a d : Int32} (hs : SpRel S j (T.2 1) (9 + 1288 * a.toNatClampNeg)) (ha : 0 ≤ a.toInt ∧ a.toInt < 6) (hd : 0 ≤ d.toInt ∧ d.toInt < 1100) : f_X6_isFiled T a d = some (!(cQ S j 3 d.toNatClampNeg == 0)) := by
  obtain ⟨h1, h2⟩ := filed_e hs ha hd
  unfold f_X6_isFiled
  rw [h1, Option.bind_some]
  rcases h2 with h2 | h2
  · rw [h2]; rfl
  · have hn : ¬ cQ S j 3 d.toNatClampNeg ≤ 0 := by rw [i32_le]; show ¬ _ ≤ (0 : Int); have := h2.1; omega
    have hz : (cQ S j 3 d.toNatClampNeg == 0) = false := by
      rw [beq_eq_false_iff_ne]
      intro e
      rw [e] at hn
      exact hn (by decide)
    rw [if_neg hn, hz]
    rfl
theorem Rel_filed : P_filed Rel := by
  intro h lk S T a1 a2 a3 hr
  have hr0 : Rel h lk S (mS T 0 0) := hr
  have hg : RgRel h lk.1 S ((mS T 0 0).2 1) := hr.2.2.1
  unfold f_X5_filed f_X6_filed
  by_cases ca : 0 ≤ a1.toInt ∧ a1.toInt < ((mS T 0 0).2 1 2).toInt
  · obtain ⟨f1, f2, f3, f4, f5⟩ := find_t hg ca
    rw [f1, f2, if_pos rfl]
    simp only [Option.bind_some]
    show ∃ q q', (if f_X5_canBeFiledDay a2 = true then _ else _) = some q ∧ _
    by_cases cd : 0 ≤ a2.toInt ∧ a2.toInt < 1100
    · obtain ⟨d1, d2, d3, d4⟩ := fday_t cd
      have hf := filed_e f5 ⟨ca.1, f3⟩ cd
      have hF := isFiled_e f5 ⟨ca.1, f3⟩ cd
      rw [if_pos d1, if_pos d2, if_pos (ok_t cd), hF]
      unfold f_X6_hourOf f_X6_placeOf
      rw [hf.1]
      simp only [Option.bind_some]
      by_cases z : cQ S (6 * lk.1 + a1.toNatClampNeg) 3 a2.toNatClampNeg = 0
      · rw [if_pos z, z]
        refine ⟨-1, (-1, mS T 0 0), rfl, ?_, rfl, hr0⟩
        by_cases c3 : f_X6_in a3 0 1 = true
        · rw [if_pos c3]; rfl
        · rw [if_neg c3]
      · have zb : (!(cQ S (6 * lk.1 + a1.toNatClampNeg) 3 a2.toNatClampNeg == 0)) = true := by
          rw [Bool.not_eq_true', beq_eq_false_iff_ne]; exact z
        rw [if_neg z, if_pos zb]
        by_cases c0 : a3 = 0
        · subst c0
          rw [if_pos rfl, if_pos rfl, if_pos (by decide)]
          exact ⟨_, _, rfl, rfl, rfl, hr0⟩
        · rw [if_neg c0, if_neg c0]
          by_cases c1 : a3 = 1
          · subst c1
            rw [if_pos rfl, if_pos (by decide)]
            exact ⟨_, _, rfl, rfl, rfl, hr0⟩
          · have ni : ¬ f_X6_in a3 0 1 = true := by
              rw [in_f]
              · decide
              · intro hh
                have hh : (0 : Int) ≤ a3.toInt ∧ a3.toInt ≤ (1 : Int) := hh
                rcases (by omega : a3.toInt = 0 ∨ a3.toInt = 1) with e | e
                · exact c0 (i32_ext e)
                · exact c1 (i32_ext e)
            rw [if_neg c1, if_neg ni]
            exact ⟨_, _, rfl, rfl, rfl, hr0⟩
    · obtain ⟨d1, d2⟩ := fday_f cd
      rw [if_neg (by rw [d1]; decide), if_neg (by rw [d2]; decide)]
      exact ⟨_, _, rfl, rfl, rfl, hr0⟩
  · obtain ⟨f1, f2⟩ := find_f hg ca
    rw [f1, f2, if_neg (by decide)]
    exact ⟨-1, (-1, mS T 0 0), rfl, rfl, rfl, hr0⟩
