theorem gap_e {S : CS} {T : MS} {j : Nat} {a m : Int32} (hs : SpRel S j (T.2 1) (9 + 1288 * a.toNatClampNeg)) (ha : 0 ≤ a.toInt ∧ a.toInt < 6) (hm : 0 ≤ m.toInt ∧ m.toInt ≤ 35) {x2 : Int32} (h2 : x2.toInt = 30 * m.toInt) : ∀ (k n n' : Nat) (x : Int32), 30 * m.toInt ≤ x.toInt → x.toInt + k = 30 * m.toInt + 30 → k < n → k < n' → ∃ v, l_X1_firstGap_19 j S n x2 x = some v ∧ l_X6_holeOf_5 T n' a m x = some v := by
  have e30 : (30 * m + 30 : Int32).toInt = 30 * m.toInt + 30 := by
    have e0 : (30 * m : Int32).toInt = 30 * m.toInt := by
      rw [Int32.toInt_mul, show (30 : Int32).toInt = 30 from rfl, Int.bmod_eq_of_le (by omega) (by omega)]
    rw [i32_addI (by rw [e0]; show _ ≤ _ + (30 : Int) ∧ _ + (30 : Int) ≤ _; omega), e0]
    rfl
  have e2 : (x2 + 30).toInt = 30 * m.toInt + 30 := by
    rw [i32_addI (by rw [h2]; show _ ≤ _ + (30 : Int) ∧ _ + (30 : Int) ≤ _; omega), h2]
    rfl
  intro k
  induction k with
  | zero =>
    intro n n' x hx hk hn hn'
    obtain ⟨n, rfl⟩ : ∃ z, n = z + 1 := ⟨n - 1, by omega⟩
    obtain ⟨n', rfl⟩ : ∃ z, n' = z + 1 := ⟨n' - 1, by omega⟩
    refine ⟨-1, ?_, ?_⟩
    · rw [l_X1_firstGap_19, if_pos (by rw [i32_le]; omega)]
    · rw [l_X6_holeOf_5, if_pos (by rw [i32_le]; omega)]
  | succ k ih =>
    intro n n' x hx hk hn hn'
    obtain ⟨n, rfl⟩ : ∃ z, n = z + 1 := ⟨n - 1, by omega⟩
    obtain ⟨n', rfl⟩ : ∃ z, n' = z + 1 := ⟨n' - 1, by omega⟩
    have hd : 0 ≤ x.toInt ∧ x.toInt < 1100 := by omega
    have c1 : ¬ x2 + 30 ≤ x := by rw [i32_le]; omega
    have c2 : ¬ 1100 ≤ x := by rw [i32_le]; show ¬ (1100 : Int) ≤ _; omega
    have c3 : ¬ 30 * m + 30 ≤ x := by rw [i32_le]; omega
    rw [l_X1_firstGap_19, if_neg c1, if_neg c2, if_pos (ok_t hd), l_X6_holeOf_5, if_neg c3, isFiled_e hs ha hd, Option.bind_some]
    by_cases z : cQ S j 3 x.toNatClampNeg = 0
    · rw [if_pos z, z]
      exact ⟨x, rfl, rfl⟩
    · have zb : (!(cQ S j 3 x.toNatClampNeg == 0)) = true := by
        rw [Bool.not_eq_true', beq_eq_false_iff_ne]; exact z
      rw [if_neg z, if_pos zb]
      have ex := i32_inc (x := x) (by omega)
      exact ih n n' (x + 1) (by omega) (by omega) (by omega) (by omega)
theorem i32_30 {m : Int32} (hm : -1 ≤ m.toInt ∧ m.toInt ≤ 10000) : (30 * m : Int32).toInt = 30 * m.toInt ∧ (m * 30 : Int32) = 30 * m := by
  have e0 : (30 * m : Int32).toInt = 30 * m.toInt := by
    rw [Int32.toInt_mul, show (30 : Int32).toInt = 30 from rfl, Int.bmod_eq_of_le (by omega) (by omega)]
  refine ⟨e0, i32_ext ?_⟩
  rw [e0, Int32.toInt_mul, show (30 : Int32).toInt = 30 from rfl, Int.bmod_eq_of_le (by omega) (by omega)]
  omega
theorem hole_e {S : CS} {T : MS} {j : Nat} {a m : Int32} (hs : SpRel S j (T.2 1) (9 + 1288 * a.toNatClampNeg)) (ha : 0 ≤ a.toInt ∧ a.toInt < 6) (hm : 0 ≤ m.toInt ∧ m.toInt ≤ 35) : ∃ v, f_X1_firstGap S j m = some v ∧ f_X6_holeOf T a m = some v := by
  have e := i32_30 (m := m) (by omega)
  obtain ⟨v, h1, h2⟩ := gap_e hs ha hm e.1 30 fu fu (30 * m) (by omega) (by omega) (by decide) (by decide)
  refine ⟨v, ?_, h2⟩
  unfold f_X1_firstGap
  rw [if_neg (by rw [i32_lt]; show ¬ _ < (0 : Int); omega), if_pos (by rw [i32_le]; show _ ≤ (35 : Int); omega), e.2]
  exact h1
theorem Rel_hole : P_hole Rel := by
  intro h lk S T a1 a2 hr
  have hr0 : Rel h lk S (mS T 0 0) := hr
  have hg : RgRel h lk.1 S ((mS T 0 0).2 1) := hr.2.2.1
  unfold f_X5_hole f_X6_hole
  by_cases ca : 0 ≤ a1.toInt ∧ a1.toInt < ((mS T 0 0).2 1 2).toInt
  · obtain ⟨f1, f2, f3, f4, f5⟩ := find_t hg ca
    rw [f1, f2, if_pos rfl]
    simp only [Option.bind_some]
    show ∃ q q', ((f_X1_firstGap S (6 * lk.1 + a1.toNatClampNeg) a2).bind fun q5 => some q5) = some q ∧ _
    by_cases cm : 0 ≤ a2.toInt ∧ a2.toInt ≤ 35
    · obtain ⟨v, h1, h2⟩ := hole_e f5 ⟨ca.1, f3⟩ cm
      have hi : f_X6_in a2 0 35 = true := in_t (a := 0) (b := 35) cm
      rw [h1, if_pos hi, h2]
      exact ⟨_, _, rfl, rfl, rfl, hr0⟩
    · have ni : ¬ f_X6_in a2 0 35 = true := by rw [in_f (a := 0) (b := 35) cm]; decide
      rw [if_neg ni]
      refine ⟨-1, (-1, mS T 0 0), ?_, rfl, rfl, hr0⟩
      unfold f_X1_firstGap
      by_cases c : a2 < 0
      · rw [if_pos c]; rfl
      · rw [if_neg c, if_neg (by rw [i32_lt] at c; have c : ¬ a2.toInt < 0 := c; rw [i32_le]; show ¬ _ ≤ (35 : Int); omega)]; rfl
  · obtain ⟨f1, f2⟩ := find_f hg ca
    rw [f1, f2, if_neg (by decide)]
    exact ⟨-1, (-1, mS T 0 0), rfl, rfl, rfl, hr0⟩
