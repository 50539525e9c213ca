theorem wk {h : Nat → Bool} {lk : Nat × Nat} {S : CS} {U : MS} {a : Int32} (hr : Rel h lk S U) (ca : 0 ≤ a.toInt ∧ a.toInt < (U.2 1 2).toInt) (x3 : Int32) : f_X0_find h S lk.1 a = some (some (6 * lk.1 + a.toNatClampNeg)) ∧ f_X6_isAthlete U a = true ∧ a.toInt < 6 ∧ SpRel S (6 * lk.1 + a.toNatClampNeg) (U.2 1) (9 + 1288 * a.toNatClampNeg) ∧ f_X6_its U a 7 = some (U.2 1 (9 + 1288 * a.toNatClampNeg + 7)) ∧ ∃ S' T' x4', f_X2_goThrough S (6 * lk.1 + a.toNatClampNeg) lk.1 x3 = some S' ∧ f_X6_walksBy U a (U.2 1 (9 + 1288 * a.toNatClampNeg + 7)) x3 = some T' ∧ TW S' T' x4' (U.2 1 (9 + 1288 * a.toNatClampNeg + 7)).toNatClampNeg (dyF U (9 + 1288 * a.toNatClampNeg)) ∧ FrS S S' ∧ FrT U T' := by
  obtain ⟨f1, f2, f3, f4, f5⟩ := find_t hr.2.2.1 ca
  exact ⟨f1, f2, f3, f5, its_e (k := 7) ⟨ca.1, f3⟩ (by decide), walk_e hr.1.1 hr.2.2.1 f5 rfl ⟨ca.1, f3⟩ x3⟩
theorem walks_e {U T' : MS} {a m : Int32} (i7 : f_X6_its U a 7 = some m) (w : f_X6_walksBy U a m (-1) = some T') : f_X6_walks U a = some T' := by
  unfold f_X6_walks; rw [i7, Option.bind_some, w]; rfl
theorem m60 {S : CS} {j o : Nat} {w : Nat → Int32} (hs : SpRel S j w o) : (w (o + 7)).toNatClampNeg ≤ 60 ∧ w (o + 7) = Int32.ofNat (w (o + 7)).toNatClampNeg := by
  have b := hs.2.1.2.2.2.2
  exact ⟨by rw [i32_nc]; have := b.2; omega, on_of b.1 (by have := b.2; omega)⟩
theorem hasF_t {h : Nat → Bool} {lk : Nat × Nat} {S : CS} {U : MS} {a k : Int32} (hr : Rel h lk S U) (ca : 0 ≤ a.toInt ∧ a.toInt < (U.2 1 2).toInt) (ck : 0 ≤ k.toInt ∧ k.toInt < (U.2 1 (9 + 1288 * a.toNatClampNeg + 7)).toInt) : f_X1_hasFailure S (6 * lk.1 + a.toNatClampNeg) k = true ∧ f_X6_isFailure U a k = some true := by
  obtain ⟨f1, f2, f3, f4, f5⟩ := find_t hr.2.2.1 ca
  have b := f5.2.1.2.2.2.2
  have p6 : cP S (6 * lk.1 + a.toNatClampNeg) 6 = U.2 1 (9 + 1288 * a.toNatClampNeg + 7) := f5.1.2.2.2.2.2.1
  have i7 : f_X6_its U a 7 = some (U.2 1 (9 + 1288 * a.toNatClampNeg + 7)) := its_e (k := 7) ⟨ca.1, f3⟩ (by decide)
  have em : (U.2 1 (9 + 1288 * a.toNatClampNeg + 7) - 1).toInt = (U.2 1 (9 + 1288 * a.toNatClampNeg + 7)).toInt - 1 := i32_subI (y := 1) (by have := b.1; have := b.2; show _ ≤ _ - (1 : Int) ∧ _ - (1 : Int) ≤ _; omega)
  have b2 := b.2
  constructor
  · unfold f_X1_hasFailure
    rw [if_neg (by rw [i32_lt]; show ¬ _ < (0 : Int); omega), p6, if_neg (by rw [i32_le]; omega), if_neg (by rw [i32_le]; show ¬ (60 : Int) ≤ _; omega)]
  · unfold f_X6_isFailure
    rw [f2, if_pos rfl, i7, Option.bind_some, if_pos (in_t (a := 0) ⟨ck.1, by rw [em]; omega⟩)]
theorem hasF_f {h : Nat → Bool} {lk : Nat × Nat} {S : CS} {U : MS} {a k : Int32} (hr : Rel h lk S U) (ca : 0 ≤ a.toInt ∧ a.toInt < (U.2 1 2).toInt) (ck : ¬ (0 ≤ k.toInt ∧ k.toInt < (U.2 1 (9 + 1288 * a.toNatClampNeg + 7)).toInt)) : f_X1_hasFailure S (6 * lk.1 + a.toNatClampNeg) k = false ∧ f_X6_isFailure U a k = some false := by
  obtain ⟨f1, f2, f3, f4, f5⟩ := find_t hr.2.2.1 ca
  have b := f5.2.1.2.2.2.2
  have p6 : cP S (6 * lk.1 + a.toNatClampNeg) 6 = U.2 1 (9 + 1288 * a.toNatClampNeg + 7) := f5.1.2.2.2.2.2.1
  have i7 : f_X6_its U a 7 = some (U.2 1 (9 + 1288 * a.toNatClampNeg + 7)) := its_e (k := 7) ⟨ca.1, f3⟩ (by decide)
  have em : (U.2 1 (9 + 1288 * a.toNatClampNeg + 7) - 1).toInt = (U.2 1 (9 + 1288 * a.toNatClampNeg + 7)).toInt - 1 := i32_subI (y := 1) (by have := b.1; have := b.2; show _ ≤ _ - (1 : Int) ∧ _ - (1 : Int) ≤ _; omega)
  constructor
  · unfold f_X1_hasFailure
    by_cases c : k < 0
    · rw [if_pos c]
    · rw [if_neg c, p6, if_pos (by rw [i32_lt] at c; have c : ¬ k.toInt < 0 := c; rw [i32_le]; omega)]
  · unfold f_X6_isFailure
    rw [f2, if_pos rfl, i7, Option.bind_some, in_f (a := 0) (by rw [em]; show ¬ ((0 : Int) ≤ _ ∧ _); omega), if_neg (by decide)]
theorem noF {h : Nat → Bool} {lk : Nat × Nat} {S : CS} {U : MS} {a k : Int32} (hr : Rel h lk S U) (ca : ¬ (0 ≤ a.toInt ∧ a.toInt < (U.2 1 2).toInt)) : f_X0_find h S lk.1 a = some none ∧ f_X6_isAthlete U a = false ∧ f_X6_isFailure U a k = some false := by
  obtain ⟨f1, f2⟩ := find_f hr.2.2.1 ca
  refine ⟨f1, f2, ?_⟩
  unfold f_X6_isFailure
  rw [f2, if_neg (by decide)]
theorem Rel_without : P_without Rel := by
  intro h lk S T a1 a2 hr
  have hr0 : Rel h lk S (mS T 0 0) := hr
  unfold f_X5_without f_X6_without
  generalize mS T 0 0 = U at *
  by_cases ca : 0 ≤ a1.toInt ∧ a1.toInt < (U.2 1 2).toInt
  · obtain ⟨f1, f2, f3, f5, i7, S', T', x4, w1, w2, w3, w4, w5⟩ := wk hr0 ca a2
    rw [f1, Option.bind_some, oC_s]
    by_cases cf : 0 ≤ a2.toInt ∧ a2.toInt < (U.2 1 (9 + 1288 * a1.toNatClampNeg + 7)).toInt
    · obtain ⟨g1, g2⟩ := hasF_t hr0 ca cf
      rw [if_pos g1, g2, w1, i7]
      simp only [Option.bind_some, if_true]
      rw [w2]
      exact ⟨_, _, rfl, rfl, w3.2.2.2.1.1, hr0.fr w4 w5⟩
    · obtain ⟨g1, g2⟩ := hasF_f hr0 ca cf
      rw [g1, g2]
      exact ⟨(-1, S), (-1, U), rfl, rfl, rfl, hr0⟩
  · obtain ⟨f1, f2, f3⟩ := noF (k := a2) hr0 ca
    rw [f1, f3]
    exact ⟨(-1, S), (-1, U), rfl, rfl, rfl, hr0⟩
theorem Rel_violation : P_violation Rel := by
  intro h lk S T a1 a2 hr
  have hr0 : Rel h lk S (mS T 0 0) := hr
  unfold f_X5_violation f_X6_violation
  generalize mS T 0 0 = U at *
  by_cases ca : 0 ≤ a1.toInt ∧ a1.toInt < (U.2 1 2).toInt
  · obtain ⟨f1, f2, f3, f5, i7, S', T', x4, w1, w2, w3, w4, w5⟩ := wk hr0 ca (-1)
    rw [f1, Option.bind_some, oC_s, w1, f2, walks_e i7 w2, if_pos rfl]
    simp only [Option.bind_some]
    obtain ⟨-, -, -, ⟨v1, v2, v3⟩, v4, -⟩ := w3
    have m := m60 f5
    have em : (T'.1 17 - 1).toInt = (T'.1 17).toInt - 1 := i32_subI (y := 1) (by show _ ≤ _ - (1 : Int) ∧ _ - (1 : Int) ≤ _; omega)
    unfold f_X2_dayOfViolation
    rw [v1]
    by_cases c : 0 ≤ a2.toInt ∧ a2.toInt < (T'.1 17).toInt
    · have o1 : ok a2 61 := ok_t (by omega)
      rw [if_neg (by rw [i32_lt]; show ¬ _ < (0 : Int); omega), if_neg (by rw [i32_le]; omega), if_pos o1, if_pos (in_t (a := 0) ⟨c.1, by rw [em]; omega⟩), if_pos o1]
      refine ⟨_, _, rfl, rfl, v4 _ ?_, hr0.fr w4 w5⟩
      rw [i32_nc, i32_nc]; omega
    · rw [in_f (a := 0) (by rw [em]; show ¬ ((0 : Int) ≤ _ ∧ _); omega), if_neg (show ¬ false = true by decide)]
      refine ⟨(-1, S'), (-1, T'), ?_, rfl, rfl, hr0.fr w4 w5⟩
      by_cases c0 : a2 < 0
      · rw [if_pos c0]; rfl
      · rw [if_neg c0, if_pos (by rw [i32_lt] at c0; have c0 : ¬ a2.toInt < 0 := c0; rw [i32_le]; omega)]; rfl
  · obtain ⟨f1, f2, f3⟩ := noF (k := a2) hr0 ca
    rw [f1, f2]
    exact ⟨(-1, S), (-1, U), rfl, rfl, rfl, hr0⟩
theorem Rel_danger : P_danger Rel := by
  intro h lk S T a1 hr
  have hr0 : Rel h lk S (mS T 0 0) := hr
  unfold f_X5_danger f_X6_danger f_X5_violationsOf f_X6_violationsOf
  generalize mS T 0 0 = U at *
  by_cases ca : 0 ≤ a1.toInt ∧ a1.toInt < (U.2 1 2).toInt
  · obtain ⟨f1, f2, f3, f5, i7, S', T', x4, w1, w2, w3, w4, w5⟩ := wk hr0 ca (-1)
    have hr1 := hr0.fr (FrS.refl S) w5
    have t1 : T'.2 1 = U.2 1 := w5.2 1 (by omega)
    obtain ⟨S1, S2, T2, d1, d2, d3, d4, d5, d6, d7⟩ := walk_d (o := 9 + 1288 * a1.toNatClampNeg) hr1.1.1 hr1.2.2.1 (by rw [t1]; exact f5) rfl ⟨ca.1, f3⟩
    rw [w1] at d1
    obtain rfl := Option.some.inj d1
    rw [t1] at d2 d3
    have r0 : cR S' lk.1 0 = U.2 1 0 := by rw [w4.1]; exact hr0.2.2.1.1.1
    rw [f1, Option.bind_some, oC_s, w1, f2, walks_e i7 w2, i7, if_pos rfl]
    simp only [Option.bind_some]
    rw [r0, d2, d3]
    simp only [Option.bind_some]
    rw [d4, w3.2.2.2.1.1]
    by_cases c : T2.1 17 ≤ T'.1 17
    · rw [if_pos c, if_pos c]
      exact ⟨_, _, rfl, rfl, rfl, hr0.fr d6 (w5.trans d7)⟩
    · rw [if_neg c, if_neg c]
      exact ⟨_, _, rfl, rfl, rfl, hr0.fr d6 (w5.trans d7)⟩
  · obtain ⟨f1, f2, f3⟩ := noF (k := 0) hr0 ca
    rw [f1, f2]
    exact ⟨(-1, S), (-1, U), rfl, rfl, rfl, hr0⟩
/-- what counts, and what is counted as lying within the window, on both sides -/
theorem TW.has {S : CS} {T : MS} {x4 : Int32} {m : Nat} {dy : Nat → Int32} (hw : TW S T x4 m dy) (hm : m ≤ 60) {k : Int32} (hk : 0 ≤ k.toInt ∧ k.toInt < m) : f_X2_doesCount S k = some (!(T.2 14 k.toNatClampNeg == 0)) ∧ f_X2_isOpen S k = some (!(T.2 15 k.toNatClampNeg == 0)) := by
  obtain ⟨⟨a1, -, -, -⟩, a5, a6, -, -, -⟩ := hw
  obtain ⟨b1, b2, b3, b4⟩ := a5 k.toNatClampNeg (by rw [i32_nc]; omega)
  have d : f_X2_doesCount S k = some (!(T.2 14 k.toNatClampNeg == 0)) := by
    unfold f_X2_doesCount
    rw [a1, if_neg (by rw [i32_lt]; show ¬ _ < (0 : Int); omega), if_neg (by rw [i32_le, on_I (by omega)]; omega), if_pos (ok_t (by omega)), b2]
    rcases b3 with e | e
    · rw [e]; rfl
    · rw [e]; rfl
  refine ⟨d, ?_⟩
  unfold f_X2_isOpen
  rw [d, b4]
  have ek : ((k.toNatClampNeg : Nat) : Int) = k.toInt := by rw [i32_nc]; omega
  rw [ek]
  by_cases c : k < cF S 6
  · rw [if_pos c, if_neg (by rw [i32_lt] at c; omega)]; rfl
  · rw [if_neg c, if_pos (by rw [i32_lt] at c; omega), Option.bind_some]
    cases (!(T.2 14 k.toNatClampNeg == 0)) <;> rfl
theorem Rel_failure : P_failure Rel := by
  intro h lk S T a1 a2 a3 hr
  have hr0 : Rel h lk S (mS T 0 0) := hr
  unfold f_X5_failure f_X6_failure
  generalize mS T 0 0 = U at *
  by_cases ca : 0 ≤ a1.toInt ∧ a1.toInt < (U.2 1 2).toInt
  · obtain ⟨f1, f2, f3, f5, i7, S', T', x4, w1, w2, w3, w4, w5⟩ := wk hr0 ca (-1)
    rw [f1, Option.bind_some, oC_s]
    by_cases cf : 0 ≤ a2.toInt ∧ a2.toInt < (U.2 1 (9 + 1288 * a1.toNatClampNeg + 7)).toInt
    · obtain ⟨g1, g2⟩ := hasF_t hr0 ca cf
      have m := m60 f5
      have hM : ((U.2 1 (9 + 1288 * a1.toNatClampNeg + 7)).toNatClampNeg : Int) = (U.2 1 (9 + 1288 * a1.toNatClampNeg + 7)).toInt := by rw [i32_nc]; omega
      have hh := w3.has m.1 (k := a2) (by rw [hM]; exact cf)
      have hr1 := hr0.fr w4 w5
      have hr2 := hr0.fr w4 (FrT.refl U)
      rw [if_pos g1, g2, w1, walks_e i7 w2]
      simp only [Option.bind_some, if_true]
      rw [hh.1, hh.2]
      simp only [Option.bind_some]
      have o6 : ok a2 60 := ok_t (by omega)
      have o61 : ok a2 61 := ok_t (by omega)
      have hk : a2.toNatClampNeg < (U.2 1 (9 + 1288 * a1.toNatClampNeg + 7)).toNatClampNeg := by rw [i32_nc, i32_nc]; omega
      obtain ⟨q0, q1, q2, -, -⟩ := f5.2.2.1 _ hk
      have k3 := k3_e (a := a2) (by omega)
      have t1 : T'.2 1 = U.2 1 := w5.2 1 (by omega)
      rw [if_pos o6, if_pos o6, if_pos o6, if_pos o61, if_pos o61, t1, w4.2.2.1]
      by_cases ci : 0 ≤ a3.toInt ∧ a3.toInt ≤ 4
      · rw [if_pos (in_t (a := 0) (b := 4) ci)]
        rcases (by omega : a3.toInt = 0 ∨ a3.toInt = 1 ∨ a3.toInt = 2 ∨ a3.toInt = 3 ∨ a3.toInt = 4) with e | e | e | e | e
        · obtain rfl : a3 = 0 := i32_ext e
          have ce := cell_e (a := a1) (k := 8 + 3 * a2 + 0) ⟨ca.1, f3⟩ (by rw [Int32.add_zero]; omega)
          rw [if_pos rfl, if_neg (by decide), if_pos ce.2.1, ce.2.2]
          have ee : 9 + 1288 * a1.toNatClampNeg + (8 + 3 * a2 + 0 : Int32).toNatClampNeg = 9 + 1288 * a1.toNatClampNeg + 8 + 3 * a2.toNatClampNeg := by
            rw [i32_nc (x := 8 + 3 * a2 + 0), i32_nc (x := a2), Int32.add_zero]; omega
          rw [ee]
          exact ⟨_, _, rfl, rfl, q0, hr1⟩
        · obtain rfl : a3 = 1 := i32_ext e
          have ce := cell_e (a := a1) (k := 8 + 3 * a2 + 1) ⟨ca.1, f3⟩ (by omega)
          rw [if_neg (by decide), if_pos rfl, if_neg (by decide), if_pos ce.2.1, ce.2.2]
          have ee : 9 + 1288 * a1.toNatClampNeg + (8 + 3 * a2 + 1 : Int32).toNatClampNeg = 9 + 1288 * a1.toNatClampNeg + 9 + 3 * a2.toNatClampNeg := by
            rw [i32_nc (x := 8 + 3 * a2 + 1), i32_nc (x := a2)]; omega
          rw [ee]
          exact ⟨_, _, rfl, rfl, q1, hr1⟩
        · obtain rfl : a3 = 2 := i32_ext e
          have ce := cell_e (a := a1) (k := 8 + 3 * a2 + 2) ⟨ca.1, f3⟩ (by omega)
          rw [if_neg (by decide), if_neg (by decide), if_pos rfl, if_neg (by decide), if_pos ce.2.1, ce.2.2]
          have ee : 9 + 1288 * a1.toNatClampNeg + (8 + 3 * a2 + 2 : Int32).toNatClampNeg = 9 + 1288 * a1.toNatClampNeg + 10 + 3 * a2.toNatClampNeg := by
            rw [i32_nc (x := 8 + 3 * a2 + 2), i32_nc (x := a2)]; omega
          rw [ee]
          exact ⟨_, _, rfl, rfl, q2, hr1⟩
        · obtain rfl : a3 = 3 := i32_ext e
          rw [if_neg (show ¬ (3 : Int32) = 0 by decide), if_neg (show ¬ (3 : Int32) = 1 by decide), if_neg (show ¬ (3 : Int32) = 2 by decide), if_pos (show (3 : Int32) = 3 from rfl), if_pos (show (3 : Int32) ≤ 3 by decide), if_pos (show (3 : Int32) = 3 from rfl)]
          by_cases z : T'.2 14 a2.toNatClampNeg = 0
          · rw [if_pos z, z]
            exact ⟨_, _, rfl, rfl, rfl, hr1⟩
          · have zb : (!(T'.2 14 a2.toNatClampNeg == 0)) = true := by rw [Bool.not_eq_true', beq_eq_false_iff_ne]; exact z
            rw [if_neg z, zb]
            exact ⟨_, _, rfl, rfl, rfl, hr1⟩
        · obtain rfl : a3 = 4 := i32_ext e
          rw [if_neg (show ¬ (4 : Int32) = 0 by decide), if_neg (show ¬ (4 : Int32) = 1 by decide), if_neg (show ¬ (4 : Int32) = 2 by decide), if_neg (show ¬ (4 : Int32) = 3 by decide), if_pos (show (4 : Int32) = 4 from rfl), if_pos (show (3 : Int32) ≤ 4 by decide), if_neg (show ¬ (4 : Int32) = 3 by decide)]
          by_cases z : T'.2 15 a2.toNatClampNeg = 0
          · rw [if_pos z, z]
            exact ⟨_, _, rfl, rfl, rfl, hr1⟩
          · have zb : (!(T'.2 15 a2.toNatClampNeg == 0)) = true := by rw [Bool.not_eq_true', beq_eq_false_iff_ne]; exact z
            rw [if_neg z, zb]
            exact ⟨_, _, rfl, rfl, rfl, hr1⟩
      · have n : ∀ x : Int32, 0 ≤ x.toInt ∧ x.toInt ≤ 4 → ¬ a3 = x := fun x hx e => ci (by rw [e]; exact hx)
        rw [if_neg (n 0 (by decide)), if_neg (n 1 (by decide)), if_neg (n 2 (by decide)), if_neg (n 3 (by decide)), if_neg (n 4 (by decide)), in_f (a := 0) (b := 4) ci, if_neg (by decide)]
        exact ⟨_, _, rfl, rfl, rfl, hr2⟩
    · obtain ⟨g1, g2⟩ := hasF_f hr0 ca cf
      rw [g1, g2]
      exact ⟨(-1, S), (-1, U), rfl, rfl, rfl, hr0⟩
  · obtain ⟨f1, f2, f3⟩ := noF (k := a2) hr0 ca
    rw [f1, f3]
    exact ⟨(-1, S), (-1, U), rfl, rfl, rfl, hr0⟩
