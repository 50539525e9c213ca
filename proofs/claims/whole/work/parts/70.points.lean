theorem old_l {S : CS} {T : MS} {a d : Int32} {m : Nat} {dy : Nat → Int32} (hm : m ≤ 61) (h5 : cF S 5 = Int32.ofNat m) (hb : d - cF S 2 = T.2 1 0 - T.2 1 3) (h7 : f_X6_its T a 7 = some (Int32.ofNat m)) (hd : ∀ i, i < m → 0 ≤ (dy i).toInt ∧ f_X6_dayOf T a (Int32.ofNat i) = some (dy i)) (hi : ∀ i, i < m → cA S 2 i = dy i ∧ cA S 3 i = T.2 14 i ∧ T.2 15 i = if (cF S 6).toInt ≤ (i : Int) then T.2 14 i else 0) : ∀ (k n n' x : Nat), (cF S 6).toInt ≤ (x : Int) → x + k = m → k < n → k < n' → ∃ v, l_X2_dayOfOldestPoint_5 S n d (Int32.ofNat x) = some v ∧ l_X6_easier_22 n' T a (Int32.ofNat x) = some (if v = -1 then -1 else v + T.2 1 3, T) := by
  intro k
  induction k with
  | zero =>
    intro n n' x h6 hx hn hn'
    obtain ⟨n, rfl⟩ : ∃ z, n = z + 1 := ⟨n - 1, by omega⟩
    obtain ⟨n', rfl⟩ : ∃ z, n' = z + 1 := ⟨n' - 1, by omega⟩
    have e : x = m := by omega
    subst e
    refine ⟨-1, ?_, ?_⟩
    · rw [l_X2_dayOfOldestPoint_5, h5, if_pos (by rw [i32_le]; omega)]
    · rw [l_X6_easier_22, h7, Option.bind_some, if_pos (by rw [i32_le]; omega), if_pos rfl]
  | succ k ih =>
    intro n n' x h6 hx hn hn'
    obtain ⟨n, rfl⟩ : ∃ z, n = z + 1 := ⟨n - 1, by omega⟩
    obtain ⟨n', rfl⟩ : ∃ z, n' = z + 1 := ⟨n' - 1, by omega⟩
    have hxm : x < m := by omega
    obtain ⟨i1, i2, i3⟩ := hi x hxm
    rw [if_pos h6] at i3
    have c : ¬ Int32.ofNat m ≤ Int32.ofNat x := by rw [i32_le, on_I (by omega), on_I (by omega)]; omega
    have o1 : ok (Int32.ofNat x) 61 := on_ok (by omega) (by omega)
    rw [l_X2_dayOfOldestPoint_5, h5, if_neg c, if_pos o1, if_pos o1, if_pos o1, on_N (by omega), i1, i2, hb, l_X6_easier_22, h7, Option.bind_some, if_neg c, if_pos o1, on_N (by omega), i3, (hd x hxm).2, Option.bind_some, Option.bind_some, on_S]
    by_cases z : T.2 14 x = 0
    · rw [if_pos z, if_pos z]
      exact ih n n' (x + 1) (by omega) (by omega) (by omega) (by omega)
    · rw [if_neg z, if_neg z]
      by_cases y : dy x ≤ T.2 1 0 - T.2 1 3
      · rw [if_pos y, if_pos y]
        exact ih n n' (x + 1) (by omega) (by omega) (by omega) (by omega)
      · rw [if_neg y, if_neg y]
        have n1 : ¬ dy x = -1 := fun e => by
          have := (hd x hxm).1
          rw [e] at this
          exact absurd this (by decide)
        exact ⟨dy x, rfl, by rw [if_neg n1]⟩
theorem eskip_l {T : MS} {a : Int32} {m f : Nat} (hm : m ≤ 61) (hf : f ≤ m) (h7 : f_X6_its T a 7 = some (Int32.ofNat m)) (hi : ∀ i, i < f → T.2 15 i = 0) : ∀ (k n x : Nat), x + k = f → l_X6_easier_22 (n + k) T a (Int32.ofNat x) = l_X6_easier_22 n T a (Int32.ofNat f) := by
  intro k
  induction k with
  | zero => intro n x hx; have e : x = f := by omega
            subst e; rfl
  | succ k ih =>
    intro n x hx
    have c : ¬ Int32.ofNat m ≤ Int32.ofNat x := by rw [i32_le, on_I (by omega), on_I (by omega)]; omega
    rw [← Nat.add_assoc, l_X6_easier_22, h7, Option.bind_some, if_neg c, if_pos (on_ok (by omega) (by omega)), on_N (by omega), hi x (by omega), if_pos rfl, on_S]
    exact ih n (x + 1) (by omega)
theorem Rel_easier : P_easier Rel := by
  intro h lk S T a1 hr
  have hr0 : Rel h lk S (mS T 0 0) := hr
  unfold f_X5_easier f_X6_easier
  generalize mS T 0 0 = U at *
  by_cases ca : 0 ≤ a1.toInt ∧ a1.toInt < (U.2 1 2).toInt
  · obtain ⟨f1, f2, f3, f5, i7, S', T', x4, w1, w2, w3, w4, w5⟩ := wk hr0 ca (-1)
    have m := m60 f5
    have hde := dayOf_e f5 hr0.2.2.1.2.1.1 rfl ⟨ca.1, f3⟩
    have t1 : T'.2 1 = U.2 1 := w5.2 1 (by omega)
    have r0 : cR S' lk.1 0 = U.2 1 0 := by rw [w4.1]; exact hr0.2.2.1.1.1
    have ra : cA S' lk.1 0 = U.2 1 3 := by rw [w4.2.2.2.1 _ (Or.inl hr0.1.1)]; exact (hr0.2.2.1.2.2.1 0 (by omega)).1
    have i7' : f_X6_its T' a1 7 = some (Int32.ofNat (U.2 1 (9 + 1288 * a1.toNatClampNeg + 7)).toNatClampNeg) := by
      rw [← m.2, ← i7]; unfold f_X6_its; rw [t1]
    rw [f1, Option.bind_some, oC_s, w1, f2, walks_e i7 w2, if_pos rfl]
    simp only [Option.bind_some]
    generalize hm : (U.2 1 (9 + 1288 * a1.toNatClampNeg + 7)).toNatClampNeg = M at *
    obtain ⟨⟨a1', a2', a3', a4'⟩, a5', a6', -, -, -⟩ := w3
    have e6 := on_of a6'.1 (by omega)
    have k6 : (cF S' 6).toNatClampNeg ≤ M := by rw [i32_nc]; omega
    obtain ⟨v, v1, v2⟩ := old_l (S := S') (T := T') (a := a1) (d := U.2 1 0) (m := M) (dy := dyF U (9 + 1288 * a1.toNatClampNeg)) (by omega) a1' (by rw [a2', t1]) i7' (fun i hi => ⟨(hde i (by omega)).1.1, (hde i (by omega)).2 T' w5⟩) (fun i hi => ⟨(a5' i hi).1, (a5' i hi).2.1, (a5' i hi).2.2.2⟩) (M - (cF S' 6).toNatClampNeg) fu (fu - (cF S' 6).toNatClampNeg) (cF S' 6).toNatClampNeg (by rw [i32_nc]; omega) (by omega) (by show _ < 10000; omega) (by show _ < 10000 - _; omega)
    have hz : ∀ i, i < (cF S' 6).toNatClampNeg → T'.2 15 i = 0 := fun i hlt => by
      rw [(a5' i (by omega)).2.2.2, if_neg (by rw [i32_nc] at hlt; omega)]
    have s := eskip_l (a := a1) (by omega) k6 i7' hz (cF S' 6).toNatClampNeg (fu - (cF S' 6).toNatClampNeg) 0 (by omega)
    rw [Nat.sub_add_cancel (by show _ ≤ 10000; omega)] at s
    rw [show l_X6_easier_22 fu T' a1 0 = l_X6_easier_22 fu T' a1 (Int32.ofNat 0) from rfl, s, v2]
    unfold f_X2_dayOfOldestPoint
    rw [r0, e6, v1, ra, t1, Option.bind_some]
    by_cases c : v = -1
    · rw [if_pos c, if_pos c]
      exact ⟨_, _, rfl, rfl, rfl, hr0.fr w4 w5⟩
    · rw [if_neg c, if_neg c]
      exact ⟨_, _, rfl, rfl, rfl, hr0.fr w4 w5⟩
  · obtain ⟨f1, f2, f3⟩ := noF (k := 0) hr0 ca
    rw [f1, f2]
    exact ⟨(-1, S), (-1, U), rfl, rfl, rfl, hr0⟩
theorem vio_w {h : Nat → Bool} {lk : Nat × Nat} {a : Int32} (S : CS) (U : MS) (hr : Rel h lk S U) (ca : 0 ≤ a.toInt ∧ a.toInt < (U.2 1 2).toInt) : ∃ v S' T', f_X5_violationsOf lk S (6 * lk.1 + a.toNatClampNeg) = some (v, S') ∧ f_X6_violationsOf U a = some (v, T') ∧ (0 ≤ v.toInt ∧ v.toInt ≤ 60) ∧ FrS S S' ∧ FrT U T' := by
  obtain ⟨f1, f2, f3, f5, i7, S', T', x4, w1, w2, w3, w4, w5⟩ := wk hr ca (-1)
  have m := m60 f5
  have b := w3.2.2.2.1
  refine ⟨cF S' 1, S', T', ?_, ?_, ?_, w4, w5⟩
  · unfold f_X5_violationsOf; rw [w1]; rfl
  · unfold f_X6_violationsOf; rw [walks_e i7 w2, b.1]; rfl
  · rw [b.1]; exact ⟨b.2.1, by omega⟩
theorem pts_w {h : Nat → Bool} {lk : Nat × Nat} {a : Int32} (S : CS) (U : MS) (hr : Rel h lk S U) (ca : 0 ≤ a.toInt ∧ a.toInt < (U.2 1 2).toInt) : ∃ v S' T', f_X5_pointsOf lk S (6 * lk.1 + a.toNatClampNeg) = some (v, S') ∧ f_X6_pointsNow U a = some (v, T') ∧ (0 ≤ v.toInt ∧ v.toInt ≤ 60) ∧ FrS S S' ∧ FrT U T' := by
  obtain ⟨f1, f2, f3, f5, i7, S', T', x4, w1, w2, w3, w4, w5⟩ := wk hr ca (-1)
  have m := m60 f5
  have hde := dayOf_e f5 hr.2.2.1.2.1.1 rfl ⟨ca.1, f3⟩
  have t1 : T'.2 1 = U.2 1 := w5.2 1 (by omega)
  have r0 : cR S' lk.1 0 = U.2 1 0 := by rw [w4.1]; exact hr.2.2.1.1.1
  have i7' : f_X6_its T' a 7 = some (U.2 1 (9 + 1288 * a.toNatClampNeg + 7)) := by
    rw [← i7]; unfold f_X6_its; rw [t1]
  have ww := walks_e i7 w2
  obtain ⟨⟨a1', a2', a3', a4'⟩, a5', a6', -, -, -⟩ := w3
  obtain ⟨v, v1, v2, v3, v4⟩ := pts_e (S := S') (T := T') (a := a) (d := U.2 1 0) (b := U.2 1 0 - U.2 1 3) (by omega) a1' (by rw [a2', t1]) a6' (fun i hi => (hde i (by omega)).2 T' w5) (fun i hi => ⟨(a5' i hi).1, (a5' i hi).2.1, (a5' i hi).2.2.2⟩)
  refine ⟨v, S', T', ?_, ?_, ⟨v3, by omega⟩, w4, w5⟩
  · unfold f_X5_pointsOf; rw [w1, Option.bind_some, r0, v1]; rfl
  · unfold f_X6_pointsNow
    rw [ww, Option.bind_some, i7', Option.bind_some, t1, m.2, v2]; rfl
theorem i32_mulI {x y : Int32} (h : -2000000000 ≤ x.toInt * y.toInt ∧ x.toInt * y.toInt ≤ 2000000000) : (x * y).toInt = x.toInt * y.toInt := by
  rw [Int32.toInt_mul, Int.bmod_eq_of_le (by omega) (by omega)]
theorem wgt_b {r d s p : Int32} (hr : 1 ≤ r.toInt ∧ r.toInt ≤ 9) (hd : 0 ≤ d.toInt ∧ d.toInt ≤ 999) (hs : 0 ≤ s.toInt ∧ s.toInt ≤ d.toInt) (hp : 0 ≤ p.toInt ∧ p.toInt ≤ 60) : 1 ≤ ((r * (1 + d - s)) * (1 + p)).toInt ∧ ((r * (1 + d - s)) * (1 + p)).toInt ≤ 549000 := by
  have z : (1 : Int32).toInt = 1 := rfl
  have e1 : (1 + d).toInt = 1 + d.toInt := i32_addI (x := 1) (by omega)
  have e2 : (1 + d - s).toInt = 1 + d.toInt - s.toInt := by rw [i32_subI (by omega), e1]
  have e3 : (1 + p).toInt = 1 + p.toInt := i32_addI (x := 1) (by omega)
  have m1 : r.toInt * (1 + d - s).toInt ≤ 9 * 1000 := Int.mul_le_mul hr.2 (by omega) (by omega) (by omega)
  have m0 : 0 < r.toInt * (1 + d - s).toInt := Int.mul_pos (by omega) (by omega)
  have e4 : (r * (1 + d - s)).toInt = r.toInt * (1 + d - s).toInt := i32_mulI (by omega)
  have m2 : (r * (1 + d - s)).toInt * (1 + p).toInt ≤ 9000 * 61 := Int.mul_le_mul (by omega) (by omega) (by omega) (by omega)
  have m3 : 0 < (r * (1 + d - s)).toInt * (1 + p).toInt := Int.mul_pos (by omega) (by omega)
  rw [i32_mulI (by omega)]
  omega
theorem wgt_w {h : Nat → Bool} {lk : Nat × Nat} {a : Int32} (S : CS) (U : MS) (hr : Rel h lk S U) (ca : 0 ≤ a.toInt ∧ a.toInt < (U.2 1 2).toInt) : ∃ v S' T', f_X5_weightOf lk S (6 * lk.1 + a.toNatClampNeg) = some (v, S') ∧ f_X6_weightOf U a = some (v, T') ∧ (1 ≤ v.toInt ∧ v.toInt ≤ 549000) ∧ FrS S S' ∧ FrT U T' := by
  obtain ⟨v, S', T', v1, v2, v3, v4, v5⟩ := pts_w S U hr ca
  obtain ⟨f1, f2, f3, f4, f5⟩ := find_t hr.2.2.1 ca
  have j0 : f_X6_its U a 0 = some (U.2 1 (9 + 1288 * a.toNatClampNeg)) := its_e (k := 0) ⟨ca.1, f3⟩ (by decide)
  have j1 : f_X6_its U a 1 = some (U.2 1 (9 + 1288 * a.toNatClampNeg + 1)) := its_e (k := 1) ⟨ca.1, f3⟩ (by decide)
  have j4 : f_X6_its U a 4 = some (U.2 1 (9 + 1288 * a.toNatClampNeg + 4)) := its_e (k := 4) ⟨ca.1, f3⟩ (by decide)
  obtain ⟨⟨p0, p1, p3, p4, p5, p6, p7⟩, ⟨b0, b1, b4, b6, b7⟩, -, -⟩ := f5
  have r0 : cR S lk.1 0 = U.2 1 0 := hr.2.2.1.1.1
  have d0 := hr.2.2.1.2.1.1
  unfold f_X5_weightOf f_X6_weightOf j_X5_weightOf_19 j_X6_weightOf_25
  rw [j4, j0, j1, v1, v2, p5, p1, p0, r0]
  simp only [Option.bind_some]
  by_cases c : U.2 1 (9 + 1288 * a.toNatClampNeg + 4) = -1
  · rw [if_pos c, if_pos c]
    exact ⟨_, _, _, rfl, rfl, wgt_b b0 d0 b1 v3, v4, v5⟩
  · rw [if_neg c, if_neg c]
    have n : 0 ≤ (U.2 1 (9 + 1288 * a.toNatClampNeg + 4)).toInt := by
      have := b4.1
      by_cases e : (U.2 1 (9 + 1288 * a.toNatClampNeg + 4)).toInt = -1
      · exact absurd (i32_ext (y := -1) e) c
      · omega
    exact ⟨_, _, _, rfl, rfl, wgt_b b0 d0 ⟨n, b4.2⟩ v3, v4, v5⟩
theorem Rel_of : P_of Rel := by
  intro h lk S T a1 a2 hr
  have hr0 : Rel h lk S (mS T 0 0) := hr
  have hr1 : Rel h lk S (mS T 0 1) := hr
  have e0 : (mS T 0 0).1 0 = 0 := rfl
  have e1 : (mS T 0 1).1 0 = 1 := rfl
  unfold f_X5_of f_X6_of j_X6_of_24
  have hA : f_X6_isAthlete T a1 = f_X6_isAthlete (mS T 0 0) a1 := rfl
  rw [hA, e0, e1]
  generalize mS T 0 0 = U at *
  generalize mS T 0 1 = U1 at *
  by_cases ca : 0 ≤ a1.toInt ∧ a1.toInt < (U.2 1 2).toInt
  · obtain ⟨f1, f2, f3, f4, f5⟩ := find_t hr0.2.2.1 ca
    rw [f1, Option.bind_some, oC_s, f2, if_pos rfl]
    have i : ∀ k : Int32, 0 ≤ k.toInt ∧ k.toInt < 1288 → f_X6_its U a1 k = some (U.2 1 (9 + 1288 * a1.toNatClampNeg + k.toNatClampNeg)) := fun k hk => its_e ⟨ca.1, f3⟩ hk
    have j0 : f_X6_its U a1 0 = some (U.2 1 (9 + 1288 * a1.toNatClampNeg)) := i 0 (by decide)
    have j1 : f_X6_its U a1 1 = some (U.2 1 (9 + 1288 * a1.toNatClampNeg + 1)) := i 1 (by decide)
    have j2 : f_X6_its U a1 2 = some (U.2 1 (9 + 1288 * a1.toNatClampNeg + 2)) := i 2 (by decide)
    have j3 : f_X6_its U a1 3 = some (U.2 1 (9 + 1288 * a1.toNatClampNeg + 3)) := i 3 (by decide)
    have j4 : f_X6_its U a1 4 = some (U.2 1 (9 + 1288 * a1.toNatClampNeg + 4)) := i 4 (by decide)
    have j5 : f_X6_its U a1 5 = some (U.2 1 (9 + 1288 * a1.toNatClampNeg + 5)) := i 5 (by decide)
    have j6 : f_X6_its U a1 6 = some (U.2 1 (9 + 1288 * a1.toNatClampNeg + 6)) := i 6 (by decide)
    have j7 : f_X6_its U a1 7 = some (U.2 1 (9 + 1288 * a1.toNatClampNeg + 7)) := i 7 (by decide)
    have hl : f_X6_latesOf U a1 = some (cP S (6 * lk.1 + a1.toNatClampNeg) 2) := by
      unfold f_X6_latesOf
      rw [j6, j5, f5.1.2.2.2.2.2.2]
      simp only [Option.bind_some]
      by_cases c : U.2 1 (9 + 1288 * a1.toNatClampNeg + 6) = U.2 1 0 / 30
      · rw [if_pos c, if_pos c]
      · rw [if_neg c, if_neg c]
    obtain ⟨v, S', T', v1, v2, -, v4, v5⟩ := pts_w S U hr0 ca
    obtain ⟨y, S2, T2, y1, y2, -, y4, y5⟩ := vio_w S U hr0 ca
    obtain ⟨w, S3, T3, w1, w2, -, w4, w5⟩ := wgt_w S U hr0 ca
    obtain ⟨⟨p0, p1, p3, p4, p5, p6, p7⟩, -, -, -⟩ := f5
    rw [j0, j1, j2, j3, j4, j7, hl, v1, v2, y1, y2, w1, w2]
    simp only [Option.bind_some]
    have tz : ∀ T', FrT U T' → f_X6_thrown T' = 0 := fun T' ht => by unfold f_X6_thrown; rw [ht.1 0 (by omega), e0]
    have inj : ∀ x y : Int32, (∀ r, some x = some r → r = y) ↔ x = y := fun x y => ⟨fun hh => hh x rfl, fun e r hh => by rw [← Option.some.inj hh, e]⟩
    by_cases ci : 0 ≤ a2.toInt ∧ a2.toInt ≤ 9
    · rw [if_pos (in_t (a := 0) (b := 9) ci), if_pos (show (0 : Int32) ≤ 0 by decide)]
      rcases (by omega : a2.toInt = 0 ∨ a2.toInt = 1 ∨ a2.toInt = 2 ∨ a2.toInt = 3 ∨ a2.toInt = 4 ∨ a2.toInt = 5 ∨ a2.toInt = 6 ∨ a2.toInt = 7 ∨ a2.toInt = 8 ∨ a2.toInt = 9) with e | e | e | e | e | e | e | e | e | e
      · obtain rfl : a2 = 0 := i32_ext e
        exact ⟨(some _, S), (_, U), rfl, rfl, tz U (FrT.refl U), (inj _ _).2 p0, hr0⟩
      · obtain rfl : a2 = 1 := i32_ext e
        exact ⟨(some v, S'), (v, T'), rfl, rfl, tz T' v5, (inj _ _).2 rfl, hr0.fr v4 v5⟩
      · obtain rfl : a2 = 2 := i32_ext e
        exact ⟨(some _, S), (_, U), rfl, rfl, tz U (FrT.refl U), (inj _ _).2 p6, hr0⟩
      · obtain rfl : a2 = 3 := i32_ext e
        exact ⟨(some y, S2), (y, T2), rfl, rfl, tz T2 y5, (inj _ _).2 rfl, hr0.fr y4 y5⟩
      · obtain rfl : a2 = 4 := i32_ext e
        exact ⟨(some _, S), (_, U), rfl, rfl, tz U (FrT.refl U), (inj _ _).2 rfl, hr0⟩
      · obtain rfl : a2 = 5 := i32_ext e
        exact ⟨(some _, S), (_, U), rfl, rfl, tz U (FrT.refl U), (inj _ _).2 p3, hr0⟩
      · obtain rfl : a2 = 6 := i32_ext e
        exact ⟨(some _, S), (_, U), rfl, rfl, tz U (FrT.refl U), (inj _ _).2 p4, hr0⟩
      · obtain rfl : a2 = 7 := i32_ext e
        exact ⟨(some _, S), (_, U), rfl, rfl, tz U (FrT.refl U), (inj _ _).2 p5, hr0⟩
      · obtain rfl : a2 = 8 := i32_ext e
        exact ⟨(some w, S3), (w, T3), rfl, rfl, tz T3 w5, (inj _ _).2 rfl, hr0.fr w4 w5⟩
      · obtain rfl : a2 = 9 := i32_ext e
        exact ⟨(some _, S), (_, U), rfl, rfl, tz U (FrT.refl U), (inj _ _).2 p1, hr0⟩
    · have n : ∀ x : Int32, 0 ≤ x.toInt ∧ x.toInt ≤ 9 → ¬ a2 = x := fun x hx e => ci (by rw [e]; exact hx)
      rw [if_neg (n 0 (by decide)), if_neg (n 1 (by decide)), if_neg (n 2 (by decide)), if_neg (n 3 (by decide)), if_neg (n 4 (by decide)), if_neg (n 5 (by decide)), if_neg (n 6 (by decide)), if_neg (n 7 (by decide)), if_neg (n 8 (by decide)), if_neg (n 9 (by decide)), in_f (a := 0) (b := 9) ci, if_neg (show ¬ false = true by decide), if_neg (show ¬ (1 : Int32) ≤ 0 by decide)]
      refine ⟨(none, S), (0, U1), rfl, rfl, ?_, fun r hh => by simp at hh, hr1⟩
      unfold f_X6_thrown lofR
      rw [e1]; rfl
  · obtain ⟨f1, f2, f3⟩ := noF (k := 0) hr0 ca
    rw [f1, f2, if_neg (show ¬ false = true by decide), if_neg (show ¬ (1 : Int32) ≤ 0 by decide)]
    refine ⟨(none, S), (0, U1), rfl, rfl, ?_, fun r hh => by simp at hh, hr1⟩
    unfold f_X6_thrown lofR
    rw [e1]; rfl
