theorem lg_le {x y : Int64} : lg_cmp x y ≤ 0 ↔ x.toInt ≤ y.toInt := by
  unfold lg_cmp
  by_cases c : x > y
  · rw [if_pos c]
    have c : y < x := c
    rw [Int64.lt_iff_toInt_lt] at c
    exact ⟨fun hh => absurd hh (by decide), fun hh => by omega⟩
  · rw [if_neg c]
    have c2 : ¬ y < x := c
    rw [Int64.lt_iff_toInt_lt] at c2
    refine ⟨fun _ => by omega, fun _ => ?_⟩
    by_cases e : x = y
    · rw [if_pos e]; decide
    · rw [if_neg e]; decide
theorem l64_addI {x y : Int64} (h : -2000000000000 ≤ x.toInt + y.toInt ∧ x.toInt + y.toInt ≤ 2000000000000) : (x + y).toInt = x.toInt + y.toInt := by
  rw [Int64.toInt_add, Int.bmod_eq_of_le (by omega) (by omega)]
theorem l64_subI {x y : Int64} (h : -2000000000000 ≤ x.toInt - y.toInt ∧ x.toInt - y.toInt ≤ 2000000000000) : (x - y).toInt = x.toInt - y.toInt := by
  rw [Int64.toInt_sub, Int.bmod_eq_of_le (by omega) (by omega)]
theorem l64_ext {x y : Int64} (h : x.toInt = y.toInt) : x = y := Int64.toInt_inj.mp h
theorem to64 {x : Int32} : x.toInt64.toInt = x.toInt := Int32.toInt_toInt64 x
/-- the next x of a lot -/
def nx (X : Int64) : Int64 := ((1103515245 * X) + 12345) - ((1103515245 * X) + 12345) / 2147483648 * 2147483648
theorem nx_b {X : Int64} (h : 0 ≤ X.toInt ∧ X.toInt < 2147483648) : 0 ≤ (nx X).toInt ∧ (nx X).toInt < 2147483648 := by
  have e1 : (1103515245 * X : Int64).toInt = 1103515245 * X.toInt := by
    rw [Int64.toInt_mul, show (1103515245 : Int64).toInt = 1103515245 from rfl, Int.bmod_eq_of_le (by omega) (by omega)]
  have e2 : (1103515245 * X + 12345 : Int64).toInt = 1103515245 * X.toInt + 12345 := by
    rw [Int64.toInt_add, e1, show (12345 : Int64).toInt = 12345 from rfl, Int.bmod_eq_of_le (by omega) (by omega)]
  unfold nx
  have zb : (2147483648 : Int64).toInt = 2147483648 := rfl
  rw [rem64 (by omega) (by omega), zb, e2]
  exact ⟨Int.emod_nonneg _ (by omega), Int.emod_lt_of_pos _ (by omega)⟩
theorem draw_l {U : MS} {M : Nat} {S : CS} (hM6 : M ≤ 6) {m : Int32} (hk : MK U M m (cA S 7)) {r : Int64} (h0 : 0 ≤ r.toInt) (hlt : r.toInt < sumW (cA S 7) M) : ∀ (k n n' x : Nat) (U' : MS) (acc : Int64) (x8 x9 : Int32), FrT U U' → x + k = M → k < n → k + 1 < n' → acc.toInt = sumW (cA S 7) x → x9 + 1 = Int32.ofNat x → x8.toInt = r.toInt - sumW (cA S 7) x → sumW (cA S 7) x ≤ r.toInt → ∃ d U2, d < M ∧ 1 ≤ (cA S 7 d).toInt ∧ l_X5_firstAbove_5 S n r acc (Int32.ofNat x) = some (Int32.ofNat d) ∧ (∀ (r37 : MS → Int32 → Int64 → Int32 → Int32 → Int32 → Option (Int32 × MS)) (x2 : Int32) (x3 : Int64) (x6 x7 : Int32), l_X6_lot_72 r37 n' U' x2 x3 m x6 x7 x8 x9 = r37 U2 x2 x3 (m ||| (1 <<< (Int32.ofNat d &&& 31))) ((10 * x6) + Int32.ofNat d) (x7 + 1)) ∧ FrT U U2 := by
  intro k
  induction k with
  | zero =>
    intro n n' x U' acc x8 x9 hu hx hn hn' ha h9 h8 hle
    have e : x = M := by omega
    subst e
    omega
  | succ k ih =>
    intro n n' x U' acc x8 x9 hu hx hn hn' ha h9 h8 hle
    obtain ⟨n, rfl⟩ : ∃ z, n = z + 1 := ⟨n - 1, by omega⟩
    obtain ⟨n', rfl⟩ : ∃ z, n' = z + 1 + 1 := ⟨n' - 2, by omega⟩
    have bs := sumW_b (W := cA S 7) x (fun i hi => hk.b i (by omega))
    have bx := hk.b x (by omega)
    have sM : r.toInt ≤ 549000 * 6 := by
      have := (sumW_b (W := cA S 7) M (fun i hi => hk.b i hi)).2.1
      omega
    have es : sumW (cA S 7) (x + 1) = sumW (cA S 7) x + (cA S 7 x).toInt := rfl
    have c6 : ¬ (6 : Int32) ≤ Int32.ofNat x := by rw [i32_le, on_I (by omega)]; show ¬ (6 : Int) ≤ _; omega
    have c8 : ¬ x8 < 0 := by rw [i32_lt]; show ¬ _ < (0 : Int); omega
    have ea : (acc + (cA S 7 x).toInt64).toInt = sumW (cA S 7) (x + 1) := by
      rw [l64_addI (by rw [to64]; omega), to64, ha, es]
    have n9 : Int32.ofNat x + 1 = Int32.ofNat (x + 1) := on_S x
    have F : l_X5_firstAbove_5 S (n + 1) r acc (Int32.ofNat x) = if sumW (cA S 7) (x + 1) ≤ r.toInt then l_X5_firstAbove_5 S n r (acc + (cA S 7 x).toInt64) (Int32.ofNat (x + 1)) else some (Int32.ofNat x) := by
      rw [l_X5_firstAbove_5, if_neg c6, if_pos (on_ok (by omega) (by omega)), on_N (by omega), on_S]
      by_cases c : sumW (cA S 7) (x + 1) ≤ r.toInt
      · rw [if_pos c, if_pos (lg_le.2 (by rw [ea]; exact c))]
      · rw [if_neg c, if_neg (fun hh => c (by have := lg_le.1 hh; rw [ea] at this; exact this))]
    rcases hk x (by omega) with ⟨e1, e2⟩ | ⟨e1, e2⟩
    · have e1 : ((m >>> (Int32.ofNat x &&& 31)) &&& 1) = 1 := e1
      have z : (cA S 7 x).toInt = 0 := by rw [e2]; rfl
      obtain ⟨d, U2, d1, d2, d3, d4, d5⟩ := ih n (n' + 1) (x + 1) U' (acc + (cA S 7 x).toInt64) (x8 - 0) (x9 + 1) hu (by omega) (by omega) (by omega) ea (by rw [h9, n9]) (by rw [Int32.sub_zero, h8, es, z]; omega) (by rw [es, z]; omega)
      refine ⟨d, U2, d1, d2, by rw [F, if_pos (by rw [es, z]; omega)]; exact d3, fun r37 x2 x3 x6 x7 => ?_, d5⟩
      rw [l_X6_lot_72, if_neg c8, h9, if_pos e1, ← h9]
      exact d4 r37 x2 x3 x6 x7
    · have e1 : ¬ ((m >>> (Int32.ofNat x &&& 31)) &&& 1) = 1 := e1
      obtain ⟨U2, u1, u2⟩ := e2.2 U' hu
      have b1 := e2.1
      have e8 : (x8 - cA S 7 x).toInt = r.toInt - sumW (cA S 7) (x + 1) := by
        rw [i32_subI (by omega), h8, es]; omega
      by_cases c : sumW (cA S 7) (x + 1) ≤ r.toInt
      · obtain ⟨d, U3, d1, d2, d3, d4, d5⟩ := ih n (n' + 1) (x + 1) U2 (acc + (cA S 7 x).toInt64) (x8 - cA S 7 x) (x9 + 1) (hu.trans u2) (by omega) (by omega) (by omega) ea (by rw [h9, n9]) e8 c
        refine ⟨d, U3, d1, d2, by rw [F, if_pos c]; exact d3, fun r37 x2 x3 x6 x7 => ?_, d5⟩
        rw [l_X6_lot_72, if_neg c8, h9, if_neg e1, u1, Option.bind_some, ← h9]
        exact d4 r37 x2 x3 x6 x7
      · refine ⟨x, U2, by omega, b1.1, by rw [F, if_neg c], fun r37 x2 x3 x6 x7 => ?_, hu.trans u2⟩
        rw [l_X6_lot_72, if_neg c8, h9, if_neg e1, u1, Option.bind_some, l_X6_lot_72, if_pos (by rw [i32_lt, e8]; show _ < (0 : Int); omega)]
set_option maxRecDepth 100000 in
theorem bit_d : ∀ m : Fin 64, ∀ d : Fin 6, (m.1 ||| 2 ^ d.1) < 64 ∧ (Int32.ofNat m.1 ||| ((1 : Int32) <<< (Int32.ofNat d.1 &&& 31))) = Int32.ofNat (m.1 ||| 2 ^ d.1) ∧ ∀ i : Fin 6, (((Int32.ofNat (m.1 ||| 2 ^ d.1) >>> (Int32.ofNat i.1 &&& 31)) &&& 1) = 1 ↔ (i.1 = d.1 ∨ ((Int32.ofNat m.1 >>> (Int32.ofNat i.1 &&& 31)) &&& 1) = 1)) := by
  decide +kernel
theorem MK.draw {U : MS} {M m d : Nat} {W : Nat → Int32} (hM6 : M ≤ 6) (hm : m < 64) (hd : d < M) (hk : MK U M (Int32.ofNat m) W) : ∃ m', m' < 64 ∧ (Int32.ofNat m ||| ((1 : Int32) <<< (Int32.ofNat d &&& 31))) = Int32.ofNat m' ∧ MK U M (Int32.ofNat m') (upd W d 0) := by
  obtain ⟨b1, b2, b3⟩ := bit_d ⟨m, hm⟩ ⟨d, by omega⟩
  refine ⟨m ||| 2 ^ d, b1, b2, fun i hi => ?_⟩
  have b := b3 ⟨i, by omega⟩
  by_cases c : i = d
  · left
    refine ⟨b.2 (Or.inl c), ?_⟩
    rw [c, up_s]
  · rw [up_n _ _ c]
    rcases hk i hi with ⟨e1, e2⟩ | ⟨e1, e2⟩
    · exact Or.inl ⟨b.2 (Or.inr e1), e2⟩
    · exact Or.inr ⟨fun hh => (b.1 hh).elim c e1, e2⟩
theorem lot_l {h : Nat → Bool} {lk : Nat × Nat} {U : MS} {M : Nat} (hM6 : M ≤ 6) (hM : U.2 1 2 = Int32.ofNat M) {a2 : Int32} (ha2 : a2.toInt ≤ 6) : ∀ (k n n' : Nat) (S : CS) (U' : MS) (X sum : Int64) (m : Nat) (dg x : Int32), Rel h lk S U → FrT U U' → 0 ≤ x.toInt → x.toInt + k = a2.toInt → k < n → k < n' → 0 ≤ X.toInt ∧ X.toInt < 2147483648 → sum.toInt = sumW (cA S 7) M → m < 64 → MK U M (Int32.ofNat m) (cA S 7) → k ≤ nz (cA S 7) M → ∃ w S2 U2, l_X5_lot_38 h lk n S a2 sum X dg x = some (w, S2) ∧ l_X6_lot_37 n' U' a2 X (Int32.ofNat m) dg x = some (w, U2) ∧ Rel h lk S2 U ∧ FrT U U2 := by
  intro k
  induction k with
  | zero =>
    intro n n' S U' X sum m dg x hr hu hx hk hn hn' hX hs hm hMK hnz
    obtain ⟨n, rfl⟩ : ∃ z, n = z + 1 := ⟨n - 1, by omega⟩
    obtain ⟨n', rfl⟩ : ∃ z, n' = z + 1 := ⟨n' - 1, by omega⟩
    have c : a2 ≤ x := by rw [i32_le]; omega
    exact ⟨dg, S, U', by rw [l_X5_lot_38, if_pos c], by rw [l_X6_lot_37, if_pos c], hr, hu⟩
  | succ k ih =>
    intro n n' S U' X sum m dg x hr hu hx hk hn hn' hX hs hm hMK hnz
    obtain ⟨n, rfl⟩ : ∃ z, n = z + 1 := ⟨n - 1, by omega⟩
    obtain ⟨n', rfl⟩ : ∃ z, n' = z + 1 := ⟨n' - 1, by omega⟩
    have c : ¬ a2 ≤ x := by rw [i32_le]; omega
    have bs := sumW_b (W := cA S 7) M (fun i hi => hMK.b i hi)
    have z0 : (0 : Int64).toInt = 0 := rfl
    have c1 : ¬ lg_cmp sum 0 ≤ 0 := fun hh => by have := lg_le.1 hh; omega
    have c2 : ¬ sum = 0 := fun e => by rw [e] at hs; omega
    have bX := nx_b hX
    have hXn : ((1103515245 * X) + 12345) - ((1103515245 * X) + 12345) / 2147483648 * 2147483648 = nx X := rfl
    generalize nx X = Y at *
    have hs1 : 0 < sum.toInt := by omega
    have rb : 0 ≤ (Y - Y / sum * sum).toInt ∧ (Y - Y / sum * sum).toInt < sum.toInt := by
      rw [rem64 bX.1 hs1]
      exact ⟨Int.emod_nonneg _ (Int.ne_of_gt hs1), Int.emod_lt_of_pos _ hs1⟩
    obtain ⟨s, U1, s1, s2, s3⟩ := but_l hM6 hM hMK M fu 0 U' 0 hu (by omega) (by show _ < 10000; omega) rfl
    have s1 : f_X6_sumBut U' (Int32.ofNat m) = some (s, U1) := s1
    have es : s.toInt64 = sum := l64_ext (by rw [to64, s3, hs])
    generalize hR : Y - Y / sum * sum = R at *
    have e32 : R.toInt32.toInt = R.toInt := by
      rw [Int64.toInt_toInt32, Int.bmod_eq_of_le (by omega) (by omega)]
    obtain ⟨d, U2, d1, d2, d3, d4, d5⟩ := draw_l (S := S) hM6 hMK (r := R) rb.1 (by omega) M fu fu 0 U1 0 R.toInt32 (-1) s2 (by omega) (by show _ < 10000; omega) (by show _ < 10000; omega) rfl (by decide) (by rw [e32]; show _ = _ - (0 : Int); omega) (by show (0 : Int) ≤ _; omega)
    have d3 : f_X5_firstAbove S R = some (Int32.ofNat d) := d3
    obtain ⟨m', m1, m2, m3⟩ := hMK.draw hM6 hm d1
    have o6 : ok (Int32.ofNat d) 6 := on_ok (by omega) (by omega)
    have nd : ¬ Int32.ofNat d = -1 := fun e => by
      have := on_I (k := d) (by omega)
      rw [e] at this
      have z : (-1 : Int32).toInt = -1 := rfl
      omega
    have e7 : cA (sA S 7 d 0) 7 = upd (cA S 7) d 0 := rfl
    have nzd : ¬ cA S 7 d = 0 := fun e => by rw [e] at d2; exact absurd d2 (by decide)
    have su := (sumW_upd (W := cA S 7) (d := d) M).2 d1
    have bd := hMK.b d d1
    have ex := i32_inc (x := x) (by omega)
    obtain ⟨w, S2, U3, w1, w2, w3, w4⟩ := ih n n' (sA S 7 d 0) U2 Y (sum - (cA S 7 d).toInt64) m' (10 * dg + Int32.ofNat d) (x + 1) (hr.w7 d 0) d5 (by omega) (by omega) (by omega) (by omega) bX (by rw [l64_subI (by rw [to64]; omega), to64, hs, e7, su.1]) m1 (by rw [e7]; exact m3) (by rw [e7]; have := su.2 nzd; omega)
    refine ⟨w, S2, U3, ?_, ?_, w3, w4⟩
    · rw [l_X5_lot_38, if_neg c, if_neg c1, if_pos c2]
      rw [hXn, hR, d3, Option.bind_some, if_neg nd, if_pos o6, if_pos o6, on_N (by omega), Int32.mul_comm dg 10]
      exact w1
    · rw [l_X6_lot_37, if_neg c, s1, Option.bind_some]
      show (if ¬ s.toInt64 = 0 then _ else none) = _
      rw [es, hXn, hR, if_pos c2, d4, m2]
      exact w2
theorem nz_all {W : Nat → Int32} : ∀ n, (∀ i, i < n → 1 ≤ (W i).toInt) → nz W n = n := by
  intro n
  induction n with
  | zero => intro _; rfl
  | succ n ih =>
    intro hh
    show nz W n + (if W n = 0 then 0 else 1) = _
    rw [ih (fun i hi => hh i (by omega)), if_neg (fun e => by have := hh n (by omega); rw [e] at this; exact absurd this (by decide))]
theorem Rel_lot : P_lot Rel := by
  intro h lk S T a1 a2 hr
  have hr0 : Rel h lk S (mS T 0 0) := hr
  unfold f_X5_lot f_X6_lot
  generalize mS T 0 0 = U at *
  obtain ⟨M, hM6, hM, hMI⟩ := many hr0
  have g2 : cR S lk.1 2 = U.2 1 2 := hr0.2.2.1.1.2.2
  have z1 : (1 : Int32).toInt = 1 := rfl
  by_cases c1 : a1 < 0
  · rw [if_pos c1, if_pos c1]
    exact ⟨_, _, rfl, rfl, rfl, hr0⟩
  · rw [if_neg c1, if_neg c1]
    by_cases c2 : 1 ≤ a2.toInt ∧ a2.toInt ≤ (U.2 1 2).toInt
    · rw [if_neg (by rw [i32_lt]; omega), g2, if_pos (by rw [i32_le]; omega), if_pos (in_t (a := 1) c2)]
      obtain ⟨s, S', s1, s2, s3, s4⟩ := wall_l hMI 6 fu 0 S 0 hr0 (by omega) (by decide) rfl (fun i hi => by omega)
      have s1 : f_X5_weighAll h lk S = some (s, S') := s1
      rw [s1, Option.bind_some]
      have hk : MK U M (Int32.ofNat 0) (cA S' 7) := fun i hi => Or.inr ⟨bit0 i (by omega), (s4 i (by omega)).1 hi⟩
      have hnz : nz (cA S' 7) M = M := nz_all M (fun i hi => ((s4 i (by omega)).1 hi).1.1)
      rw [i32_lt] at c1
      have c1 : ¬ a1.toInt < 0 := c1
      have a31 := Int32.toInt_lt a1
      obtain ⟨w, S2, U2, w1, w2, w3, w4⟩ := lot_l (a2 := a2) hM6 hM (by omega) a2.toInt.toNat fu fu S' U a1.toInt64 s.toInt64 0 0 0 s2 (FrT.refl U) (by decide) (by show (0 : Int) + _ = _; omega) (by show _ < 10000; omega) (by show _ < 10000; omega) (by rw [to64]; omega) (by rw [to64, s3, sumW_tail (m := M) 6 hM6 (fun i h1 h2 => (s4 i h2).2 h1)]) (by decide) hk (by rw [hnz]; omega)
      exact ⟨_, _, w1, w2, rfl, w3.fr (FrS.refl S2) w4⟩
    · rw [in_f (a := 1) (by rw [z1]; exact c2), if_neg (show ¬ false = true by decide)]
      refine ⟨(-1, S), (-1, U), ?_, rfl, rfl, hr0⟩
      by_cases c3 : a2 < 1
      · rw [if_pos c3]
      · rw [if_neg c3, g2, if_neg (by rw [i32_lt] at c3; rw [i32_le]; omega)]
