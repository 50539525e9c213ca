set_option maxRecDepth 100000 in
theorem bits_e : ∀ m : Fin 64, f_X6_bits (Int32.ofNat m.1) = some (f_J6_bitCount_0f7a4 (Int32.ofNat m.1)) := by
  decide +kernel
theorem bits_0 : f_J6_bitCount_0f7a4 0 = 0 := by decide +kernel
theorem there2 {h : Nat → Bool} {r M : Nat} {S : CS} {T : MS} (hg : RgRel h r S (T.2 1)) (hM6 : M ≤ 6) (hM : T.2 1 2 = Int32.ofNat M) {d hh p : Int32} (hd : 0 ≤ d.toInt ∧ d.toInt < 1100) : ∀ (k n n' m x : Nat), m < 64 → x + k = M → k < n → k < n' → ∃ m', m' < 64 ∧ l_X0_bitsOfThose_22 h r S n d (f_X1_slotOf hh p) (Int32.ofNat m) (Int32.ofNat x) = some (Int32.ofNat m') ∧ l_X6_thereAt_6 T n' d hh p (Int32.ofNat m) (Int32.ofNat x) = some (Int32.ofNat m') := by
  have g3 := hg.1.2.2
  intro k
  induction k with
  | zero =>
    intro n n' m x hm hx hn hn'
    obtain ⟨n, rfl⟩ : ∃ z, n = z + 1 := ⟨n - 1, by omega⟩
    obtain ⟨n', rfl⟩ : ∃ z, n' = z + 1 := ⟨n' - 1, by omega⟩
    have c : Int32.ofNat M ≤ Int32.ofNat x := by rw [i32_le, on_I (by omega), on_I (by omega)]; omega
    refine ⟨m, hm, ?_, ?_⟩
    · rw [l_X0_bitsOfThose_22, g3, hM, if_pos c]
    · rw [l_X6_thereAt_6, hM, if_pos c]
  | succ k ih =>
    intro n n' m x hm hx hn hn'
    obtain ⟨n, rfl⟩ : ∃ z, n = z + 1 := ⟨n - 1, by omega⟩
    obtain ⟨n', rfl⟩ : ∃ z, n' = z + 1 := ⟨n' - 1, by omega⟩
    have c : ¬ Int32.ofNat M ≤ Int32.ofNat x := by rw [i32_le, on_I (by omega), on_I (by omega)]; omega
    obtain ⟨f1, f2, f3, f4, f5⟩ := find_t hg (a := Int32.ofNat x) (by rw [hM, on_I (by omega), on_I (by omega)]; omega)
    have hf := filed_e f5 ⟨by rw [on_I (by omega)]; omega, f3⟩ hd
    rw [l_X0_bitsOfThose_22, g3, hM, if_neg c, f1, Option.bind_some, oC_s, if_pos (ok_t hd), l_X6_thereAt_6, hM, if_neg c, hf.1, Option.bind_some, slot_e, on_S]
    by_cases e : cQ S (6 * r + (Int32.ofNat x).toNatClampNeg) 3 d.toNatClampNeg = f_X1_slotOf hh p
    · obtain ⟨b1, b2, -⟩ := bit_d ⟨m, hm⟩ ⟨x, by omega⟩
      rw [if_pos e, if_pos e]
      rw [show (Int32.ofNat m ||| ((1 : Int32) <<< (Int32.ofNat x &&& 31))) = Int32.ofNat (m ||| 2 ^ x) from b2]
      exact ih n n' _ (x + 1) b1 (by omega) (by omega) (by omega)
    · have e0 : Int32.ofNat m ||| 0 = Int32.ofNat m := by simp
      rw [if_neg e, if_neg e, e0]
      exact ih n n' _ (x + 1) hm (by omega) (by omega) (by omega)
theorem there3 {h : Nat → Bool} {r M : Nat} {S : CS} {T : MS} (hg : RgRel h r S (T.2 1)) (hM6 : M ≤ 6) (hM : T.2 1 2 = Int32.ofNat M) {d : Int32} (hd : 0 ≤ d.toInt ∧ d.toInt < 1100) (hh p : Int32) : ∃ m', m' < 64 ∧ f_X0_bitsOfThose h S r d hh p = some (Int32.ofNat m') ∧ f_X6_thereAt T d hh p = some (Int32.ofNat m') := by
  obtain ⟨m', m1, m2, m3⟩ := there2 hg hM6 hM (hh := hh) (p := p) hd M fu fu 0 0 (by decide) (by omega) (by show _ < 10000; omega) (by show _ < 10000; omega)
  refine ⟨m', m1, ?_, m3⟩
  unfold f_X0_bitsOfThose
  rw [if_pos (fday_t hd).1]
  exact m2
theorem best_l {h : Nat → Bool} {r M : Nat} {S : CS} {T : MS} (hg : RgRel h r S (T.2 1)) (hM6 : M ≤ 6) (hM : T.2 1 2 = Int32.ofNat M) {d hh : Int32} (hd : 0 ≤ d.toInt ∧ d.toInt < 1100) : ∀ (k n n' x : Nat) (x3 x4 : Int32), x + k = 10 → k < n → k < n' → ∃ v, l_X0_fullestPlace_8 h r S n d hh x3 x4 (Int32.ofNat x) = some v ∧ l_X6_bestPlace_8 T n' d hh x3 x4 (Int32.ofNat x) = some v := by
  intro k
  induction k with
  | zero =>
    intro n n' x x3 x4 hx hn hn'
    obtain ⟨n, rfl⟩ : ∃ z, n = z + 1 := ⟨n - 1, by omega⟩
    obtain ⟨n', rfl⟩ : ∃ z, n' = z + 1 := ⟨n' - 1, by omega⟩
    have e : x = 10 := by omega
    subst e
    exact ⟨x3, by rw [l_X0_fullestPlace_8, if_pos (by decide)], by rw [l_X6_bestPlace_8, if_pos (by decide)]⟩
  | succ k ih =>
    intro n n' x x3 x4 hx hn hn'
    obtain ⟨n, rfl⟩ : ∃ z, n = z + 1 := ⟨n - 1, by omega⟩
    obtain ⟨n', rfl⟩ : ∃ z, n' = z + 1 := ⟨n' - 1, by omega⟩
    have c : ¬ (10 : Int32) ≤ Int32.ofNat x := by rw [i32_le, on_I (by omega)]; show ¬ (10 : Int) ≤ _; omega
    obtain ⟨m, m1, m2, m3⟩ := there3 hg hM6 hM hd hh (Int32.ofNat x)
    have hb : f_X6_bits (Int32.ofNat m) = some (f_J6_bitCount_0f7a4 (Int32.ofNat m)) := bits_e ⟨m, m1⟩
    rw [l_X0_fullestPlace_8, if_neg c, m2, Option.bind_some, l_X6_bestPlace_8, if_neg c, m3, Option.bind_some, hb, Option.bind_some, on_S]
    generalize f_J6_bitCount_0f7a4 (Int32.ofNat m) = q
    by_cases y : q ≤ x4
    · rw [if_pos y, if_pos y, if_pos y]
      exact ih n n' (x + 1) x3 x4 (by omega) (by omega) (by omega)
    · rw [if_neg y, if_neg y, if_neg y]
      exact ih n n' (x + 1) (Int32.ofNat x) q (by omega) (by omega) (by omega)
theorem best_e {h : Nat → Bool} {r M : Nat} {S : CS} {T : MS} (hg : RgRel h r S (T.2 1)) (hM6 : M ≤ 6) (hM : T.2 1 2 = Int32.ofNat M) {d : Int32} (hd : 0 ≤ d.toInt ∧ d.toInt < 1100) (hh : Int32) : ∃ v, f_X0_fullestPlace h S r d hh = some v ∧ f_X6_bestPlace T d hh = some v :=
  best_l hg hM6 hM hd 10 fu fu 0 (-1) 0 (by omega) (by decide) (by decide)
/-- hours at which nothing can be filed -/
theorem slot_no {hh p s : Int32} (hp : 0 ≤ p.toInt ∧ p.toInt ≤ 9) (h1 : 0 ≤ hh.toInt ∧ hh.toInt ≤ 23) (h2 : ¬ (5 ≤ hh.toInt ∧ hh.toInt ≤ 22)) (hs : s = 0 ∨ bt s 51 230) : ¬ s = f_X1_slotOf hh p := by
  have e0 : (hh * 10).toInt = hh.toInt * 10 := i32_mulI (y := 10) (by show _ ≤ _ * (10 : Int) ∧ _ * (10 : Int) ≤ _; omega)
  have e1 : (1 + hh * 10).toInt = 1 + hh.toInt * 10 := by rw [i32_addI (x := 1) (by rw [e0]; show _ ≤ (1 : Int) + _ ∧ (1 : Int) + _ ≤ _; omega), e0]; rfl
  have e2 : (f_X1_slotOf hh p).toInt = 1 + hh.toInt * 10 + p.toInt := by
    unfold f_X1_slotOf
    rw [i32_addI (by rw [e1]; omega), e1]
  intro e
  rw [e] at hs
  rcases hs with hs | hs
  · rw [hs] at e2; have z : (0 : Int32).toInt = 0 := rfl; omega
  · have a := hs.1; have b := hs.2; omega
theorem none_l {h : Nat → Bool} {r M : Nat} {S : CS} {w : Nat → Int32} (hg : RgRel h r S w) (hM6 : M ≤ 6) (hM : w 2 = Int32.ofNat M) {d hh p : Int32} (hd : 0 ≤ d.toInt ∧ d.toInt < 1100) (hp : 0 ≤ p.toInt ∧ p.toInt ≤ 9) (h1 : 0 ≤ hh.toInt ∧ hh.toInt ≤ 23) (h2 : ¬ (5 ≤ hh.toInt ∧ hh.toInt ≤ 22)) : ∀ (k n x : Nat), x + k = M → k < n → l_X0_bitsOfThose_22 h r S n d (f_X1_slotOf hh p) 0 (Int32.ofNat x) = some 0 := by
  have g3 := hg.1.2.2
  intro k
  induction k with
  | zero =>
    intro n x hx hn
    obtain ⟨n, rfl⟩ : ∃ z, n = z + 1 := ⟨n - 1, by omega⟩
    rw [l_X0_bitsOfThose_22, g3, hM, if_pos (by rw [i32_le, on_I (by omega), on_I (by omega)]; omega)]
  | succ k ih =>
    intro n x hx hn
    obtain ⟨n, rfl⟩ : ∃ z, n = z + 1 := ⟨n - 1, by omega⟩
    have c : ¬ Int32.ofNat M ≤ Int32.ofNat x := by rw [i32_le, on_I (by omega), on_I (by omega)]; omega
    obtain ⟨f1, f2, f3, f4, f5⟩ := find_t (T := ((fun _ => 0), (fun _ => w))) hg (a := Int32.ofNat x) (by show _ ∧ _ < (w 2).toInt; rw [hM, on_I (by omega), on_I (by omega)]; omega)
    have hf := filed_e f5 ⟨by rw [on_I (by omega)]; omega, f3⟩ hd
    rw [l_X0_bitsOfThose_22, g3, hM, if_neg c, f1, Option.bind_some, oC_s, if_pos (ok_t hd), if_neg (slot_no hp h1 h2 hf.2), on_S]
    exact ih n (x + 1) (by omega) (by omega)
theorem nobest_l {h : Nat → Bool} {r M : Nat} {S : CS} {w : Nat → Int32} (hg : RgRel h r S w) (hM6 : M ≤ 6) (hM : w 2 = Int32.ofNat M) {d hh : Int32} (hd : 0 ≤ d.toInt ∧ d.toInt < 1100) (h1 : 0 ≤ hh.toInt ∧ hh.toInt ≤ 23) (h2 : ¬ (5 ≤ hh.toInt ∧ hh.toInt ≤ 22)) : ∀ (k n x : Nat), x + k = 10 → k < n → l_X0_fullestPlace_8 h r S n d hh (-1) 0 (Int32.ofNat x) = some (-1) := by
  intro k
  induction k with
  | zero =>
    intro n x hx hn
    obtain ⟨n, rfl⟩ : ∃ z, n = z + 1 := ⟨n - 1, by omega⟩
    have e : x = 10 := by omega
    subst e
    rw [l_X0_fullestPlace_8, if_pos (by decide)]
  | succ k ih =>
    intro n x hx hn
    obtain ⟨n, rfl⟩ : ∃ z, n = z + 1 := ⟨n - 1, by omega⟩
    have c : ¬ (10 : Int32) ≤ Int32.ofNat x := by rw [i32_le, on_I (by omega)]; show ¬ (10 : Int) ≤ _; omega
    have hb : f_X0_bitsOfThose h S r d hh (Int32.ofNat x) = some 0 := by
      unfold f_X0_bitsOfThose
      rw [if_pos (fday_t hd).1]
      exact none_l hg hM6 hM hd (by rw [on_I (by omega)]; omega) h1 h2 M fu 0 (by omega) (by show _ < 10000; omega)
    rw [l_X0_fullestPlace_8, if_neg c, hb, Option.bind_some, bits_0, if_pos (by decide), on_S]
    exact ih n (x + 1) (by omega) (by omega)
theorem hours_l {h : Nat → Bool} {lk : Nat × Nat} {M : Nat} {S : CS} {T : MS} (hg : RgRel h lk.1 S (T.2 1)) (hM6 : M ≤ 6) (hM : T.2 1 2 = Int32.ofNat M) {d : Int32} (hd : 0 ≤ d.toInt ∧ d.toInt < 1100) : ∀ (k n n' x : Nat) (acc : Int32), x + k = 23 → k < n → k < n' → (∃ v, l_X5_hoursOfRound_4 h lk S n d acc (Int32.ofNat x) = some v ∧ l_X6_round_81 n' T d 0 acc (Int32.ofNat x) = some (v, T)) ∧ ∃ v, l_X5_athletesOfRound_4 h lk S n d acc (Int32.ofNat x) = some v ∧ l_X6_round_81 n' T d 1 acc (Int32.ofNat x) = some (v, T) := by
  intro k
  induction k with
  | zero =>
    intro n n' x acc hx hn hn'
    obtain ⟨n, rfl⟩ : ∃ z, n = z + 1 := ⟨n - 1, by omega⟩
    obtain ⟨n', rfl⟩ : ∃ z, n' = z + 1 := ⟨n' - 1, by omega⟩
    have e : x = 23 := by omega
    subst e
    have c : (22 : Int32) < Int32.ofNat 23 := by decide
    exact ⟨⟨acc, by rw [l_X5_hoursOfRound_4, if_pos c], by rw [l_X6_round_81, if_pos c]⟩, ⟨acc, by rw [l_X5_athletesOfRound_4, if_pos c], by rw [l_X6_round_81, if_pos c]⟩⟩
  | succ k ih =>
    intro n n' x acc hx hn hn'
    obtain ⟨n, rfl⟩ : ∃ z, n = z + 1 := ⟨n - 1, by omega⟩
    obtain ⟨n', rfl⟩ : ∃ z, n' = z + 1 := ⟨n' - 1, by omega⟩
    have c : ¬ (22 : Int32) < Int32.ofNat x := by rw [i32_lt, on_I (by omega)]; show ¬ (22 : Int) < _; omega
    obtain ⟨v, v1, v2⟩ := best_e hg hM6 hM hd (Int32.ofNat x)
    obtain ⟨m, m1, m2, m3⟩ := there3 hg hM6 hM hd (Int32.ofNat x) v
    have hb : f_X6_bits (Int32.ofNat m) = some (f_J6_bitCount_0f7a4 (Int32.ofNat m)) := bits_e ⟨m, m1⟩
    rw [l_X5_hoursOfRound_4, if_neg c, v1, Option.bind_some, l_X6_round_81, if_neg c, v2, Option.bind_some, on_S, l_X5_athletesOfRound_4, if_neg c, v1, Option.bind_some, l_X6_round_81, if_neg c, v2, Option.bind_some, on_S, m2, m3]
    simp only [Option.bind_some]
    rw [hb]
    simp only [Option.bind_some]
    by_cases y : v = -1
    · rw [if_pos y, if_pos y, if_pos y, if_pos y, Int32.add_zero]
      exact ih n n' (x + 1) acc (by omega) (by omega) (by omega)
    · rw [if_neg y, if_neg y, if_neg y, if_neg y, if_pos trivial, if_neg (show ¬ (1 : Int32) = 0 by decide)]
      exact ⟨(ih n n' (x + 1) (acc + 1) (by omega) (by omega) (by omega)).1, (ih n n' (x + 1) _ (by omega) (by omega) (by omega)).2⟩
theorem Rel_round : P_round Rel := by
  intro h lk S T a1 a2 a3 hr
  have hr0 : Rel h lk S (mS T 0 0) := hr
  unfold f_X5_round f_X6_round j_X6_round_38
  generalize mS T 0 0 = U at *
  obtain ⟨M, hM6, hM, hMI⟩ := many hr0
  have hg := hr0.2.2.1
  by_cases cd : 0 ≤ a1.toInt ∧ a1.toInt < 1100
  · obtain ⟨d1, d2, -, -⟩ := fday_t cd
    rw [if_pos d1, if_pos d2]
    by_cases c3 : 0 ≤ a3.toInt ∧ a3.toInt ≤ 1
    · rw [if_neg (by rw [i32_lt]; show ¬ _ < (0 : Int); omega), if_pos (by rw [i32_le]; exact c3.2), if_pos (in_t (a := 0) (b := 1) c3)]
      by_cases c2 : a2 = -1
      · rw [if_pos c2, if_pos c2, if_pos c2]
        obtain ⟨⟨v, v1, v2⟩, ⟨y, y1, y2⟩⟩ := hours_l hg hM6 hM cd 18 fu fu 5 0 (by omega) (by decide) (by decide)
        have v1 : f_X5_hoursOfRound h lk S a1 = some v := v1
        have y1 : f_X5_athletesOfRound h lk S a1 = some y := y1
        rcases (by omega : a3.toInt = 0 ∨ a3.toInt = 1) with e | e
        · obtain rfl : a3 = 0 := i32_ext e
          rw [if_pos rfl, v1]
          exact ⟨v, (v, U), rfl, v2, rfl, hr0⟩
        · obtain rfl : a3 = 1 := i32_ext e
          rw [if_neg (show ¬ (1 : Int32) = 0 by decide), y1]
          exact ⟨y, (y, U), rfl, y2, rfl, hr0⟩
      · rw [if_neg c2, if_neg c2, if_neg c2]
        by_cases ch : 5 ≤ a2.toInt ∧ a2.toInt ≤ 22
        · have hH : f_X5_canBeHour a2 = true := by
            unfold f_X5_canBeHour
            rw [if_neg (by rw [i32_lt]; show ¬ _ < (0 : Int); omega), if_neg (by rw [i32_le]; show ¬ (24 : Int) ≤ _; omega)]
          rw [if_pos hH, if_pos (in_t (a := 5) (b := 22) ch)]
          obtain ⟨v, v1, v2⟩ := best_e hg hM6 hM cd a2
          obtain ⟨m, m1, m2, m3⟩ := there3 hg hM6 hM cd a2 v
          rw [v1, v2]
          simp only [Option.bind_some]
          rw [m2, m3]
          simp only [Option.bind_some]
          by_cases y : v = -1
          · rw [if_pos y, if_pos y]
            exact ⟨_, _, rfl, rfl, y.symm, hr0⟩
          · rw [if_neg y, if_neg y]
            by_cases z : a3 = 0
            · rw [if_pos z, if_pos z]
              exact ⟨_, _, rfl, rfl, rfl, hr0⟩
            · rw [if_neg z, if_neg z]
              exact ⟨_, _, rfl, rfl, rfl, hr0⟩
        · rw [in_f (a := 5) (b := 22) ch, if_neg (show ¬ false = true by decide)]
          refine ⟨-1, (-1, U), ?_, rfl, rfl, hr0⟩
          by_cases cH : f_X5_canBeHour a2 = true
          · have b : 0 ≤ a2.toInt ∧ a2.toInt ≤ 23 := by
              unfold f_X5_canBeHour at cH
              by_cases g1 : a2 < 0
              · rw [if_pos g1] at cH; exact absurd cH (by decide)
              · rw [if_neg g1] at cH
                by_cases g2 : (24 : Int32) ≤ a2
                · rw [if_pos g2] at cH; exact absurd cH (by decide)
                · rw [i32_lt] at g1; rw [i32_le] at g2
                  have g1 : ¬ a2.toInt < 0 := g1
                  have g2 : ¬ (24 : Int) ≤ a2.toInt := g2
                  omega
            have nb : f_X0_fullestPlace h S lk.1 a1 a2 = some (-1) := nobest_l hg hM6 hM cd b ch 10 fu 0 (by omega) (by decide)
            rw [if_pos cH, nb, Option.bind_some, if_pos rfl]
          · rw [if_neg cH]
    · rw [in_f (a := 0) (b := 1) c3, if_neg (show ¬ false = true by decide)]
      refine ⟨-1, (-1, U), ?_, rfl, rfl, hr0⟩
      by_cases g1 : a3 < 0
      · rw [if_pos g1]
      · rw [if_neg g1, if_neg (by rw [i32_lt] at g1; have g1 : ¬ a3.toInt < 0 := g1; rw [i32_le]; show ¬ _ ≤ (1 : Int); omega)]
  · obtain ⟨d1, d2⟩ := fday_f cd
    rw [d1, d2, if_neg (show ¬ false = true by decide), if_neg (show ¬ false = true by decide)]
    exact ⟨_, _, rfl, rfl, rfl, hr0⟩
