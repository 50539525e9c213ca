theorem SpRel.congr {S S' : CS} {j : Nat} {w w' : Nat → Int32} {o : Nat} (hp : cP S' j = cP S j) (hq : cQ S' j = cQ S j) (h0 : w' 0 = w 0) (hw : ∀ d, d < 1288 → w' (o + d) = w (o + d)) (hs : SpRel S j w o) : SpRel S' j w' o := by
  obtain ⟨⟨a1, a2, a3, a4, a5, a6, a7⟩, ⟨b1, b2, b3, b4, b5⟩, c, d⟩ := hs
  have e0 : w' o = w o := hw 0 (by decide)
  have e1 := hw 1 (by decide)
  have e2 := hw 2 (by decide)
  have e3 := hw 3 (by decide)
  have e4 := hw 4 (by decide)
  have e5 := hw 5 (by decide)
  have e6 := hw 6 (by decide)
  have e7 := hw 7 (by decide)
  refine ⟨?_, ?_, fun k hk => ?_, fun k hk => ?_⟩
  · rw [hp, h0, e0, e1, e2, e3, e4, e5, e6, e7]; exact ⟨a1, a2, a3, a4, a5, a6, a7⟩
  · rw [h0, e0, e1, e4, e6, e7]; exact ⟨b1, b2, b3, b4, b5⟩
  · rw [e7] at hk
    have k60 : k < 60 := by rw [i32_nc] at hk; have := b5.2; omega
    have e8 : w' (o + 8 + 3 * k) = w (o + 8 + 3 * k) := by rw [Nat.add_assoc]; exact hw _ (by omega)
    have e9 : w' (o + 9 + 3 * k) = w (o + 9 + 3 * k) := by rw [Nat.add_assoc]; exact hw _ (by omega)
    have e10 : w' (o + 10 + 3 * k) = w (o + 10 + 3 * k) := by rw [Nat.add_assoc]; exact hw _ (by omega)
    rw [hq, h0, e8, e9, e10]
    exact c k hk
  · have e : w' (o + 188 + k) = w (o + 188 + k) := by rw [Nat.add_assoc]; exact hw _ (by omega)
    rw [hq, e]
    exact d k hk
/-- a register after one of its sportsmen has changed -/
theorem RgRel.one {h : Nat → Bool} {r : Nat} {S S' : CS} {w w' : Nat → Int32} (hr : RgRel h r S w) (i : Nat) (h1 : cR S' = cR S) (h2 : cA S' r = cA S r) (hj : ∀ j, j ≠ 6 * r + i → cP S' j = cP S j ∧ cQ S' j = cQ S j) (hw : ∀ n, n < 9 + 1288 * i ∨ 9 + 1288 * (i + 1) ≤ n → w' n = w n) (hs : SpRel S' (6 * r + i) w' (9 + 1288 * i)) : RgRel h r S' w' := by
  obtain ⟨a1, a2, a3, a4⟩ := hr
  have w9 : ∀ n, n < 9 → w' n = w n := fun n hn => hw n (by omega)
  refine ⟨?_, ?_, fun k hk => ?_, fun i' hi' => ?_⟩
  · rw [h1, w9 0 (by omega), w9 1 (by omega), w9 2 (by omega)]; exact a1
  · rw [w9 0 (by omega), w9 1 (by omega), w9 2 (by omega)]; exact a2
  · rw [h2, w9 _ (by omega)]; exact a3 k hk
  · rw [w9 2 (by omega)] at hi'
    refine ⟨(a4 i' hi').1, ?_⟩
    by_cases e : i' = i
    · subst e; exact hs
    · have hj' := hj (6 * r + i') (by omega)
      refine (a4 i' hi').2.congr hj'.1 hj'.2 (w9 0 (by omega)) (fun d hd => hw _ ?_)
      rcases Nat.lt_or_gt_of_ne e with c | c
      · left; omega
      · right; omega
/-- the rest of the relation, where the tape and the tables stay -/
theorem Rel.reg {h h' : Nat → Bool} {lk : Nat × Nat} {S S' : CS} {T T' : MS} (hr : Rel h lk S T) (hw : cWf h' lk) (h5 : cA S' 5 = cA S 5) (hF : ∀ k, k = 0 ∨ k = 8 ∨ k = 14 → cF S' k = cF S k) (hT : T'.1 6 = T.1 6 ∧ T'.1 7 = T.1 7) (hT2 : ∀ k, k = 3 ∨ k = 4 ∨ k = 5 → T'.2 k = T.2 k) (hg : RgRel h' lk.1 S' (T'.2 1)) : Rel h' lk S' T' := by
  obtain ⟨-, hne, -, ⟨t1, t2, t3⟩, hf, hl, hb⟩ := hr
  refine ⟨hw, hne, hg, ⟨?_, ?_, fun i hi => ?_⟩, ?_, fun k hk => ?_, ?_⟩
  · rw [hF 8 (by omega), hT.1]; exact t1
  · rw [hT.1]; exact t2
  · rw [h5, hT2 5 (by omega)]; exact t3 i hi
  · rw [hF 0 (by omega), hT.2]; exact hf
  · rw [hT2 3 (by omega), hT2 4 (by omega)]; exact hl k hk
  · rw [hF 14 (by omega)]; exact hb
theorem oC_s {α : Type} (j : Nat) (a : α) (f : Nat → α) : oC (some j) a f = f j := rfl
theorem Rel_appeal : P_appeal Rel := by
  intro h lk S T a1 a2 hr
  have hr0 : Rel h lk S (mS T 0 0) := hr
  have hg : RgRel h lk.1 S ((mS T 0 0).2 1) := hr.2.2.1
  unfold f_X5_appeal f_X0_strike f_X6_appeal f_X6_isFailure
  generalize mS T 0 0 = U at *
  by_cases ca : 0 ≤ a1.toInt ∧ a1.toInt < (U.2 1 2).toInt
  · obtain ⟨f1, f2, f3, f4, f5⟩ := find_t hg ca
    have i7 : f_X6_its U a1 7 = some (U.2 1 (9 + 1288 * a1.toNatClampNeg + 7)) := its_e (k := 7) ⟨ca.1, f3⟩ (by decide)
    have p6 : cP S (6 * lk.1 + a1.toNatClampNeg) 6 = U.2 1 (9 + 1288 * a1.toNatClampNeg + 7) := f5.1.2.2.2.2.2.1
    have b6 : bt (U.2 1 (9 + 1288 * a1.toNatClampNeg + 7)) 0 60 := f5.2.1.2.2.2.2
    rw [f1, f2, if_pos rfl, i7]
    simp only [Option.bind_some]
    generalize hj : 6 * lk.1 + a1.toNatClampNeg = j at *
    generalize ho : 9 + 1288 * a1.toNatClampNeg = o at *
    have em : (U.2 1 (o + 7) - 1).toInt = (U.2 1 (o + 7)).toInt - 1 := i32_subI (y := 1) (by have := b6.1; have := b6.2; show _ ≤ _ - (1 : Int) ∧ _ - (1 : Int) ≤ _; omega)
    rw [oC_s]
    by_cases cf : 0 ≤ a2.toInt ∧ a2.toInt < (U.2 1 (o + 7)).toInt
    · have b60 : a2.toInt < 60 := by have := b6.2; omega
      have hf : f_X1_hasFailure S j a2 = true := by
        unfold f_X1_hasFailure
        rw [if_neg (by rw [i32_lt]; show ¬ _ < (0 : Int); omega), p6, if_neg (by rw [i32_le]; omega), if_neg (by rw [i32_le]; show ¬ (60 : Int) ≤ _; omega)]
      have hi : f_X6_in a2 0 (U.2 1 (o + 7) - 1) = true := in_t (a := 0) ⟨cf.1, by rw [em]; omega⟩
      rw [if_pos hf, if_pos hi]
      have k3 : (3 * a2 : Int32).toInt = 3 * a2.toInt := by
        rw [Int32.toInt_mul, show (3 : Int32).toInt = 3 from rfl, Int.bmod_eq_of_le (by omega) (by omega)]
      have k8 : (8 + 3 * a2 : Int32).toInt = 8 + 3 * a2.toInt := by
        rw [i32_addI (by rw [k3]; show _ ≤ (8 : Int) + _ ∧ (8 : Int) + _ ≤ _; omega), k3]; rfl
      have k10 : (8 + 3 * a2 + 2 : Int32).toInt = 10 + 3 * a2.toInt := by
        rw [i32_addI (by rw [k8]; show _ ≤ _ + (2 : Int) ∧ _ + (2 : Int) ≤ _; omega), k8]
        show _ + (2 : Int) = _
        omega
      have c8 := cell_e (a := a1) (k := 8 + 3 * a2) ⟨ca.1, f3⟩ (by omega)
      have c10 := cell_e (a := a1) (k := 8 + 3 * a2 + 2) ⟨ca.1, f3⟩ (by omega)
      rw [ho] at c8 c10
      have hk : a2.toNatClampNeg < (U.2 1 (o + 7)).toNatClampNeg := by rw [i32_nc, i32_nc]; omega
      obtain ⟨q0, q1, q2, q3, q4⟩ := f5.2.2.1 _ hk
      have n8 : o + (8 + 3 * a2 : Int32).toNatClampNeg = o + 8 + 3 * a2.toNatClampNeg := by rw [i32_nc, i32_nc]; omega
      have n10 : o + (8 + 3 * a2 + 2 : Int32).toNatClampNeg = o + 10 + 3 * a2.toNatClampNeg := by rw [i32_nc, i32_nc]; omega
      have s5 : cA S lk.1 5 = U.2 1 8 := (hg.2.2.1 5 (by decide)).1
      have ok6 : ok a2 60 := ok_t (by omega)
      unfold f_X6_strikes
      rw [if_pos ok6, if_pos ok6, if_pos ok6, if_pos c10.2.1, if_pos c8.2.1, if_pos c10.2.1, c8.2.2, c10.2.2, n8, n10, q2, q0, s5, hg.1.1]
      simp only [Option.bind_some, if_true]
      by_cases d1 : U.2 1 (o + 10 + 3 * a2.toNatClampNeg) = 1
      · rw [if_pos d1, if_pos d1]
        exact ⟨(false, S), (false, U), rfl, rfl, rfl, hr0⟩
      · rw [if_neg d1, if_neg d1]
        by_cases d2 : U.2 1 0 ≤ U.2 1 (o + 8 + 3 * a2.toNatClampNeg) + U.2 1 8
        · rw [if_pos d2, if_pos d2]
          refine ⟨(true, sQ S j 2 a2.toNatClampNeg 1), (true, mA U 1 (o + 10 + 3 * a2.toNatClampNeg) 1), rfl, rfl, rfl, ?_⟩
          have e1 : (mA U 1 (o + 10 + 3 * a2.toNatClampNeg) 1).2 1 = upd (U.2 1) (o + 10 + 3 * a2.toNatClampNeg) 1 := by simp [mA, va_up]
          have hu : ∀ n, n ≠ o + 10 + 3 * a2.toNatClampNeg → upd (U.2 1) (o + 10 + 3 * a2.toNatClampNeg) 1 n = U.2 1 n := fun n hn => by simp [upd, hn]
          have hk60 : a2.toNatClampNeg < 60 := by rw [i32_nc]; omega
          refine hr0.reg hr0.1 rfl (fun _ _ => rfl) ⟨rfl, rfl⟩ (fun k hk => va_up_ne _ _ (by omega)) ?_
          rw [e1]
          refine hg.one a1.toNatClampNeg rfl rfl (fun j' hj' => ⟨rfl, ?_⟩) (fun n hn => hu n (by omega)) ?_
          · show va_up S.2.2.2.2 j _ j' = _
            rw [va_up_ne _ _ (by omega)]
            rfl
          · rw [hj, ho]
            obtain ⟨s1, s2, s3, s4⟩ := f5
            have u : ∀ d, d < 8 → upd (U.2 1) (o + 10 + 3 * a2.toNatClampNeg) 1 (o + d) = U.2 1 (o + d) := fun d hd => hu _ (by omega)
            have u0 : upd (U.2 1) (o + 10 + 3 * a2.toNatClampNeg) 1 o = U.2 1 o := hu _ (by omega)
            have uz : upd (U.2 1) (o + 10 + 3 * a2.toNatClampNeg) 1 0 = U.2 1 0 := hu _ (by omega)
            have cq : cQ (sQ S j 2 a2.toNatClampNeg 1) j = va_up (cQ S j) 2 (upd (cQ S j 2) a2.toNatClampNeg 1) := by
              show va_up S.2.2.2.2 j _ j = _
              rw [va_up_self]
              rfl
            refine ⟨?_, ?_, fun k hk => ?_, fun d hd => ?_⟩
            · rw [u0, uz, u 1 (by omega), u 2 (by omega), u 3 (by omega), u 4 (by omega), u 5 (by omega), u 6 (by omega), u 7 (by omega)]; exact s1
            · rw [u0, uz, u 1 (by omega), u 4 (by omega), u 6 (by omega), u 7 (by omega)]; exact s2
            · rw [u 7 (by omega)] at hk
              have h9 := s3 k hk
              rw [uz, hu (o + 8 + 3 * k) (by omega), hu (o + 9 + 3 * k) (by omega), cq, va_up_ne _ _ (by decide), va_up_ne _ _ (by decide), va_up_self]
              by_cases ek : k = a2.toNatClampNeg
              · subst ek
                have e2 : upd (U.2 1) (o + 10 + 3 * a2.toNatClampNeg) 1 (o + 10 + 3 * a2.toNatClampNeg) = 1 := by simp [upd]
                have e3 : upd (cQ S j 2) a2.toNatClampNeg 1 a2.toNatClampNeg = 1 := by simp [upd]
                rw [e2, e3]
                exact ⟨h9.1, h9.2.1, rfl, h9.2.2.2.1, by decide, by decide⟩
              · have e3 : upd (cQ S j 2) a2.toNatClampNeg 1 k = cQ S j 2 k := by simp [upd, ek]
                rw [hu (o + 10 + 3 * k) (by omega), e3]
                exact h9
            · rw [cq, va_up_ne _ _ (by decide), hu (o + 188 + d) (by omega)]
              exact s4 d hd
        · rw [if_neg d2, if_neg d2]
          exact ⟨(false, S), (false, U), rfl, rfl, rfl, hr0⟩
    · have hf : ¬ f_X1_hasFailure S j a2 = true := by
        unfold f_X1_hasFailure
        by_cases c : a2 < 0
        · rw [if_pos c]; decide
        · rw [if_neg c, p6, if_pos (by rw [i32_lt] at c; have c : ¬ a2.toInt < 0 := c; rw [i32_le]; omega)]; decide
      have hi : ¬ f_X6_in a2 0 (U.2 1 (o + 7) - 1) = true := by rw [in_f (a := 0) (by rw [em]; show ¬ ((0 : Int) ≤ _ ∧ _); omega)]; decide
      rw [if_neg hf, if_neg hi]
      exact ⟨(false, S), (false, U), rfl, rfl, rfl, hr0⟩
  · obtain ⟨f1, f2⟩ := find_f hg ca
    rw [f1, f2, if_neg (by decide)]
    exact ⟨(false, S), (false, U), rfl, rfl, rfl, hr0⟩
