theorem nar_b {c : Int32} (h : c = 0 ∨ c = 1) : vp_nar .boolean c = c := by rcases h with rfl | rfl <;> rfl
theorem TW.put {S : CS} {T : MS} {x4 : Int32} {k : Nat} {dy : Nat → Int32} (hw : TW S T x4 k dy) {c : Int32} (hc : c = 0 ∨ c = 1) : TW (sA (sA (sF S 5 (Int32.ofNat (k + 1))) 2 k (dy k)) 3 k c) (mA (mA T 14 k c) 15 k c) x4 (k + 1) dy := by
  obtain ⟨⟨-, a2, a3, a4⟩, a5, a6, a7, a8, a9⟩ := hw
  refine ⟨⟨rfl, a2, a3, a4⟩, fun i hi => ?_, ⟨a6.1, ?_⟩, ⟨a7.1, a7.2.1, ?_⟩, a8, ?_⟩
  · show upd (cA S 2) k (dy k) i = dy i ∧ upd (cA S 3) k c i = upd (T.2 14) k c i ∧ (upd (T.2 14) k c i = 0 ∨ upd (T.2 14) k c i = 1) ∧ upd (T.2 15) k c i = if (cF S 6).toInt ≤ (i : Int) then upd (T.2 14) k c i else 0
    by_cases e : i = k
    · subst e
      rw [up_s, up_s, up_s, up_s, if_pos a6.2]
      exact ⟨rfl, rfl, hc, rfl⟩
    · rw [up_n _ _ e, up_n _ _ e, up_n _ _ e, up_n _ _ e]
      exact a5 i (by omega)
  · show (cF S 6).toInt ≤ ((k + 1 : Nat) : Int)
    have := a6.2; omega
  · show (T.1 17).toInt ≤ ((k + 1 : Nat) : Int)
    have := a7.2.2; omega
  · show (cF S 7 = -1 ∧ x4 = -1) ∨ (0 ≤ (cF S 7).toInt ∧ (cF S 7).toInt < ((k + 1 : Nat) : Int) ∧ x4 = dy (cF S 7).toNatClampNeg)
    rcases a9 with a9 | a9
    · exact Or.inl a9
    · exact Or.inr ⟨a9.1, by omega, a9.2.2⟩
/-- the reference closes what is open -/
theorem close_l {a : Int32} {k : Nat} (hk : k < 61) : ∀ (g n i : Nat) (T : MS), i + g = k + 1 → g < n → ∃ T' : MS, (∀ (r11 : MS → Int32 → Int32 → Int32 → Int32 → Int32 → Option MS) (x2 x3 x4 : Int32), l_X6_walksBy_195 r11 n T a x2 x3 x4 (Int32.ofNat k) (Int32.ofNat i) = r11 T' a x2 x3 x4 (Int32.ofNat (k + 1))) ∧ T'.1 = T.1 ∧ (∀ q, q ≠ 15 → T'.2 q = T.2 q) ∧ (∀ e, i ≤ e → e ≤ k → T'.2 15 e = 0) ∧ ∀ e, e < i → T'.2 15 e = T.2 15 e := by
  intro g
  induction g with
  | zero =>
    intro n i T hi hn
    obtain ⟨n, rfl⟩ : ∃ z, n = z + 1 := ⟨n - 1, by omega⟩
    have e : i = k + 1 := by omega
    subst e
    refine ⟨T, fun r11 x2 x3 x4 => ?_, rfl, fun _ _ => rfl, fun e h1 h2 => by omega, fun _ _ => rfl⟩
    rw [l_X6_walksBy_195, if_pos (by rw [i32_lt, on_I (by omega), on_I (by omega)]; omega), on_S]
  | succ g ih =>
    intro n i T hi hn
    obtain ⟨n, rfl⟩ : ∃ z, n = z + 1 := ⟨n - 1, by omega⟩
    obtain ⟨T', h1, h2, h3, h4, h5⟩ := ih n (i + 1) (mA T 15 i 0) (by omega) (by omega)
    refine ⟨T', fun r11 x2 x3 x4 => ?_, h2, fun q hq => (h3 q hq).trans (by rw [m2_mA, if_neg hq]), fun e he1 he2 => ?_, fun e he => ?_⟩
    · rw [l_X6_walksBy_195, if_neg (by rw [i32_lt, on_I (by omega), on_I (by omega)]; omega), if_pos (on_ok (by omega) (by omega)), on_N (by omega), on_S]
      exact h1 r11 x2 x3 x4
    · by_cases c : e = i
      · subst c
        rw [h5 e (by omega), m2_mA, if_pos rfl, up_s]
      · exact h4 e (by omega) he2
    · rw [h5 e (by omega), m2_mA, if_pos rfl, up_n _ _ (by omega)]
set_option maxHeartbeats 1000000 in
theorem walk_s {S : CS} {T : MS} {x4 a : Int32} {k : Nat} {dy : Nat → Int32} (hk : k < 61) (hw : TW S T x4 k dy) (hs3 : bt (T.2 1 3) 1 400) (hs5 : bt (T.2 1 5) 0 30) (hd : ∀ i, i ≤ k → (0 ≤ (dy i).toInt ∧ (dy i).toInt ≤ 999) ∧ ∀ T', FrT T T' → f_X6_dayOf T' a (Int32.ofNat i) = some (dy i)) (b : Bool) : ∃ S' T' x4', f_X2_add S (dy k) b = some S' ∧ (∀ (r11 : MS → Int32 → Int32 → Int32 → Int32 → Int32 → Option MS) (x2 x3 : Int32), j_X6_walksBy_62 r11 T a x2 x3 x4 (Int32.ofNat k) (bI b) = r11 T' a x2 x3 x4' (Int32.ofNat (k + 1))) ∧ TW S' T' x4' (k + 1) dy ∧ FrS S S' ∧ FrT T T' := by
  have hok : ok (Int32.ofNat k) 61 := on_ok hk (by omega)
  have hN : (Int32.ofNat k).toNatClampNeg = k := on_N (by omega)
  -- does it count?
  have hc : ∃ c : Int32, (c = 0 ∨ c = 1) ∧ f_X2_add S (dy k) b = j_X2_add_51 (sA (sF S 5 (Int32.ofNat (k + 1))) 2 k (dy k)) (dy k) (Int32.ofNat k) c (Int32.ofNat k) ∧ ∀ (r11 : MS → Int32 → Int32 → Int32 → Int32 → Int32 → Option MS) (x2 x3 : Int32), j_X6_walksBy_62 r11 T a x2 x3 x4 (Int32.ofNat k) (bI b) = j_X6_walksBy_109 r11 T a x2 x3 x4 (Int32.ofNat k) (dy k) c (Int32.ofNat k) := by
    unfold f_X2_add j_X6_walksBy_62
    obtain ⟨⟨a1, a2, a3, a4⟩, a5, a6, a7, a8, a9⟩ := hw
    have c1 : Int32.ofNat k < 61 := by rw [i32_lt, on_I (by omega)]; show _ < (61 : Int); omega
    rw [a1, if_pos c1, if_pos hok, hN, on_S, (hd k (Nat.le_refl _)).2 T (FrT.refl T)]
    simp only [Option.bind_some]
    cases b with
    | true => exact ⟨0, Or.inl rfl, by rw [if_pos rfl], fun r11 x2 x3 => by rw [if_neg (by decide)]⟩
    | false =>
      rw [if_neg (by decide)]
      unfold f_X2_isNoticed
      rcases a9 with ⟨b1, b2⟩ | ⟨b1, b2, b3⟩
      · have q1 : cF (sA (sF S 5 (Int32.ofNat (k + 1))) 2 k (dy k)) 7 = -1 := b1
        rw [q1, if_pos rfl]
        exact ⟨1, Or.inr rfl, by rfl, fun r11 x2 x3 => by rw [if_pos (by decide), if_pos b2]⟩
      · have q1 : cF (sA (sF S 5 (Int32.ofNat (k + 1))) 2 k (dy k)) 7 = cF S 7 := rfl
        have q2 : cF (sA (sF S 5 (Int32.ofNat (k + 1))) 2 k (dy k)) 4 = T.2 1 5 := a4
        have q3 : cA (sA (sF S 5 (Int32.ofNat (k + 1))) 2 k (dy k)) 2 (cF S 7).toNatClampNeg = dy (cF S 7).toNatClampNeg := by
          show upd (cA S 2) k (dy k) _ = _
          rw [up_n _ _ (by rw [i32_nc]; omega)]
          exact (a5 _ (by rw [i32_nc]; omega)).1
        have n1 : ¬ cF S 7 = -1 := fun e => by rw [e] at b1; exact absurd b1 (by decide)
        have d7 := (hd (cF S 7).toNatClampNeg (by rw [i32_nc]; omega)).1
        have dk := (hd k (Nat.le_refl _)).1
        have n2 : ¬ x4 = -1 := fun e => by
          rw [b3] at e; rw [e] at d7; exact absurd d7.1 (by decide)
        rw [q1, q2, if_neg n1, if_pos (ok_t (by omega)), q3, b3]
        rw [b3] at n2
        have s1 : (dy k - dy (cF S 7).toNatClampNeg).toInt = (dy k).toInt - (dy (cF S 7).toNatClampNeg).toInt := i32_subI (by omega)
        have s2 : (dy (cF S 7).toNatClampNeg + T.2 1 5).toInt = (dy (cF S 7).toNatClampNeg).toInt + (T.2 1 5).toInt := i32_addI (by have := hs5.1; have := hs5.2; omega)
        by_cases y : dy k - dy (cF S 7).toNatClampNeg < T.2 1 5
        · have y2 : dy k < dy (cF S 7).toNatClampNeg + T.2 1 5 := by rw [i32_lt] at *; omega
          rw [if_pos y]
          exact ⟨0, Or.inl rfl, by rfl, fun r11 x2 x3 => by rw [if_pos (by decide), if_neg n2, if_pos y2]⟩
        · have y2 : ¬ dy k < dy (cF S 7).toNatClampNeg + T.2 1 5 := by rw [i32_lt] at *; omega
          rw [if_neg y]
          exact ⟨1, Or.inr rfl, by rfl, fun r11 x2 x3 => by rw [if_pos (by decide), if_neg n2, if_neg y2]⟩
  obtain ⟨c, hc, e1, e2⟩ := hc
  have hp := hw.put hc
  have fs : FrS S (sA (sA (sF S 5 (Int32.ofNat (k + 1))) 2 k (dy k)) 3 k c) := (((FrS.refl S).sF (by omega) _).sA (by omega) _ _).sA (by omega) _ _
  have ft : FrT T (mA (mA T 14 k c) 15 k c) := ((FrT.refl T).mA (by omega) _ _).mA (by omega) _ _
  have t14 : (mA T 14 k c).2 14 k = c := by rw [m2_mA, if_pos rfl, up_s]
  have u1 : f_X2_add S (dy k) b = if c = 0 then some (sA (sA (sF S 5 (Int32.ofNat (k + 1))) 2 k (dy k)) 3 k c) else (f_X2_pointsOn (sF (sA (sA (sF S 5 (Int32.ofNat (k + 1))) 2 k (dy k)) 3 k c) 7 (Int32.ofNat k)) (dy k)).bind fun q4 => if q4 < cF S 3 then some (sF (sA (sA (sF S 5 (Int32.ofNat (k + 1))) 2 k (dy k)) 3 k c) 7 (Int32.ofNat k)) else if 61 ≤ cF S 1 then some (sF (sA (sA (sF S 5 (Int32.ofNat (k + 1))) 2 k (dy k)) 3 k c) 7 (Int32.ofNat k)) else if ok (cF S 1) 61 then some (sF (sF (sA (sF (sA (sA (sF S 5 (Int32.ofNat (k + 1))) 2 k (dy k)) 3 k c) 7 (Int32.ofNat k)) 4 (cF S 1).toNatClampNeg (dy k)) 1 (cF S 1 + 1)) 6 (Int32.ofNat (k + 1))) else none := by
    rw [e1]
    unfold j_X2_add_51
    rw [if_pos hok, if_pos hok, nar_b hc, hN]
    have t3 : cA (sA (sA (sF S 5 (Int32.ofNat (k + 1))) 2 k (dy k)) 3 k c) 3 k = c := by rw [cA_sA, if_pos rfl, up_s]
    rw [t3]
    rfl
  have u2 : ∀ (r11 : MS → Int32 → Int32 → Int32 → Int32 → Int32 → Option MS) (x2 x3 : Int32), j_X6_walksBy_62 r11 T a x2 x3 x4 (Int32.ofNat k) (bI b) = if c = 0 then r11 (mA (mA T 14 k c) 15 k c) a x2 x3 x4 (Int32.ofNat (k + 1)) else (f_X6_openBehind (mA (mA T 14 k c) 15 k c) a (Int32.ofNat (k + 1)) (dy k - T.2 1 3)).bind fun q7 => if T.2 1 4 ≤ q7 then (if ok (T.1 17) 61 then l_X6_walksBy_195 r11 fu (mS (mA (mA (mA T 14 k c) 15 k c) 16 (T.1 17).toNatClampNeg (dy k)) 17 (T.1 17 + 1)) a x2 x3 (dy k) (Int32.ofNat k) 0 else none) else r11 (mA (mA T 14 k c) 15 k c) a x2 x3 (dy k) (Int32.ofNat (k + 1)) := by
    intro r11 x2 x3
    rw [e2]
    unfold j_X6_walksBy_109
    rw [if_pos hok, if_pos hok, if_pos hok, if_pos hok, nar_b hc, hN, t14, nar_b hc]
    have t14' : (mA (mA T 14 k c) 15 k c).2 14 k = c := t14
    rw [t14', on_S]
    rfl
  by_cases z : c = 0
  · refine ⟨_, _, x4, by rw [u1, if_pos z], fun r11 x2 x3 => by rw [u2, if_pos z], hp, fs, ft⟩
  · generalize hS2 : sA (sA (sF S 5 (Int32.ofNat (k + 1))) 2 k (dy k)) 3 k c = S2 at *
    generalize hT2 : mA (mA T 14 k c) 15 k c = T2 at *
    have p := hp
    obtain ⟨⟨a1, a2, a3, a4⟩, a5, a6, a7, a8, a9⟩ := p
    have hw7 : TW (sF S2 7 (Int32.ofNat k)) T2 (dy k) (k + 1) dy := ⟨⟨a1, a2, a3, a4⟩, a5, a6, a7, a8, Or.inr ⟨by show 0 ≤ (Int32.ofNat k).toInt; rw [on_I (by omega)]; omega, by show (Int32.ofNat k).toInt < _; rw [on_I (by omega)]; omega, by show dy k = dy (Int32.ofNat k).toNatClampNeg; rw [hN]⟩⟩
    have t1 : T2.2 1 = T.2 1 := ft.2 1 (by omega)
    have t17 : T2.1 17 = T.1 17 := by rw [← hT2]; rfl
    have c1 : cF S 1 = T.1 17 := hw.2.2.2.1.1
    have c3 : cF S 3 = T.2 1 4 := hw.1.2.2.1
    have b17 := hw.2.2.2.1.2
    obtain ⟨v, v1, v2, v3, v4⟩ := pts_e (S := sF S2 7 (Int32.ofNat k)) (T := T2) (a := a) (d := dy k) (b := dy k - T.2 1 3) (m := k + 1) (dy := dy) (by omega) a1 (by show dy k - cF S2 2 = _; rw [a2, t1]) a6 (fun i hi => (hd i (by omega)).2 T2 ft) (fun i hi => ⟨(a5 i hi).1, (a5 i hi).2.1, (a5 i hi).2.2.2⟩)
    rw [if_neg z, v1, Option.bind_some, c3] at u1
    by_cases y : v < T.2 1 4
    · have y2 : ¬ T.2 1 4 ≤ v := by rw [i32_lt] at y; rw [i32_le]; omega
      refine ⟨_, _, dy k, by rw [u1, if_pos y], fun r11 x2 x3 => by rw [u2, if_neg z, v2, Option.bind_some, if_neg y2], hw7, fs.sF (by omega) _, ft⟩
    · have y2 : T.2 1 4 ≤ v := by rw [i32_lt] at y; rw [i32_le]; omega
      have g1 : ¬ (61 : Int32) ≤ T.1 17 := by rw [i32_le]; show ¬ (61 : Int) ≤ _; omega
      have g2 : ok (T.1 17) 61 := ok_t (by omega)
      rw [if_neg y, c1, if_neg g1, if_pos g2] at u1
      obtain ⟨T', h1, h2, h3, h4, h5⟩ := close_l (a := a) hk (k + 1) fu 0 (mS (mA T2 16 (T.1 17).toNatClampNeg (dy k)) 17 (T.1 17 + 1)) (by omega) (by show _ < 10000; omega)
      have i17 : (T.1 17 + 1).toInt = (T.1 17).toInt + 1 := i32_inc (by omega)
      have T17 : T'.1 17 = T.1 17 + 1 := by rw [h2]; rfl
      have ft' : FrT T T' := by
        refine ⟨fun q hq => ?_, fun q hq => ?_⟩
        · rw [h2, m1_mS, if_neg hq]; exact ft.1 q hq
        · rw [h3 q (by omega), m2_mS, m2_mA, if_neg (by omega)]; exact ft.2 q hq
      refine ⟨_, T', dy k, u1, fun r11 x2 x3 => ?_, ⟨⟨a1, ?_, ?_, ?_⟩, fun i hi => ?_, ⟨?_, ?_⟩, ⟨?_, ?_, ?_⟩, fun i hi => ?_, hw7.2.2.2.2.2⟩, ((((fs.sF (by omega) _).sA (by omega) _ _).sF (by omega) _).sF (by omega) _), ft'⟩
      · rw [u2, if_neg z, v2, Option.bind_some, if_pos y2, if_pos g2]
        exact h1 r11 x2 x3 (dy k)
      · show cF S2 2 = _
        rw [ft'.2 1 (by omega), a2, t1]
      · show cF S2 3 = _
        rw [ft'.2 1 (by omega), a3, t1]
      · show cF S2 4 = _
        rw [ft'.2 1 (by omega), a4, t1]
      · show cA S2 2 i = dy i ∧ cA S2 3 i = T'.2 14 i ∧ (T'.2 14 i = 0 ∨ T'.2 14 i = 1) ∧ T'.2 15 i = if (Int32.ofNat (k + 1)).toInt ≤ (i : Int) then T'.2 14 i else 0
        have t14 : T'.2 14 = T2.2 14 := by rw [h3 14 (by omega)]; rfl
        rw [t14, h4 i (by omega) (by omega), on_I (by omega), if_neg (by omega)]
        have := a5 i hi
        exact ⟨this.1, this.2.1, this.2.2.1, rfl⟩
      · show 0 ≤ (Int32.ofNat (k + 1)).toInt
        rw [on_I (by omega)]; omega
      · show (Int32.ofNat (k + 1)).toInt ≤ _
        rw [on_I (by omega)]; omega
      · show T.1 17 + 1 = _
        rw [T17]
      · rw [T17]; omega
      · rw [T17]; omega
      · rw [T17] at hi
        have t16 : T'.2 16 = upd (T2.2 16) (T.1 17).toNatClampNeg (dy k) := by rw [h3 16 (by omega)]; rfl
        show upd (cA S2 4) (T.1 17).toNatClampNeg (dy k) i = _
        rw [t16]
        by_cases e : i = (T.1 17).toNatClampNeg
        · subst e; rw [up_s, up_s]
        · rw [up_n _ _ e, up_n _ _ e]
          refine a8 i ?_
          rw [t17]
          rw [i32_nc] at *
          omega
