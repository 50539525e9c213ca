theorem cR_sR_s (S : CS) (r f f' : Nat) (v : Int32) : cR (sR S r f v) r f' = if f' = f then v else cR S r f' := by
  show va_up S.2.1 r (va_up (S.2.1 r) f v) r f' = _
  rw [va_up_self]; rfl
theorem cR_sR_n (S : CS) (r f : Nat) (v : Int32) {r' : Nat} (h : r' ≠ r) : cR (sR S r f v) r' = cR S r' := by
  show va_up S.2.1 r _ r' = _
  rw [va_up_ne _ _ h]; rfl
theorem FrO.sR {r : Nat} {S S' : CS} (h : FrO r S S') (f : Nat) (v : Int32) : FrO r S (sR S' r f v) := ⟨h.1, h.2.1, fun r' hr => (cR_sR_n _ _ _ _ hr).trans (h.2.2.1 r' hr), h.2.2.2⟩
theorem FrM.mA {T T' : MS} (h : FrM T T') (i : Nat) (v : Int32) : FrM T (mA T' 1 i v) := ⟨h.1, fun k hk => by rw [m2_mA, if_neg hk]; exact h.2 k hk⟩
theorem goOn_e {h : Nat → Bool} {r : Nat} {S : CS} {T : MS} {d hh : Int32} (hg : RgRel h r S (T.2 1)) (hd : 0 ≤ d.toInt ∧ d.toInt ≤ 999) (hH : 0 ≤ hh.toInt ∧ hh.toInt ≤ 23) : (f_X0_goOn h S r d hh = some (-1, S) ∧ f_X6_isBehind T d hh = false) ∨ ∃ v S' T', f_X0_goOn h S r d hh = some (v, S') ∧ f_X6_isBehind T d hh = true ∧ f_X6_goesOn T d hh = some (v, T') ∧ 0 ≤ v.toInt ∧ RgRel h r S' (T'.2 1) ∧ FrO r S S' ∧ FrM T T' := by
  obtain ⟨rn, lts⟩ := hg.toN
  obtain ⟨⟨r0, r1, r2⟩, ⟨b0, b1, b2⟩, -, -⟩ := id rn
  have B0 := b0.1
  have B0' := b0.2
  have B1 := b1.1
  have B1' := b1.2
  have B2 := b2.1
  have B2' := b2.2
  have hM : T.2 1 2 = Int32.ofNat (T.2 1 2).toNatClampNeg := on_of B2 (by omega)
  have hM6 : (T.2 1 2).toNatClampNeg ≤ 6 := by rw [i32_nc]; omega
  generalize hMM : (T.2 1 2).toNatClampNeg = M at *
  have cd : f_X5_canBeDay d = true := by
    unfold f_X5_canBeDay
    rw [if_neg (by rw [i32_lt]; show ¬ _ < (0 : Int); omega), if_neg (by rw [i32_lt]; show ¬ (999 : Int) < _; omega)]
  have ch : f_X5_canBeHour hh = true := by
    unfold f_X5_canBeHour
    rw [if_neg (by rw [i32_lt]; show ¬ _ < (0 : Int); omega), if_neg (by rw [i32_le]; show ¬ (24 : Int) ≤ _; omega)]
  have hT : (f_X0_hoursTo S r d hh).toInt = (d.toInt - (T.2 1 0).toInt) * 24 + hh.toInt - (T.2 1 1).toInt := by
    unfold f_X0_hoursTo
    rw [r0, r1]
    have e1 : (d - T.2 1 0).toInt = d.toInt - (T.2 1 0).toInt := i32_subI (by omega)
    have e2 : ((d - T.2 1 0) * 24).toInt = (d.toInt - (T.2 1 0).toInt) * 24 := by
      rw [i32_mulI (y := 24) (by rw [e1]; show _ ≤ _ * (24 : Int) ∧ _ * (24 : Int) ≤ _; omega), e1]; rfl
    have e3 : ((d - T.2 1 0) * 24 + hh).toInt = (d.toInt - (T.2 1 0).toInt) * 24 + hh.toInt := by
      rw [i32_addI (by rw [e2]; omega), e2]
    rw [i32_subI (by rw [e3]; omega), e3]
  unfold f_X0_goOn f_X6_isBehind
  rw [if_pos cd, if_pos ch]
  by_cases c : 0 < (d.toInt - (T.2 1 0).toInt) * 24 + hh.toInt - (T.2 1 1).toInt
  · right
    rw [if_pos (show 0 < f_X0_hoursTo S r d hh from by rw [i32_lt, hT]; exact c)]
    have e30 := day30 hd.1
    have e31 := day30 B0
    have q1 : (T.2 1 0 / 30 + 1).toInt = (T.2 1 0).toInt / 30 + 1 := by rw [i32_inc (by omega), e31]
    have hle : (T.2 1 0).toInt ≤ d.toInt := by omega
    obtain ⟨v, S', T', v1, v2, v3, v4, v5, v6, v7, v8, v9, v10⟩ := quarts_l (h := h) (r := r) (hh := hh) hM6 hd (d.toInt / 30 - (T.2 1 0).toInt / 30).toNat fu fu S T 0 (T.2 1 0 / 30 + 1) (rn.mono hle) hM (by omega) (by omega) (by show _ < 10000; omega) (by show _ < 10000; omega) (by show (0 : Int) ≤ 0 ∧ (0 : Int) + _ ≤ _; omega)
    refine ⟨v, _, _, by rw [r0]; exact v1, ?_, v2, v3, ?_, (v8.sR 0 d).sR 1 hh, (v9.mA 0 d).mA 1 hh⟩
    · by_cases c1 : T.2 1 0 < d
      · rw [if_pos c1]
      · have e : d = T.2 1 0 := i32_ext (by rw [i32_lt] at c1; omega)
        rw [if_neg c1, if_pos e, if_neg (by rw [i32_le]; rw [e] at c; omega)]
    · obtain ⟨⟨g0, g1, g2⟩, ⟨p0, p1, p2⟩, g3, g4⟩ := v4
      have W : ∀ n, 2 ≤ n → (mA (mA T' 1 0 d) 1 1 hh).2 1 n = T'.2 1 n := fun n hn => by rw [m21, up_n _ _ (by omega), m21, up_n _ _ (by omega)]
      have W0 : (mA (mA T' 1 0 d) 1 1 hh).2 1 0 = d := by rw [m21, up_n _ _ (by omega), m21, up_s]
      have W1 : (mA (mA T' 1 0 d) 1 1 hh).2 1 1 = hh := by rw [m21, up_s]
      refine ⟨⟨?_, ?_, ?_⟩, ⟨?_, ?_, ?_⟩, fun k hk => ?_, fun i hi => ?_⟩
      · rw [W0, cR_sR_s, if_neg (by decide), cR_sR_s, if_pos rfl]
      · rw [W1, cR_sR_s, if_pos rfl]
      · rw [W 2 (by omega), cR_sR_s, if_neg (by decide), cR_sR_s, if_neg (by decide)]; exact g2
      · rw [W0]; exact hd
      · rw [W1]; exact hH
      · rw [W 2 (by omega)]; exact p2
      · rw [W _ (by omega)]; exact g3 k hk
      · rw [W 2 (by omega)] at hi
        obtain ⟨k1, k2, k3⟩ := g4 i hi
        have hiM : i < M := by rw [v10 2 (by omega), hMM] at hi; exact hi
        refine ⟨k1, SpN.r ?_ ?_ ?_⟩
        · rw [W0]
          exact k2.congr (fun f _ => rfl) rfl (fun e _ => W _ (by omega))
        · exact k3.sc rfl (fun e _ _ => W _ (by omega))
        · unfold Lt
          rw [W0, W _ (by omega), W _ (by omega)]
          have b6 := (rn.2.2.2 i (by rw [hMM]; exact hiM)).2.1.2.1.2.2.2.1
          by_cases k0 : d.toInt / 30 - (T.2 1 0).toInt / 30 = 0
          · obtain ⟨rfl, rfl⟩ := v5 (by omega)
            have ed : d / 30 = T'.2 1 0 / 30 := i32_ext (by omega)
            rw [ed]
            exact lts i hiM
          · have hz := v6 (by omega) i hiM
            have n6 : ¬ T'.2 1 (9 + 1288 * i + 6) = d / 30 := fun e => by
              rw [v7 i hiM] at e
              have := b6.2
              rw [e] at this
              omega
            rw [if_neg n6]
            exact hz
  · left
    rw [if_neg (show ¬ 0 < f_X0_hoursTo S r d hh from by rw [i32_lt, hT]; exact c)]
    refine ⟨rfl, ?_⟩
    have c1 : ¬ T.2 1 0 < d := by rw [i32_lt]; omega
    rw [if_neg c1]
    by_cases e : d = T.2 1 0
    · rw [if_pos e, if_pos (by rw [i32_le]; rw [e] at c; omega)]
    · rw [if_neg e]
theorem day_e {d : Int32} : f_X5_canBeDay d = f_X6_in d 0 999 := rfl
theorem hour_e {d : Int32} : f_X5_canBeHour d = f_X6_in d 0 23 := by
  unfold f_X5_canBeHour f_X6_in
  by_cases c : d < 0
  · rw [if_pos c, if_pos c]
  · rw [if_neg c, if_neg c]
    by_cases c2 : (24 : Int32) ≤ d
    · rw [if_pos c2, if_pos (by rw [i32_le] at c2; have c2 : (24 : Int) ≤ d.toInt := c2; rw [i32_lt]; show (23 : Int) < _; omega)]
    · rw [if_neg c2, if_neg (by rw [i32_le] at c2; have c2 : ¬ (24 : Int) ≤ d.toInt := c2; rw [i32_lt]; show ¬ (23 : Int) < _; omega)]
theorem Rel_at : P_at Rel := by
  intro h lk S T a1 a2 hr
  have hr0 : Rel h lk S (mS T 0 0) := hr
  unfold f_X5_at f_X6_at
  generalize mS T 0 0 = U at *
  by_cases c1 : 0 ≤ a1.toInt ∧ a1.toInt ≤ 999
  · rw [if_pos (in_t (a := 0) (b := 999) c1)]
    by_cases c2 : 0 ≤ a2.toInt ∧ a2.toInt ≤ 23
    · rw [if_pos (in_t (a := 0) (b := 23) c2)]
      rcases goOn_e hr0.2.2.1 c1 c2 with ⟨s1, s2⟩ | ⟨v, S', T', v1, v2, v3, v4, v5, v6, v7⟩
      · rw [s1, s2]
        exact ⟨(-1, S), (-1, U), rfl, rfl, rfl, hr0⟩
      · rw [v1, v2, v3]
        exact ⟨(v, S'), (v, T'), rfl, rfl, rfl, hr0.op hr0.1 v6 v7 v5⟩
    · rw [in_f (a := 0) (b := 23) c2]
      refine ⟨(-1, S), (-1, U), ?_, rfl, rfl, hr0⟩
      unfold f_X0_goOn
      rw [day_e, if_pos (in_t (a := 0) (b := 999) c1), hour_e, in_f (a := 0) (b := 23) c2]
      rfl
  · rw [in_f (a := 0) (b := 999) c1]
    refine ⟨(-1, S), (-1, U), ?_, rfl, rfl, hr0⟩
    unfold f_X0_goOn
    rw [day_e, in_f (a := 0) (b := 999) c1]
    rfl
/-! an athlete more -/
theorem fill_l {j : Nat} : ∀ (k n i : Nat) (S : CS), i + k = 1100 → k < n → ∃ S', l_J7_fill_53178_5 j n S 0 (Int32.ofNat i) 1100 = some S' ∧ FrJ j S S' ∧ cP S' = cP S ∧ (∀ d, i ≤ d → d < 1100 → cQ S' j 3 d = 0) ∧ ∀ d, d < i → cQ S' j 3 d = cQ S j 3 d := by
  intro k
  induction k with
  | zero =>
    intro n i S hi hn
    obtain ⟨n, rfl⟩ : ∃ z, n = z + 1 := ⟨n - 1, by omega⟩
    have e : i = 1100 := by omega
    subst e
    exact ⟨S, by rw [l_J7_fill_53178_5, if_pos (by decide)], FrJ.refl j S, rfl, fun d h1 h2 => by omega, fun _ _ => rfl⟩
  | succ k ih =>
    intro n i S hi hn
    obtain ⟨n, rfl⟩ : ∃ z, n = z + 1 := ⟨n - 1, by omega⟩
    have c : ¬ (1100 : Int32) ≤ Int32.ofNat i := by rw [i32_le, on_I (by omega)]; show ¬ (1100 : Int) ≤ _; omega
    obtain ⟨S', s1, s2, s3, s4, s5⟩ := ih n (i + 1) (sQ S j 3 i 0) (by omega) (by omega)
    refine ⟨S', ?_, ((FrJ.refl j S).sQ 3 i 0).trans s2, s3, fun d h1 h2 => ?_, fun d h1 => ?_⟩
    · rw [l_J7_fill_53178_5, if_neg c, if_pos (on_ok (by omega) (by omega)), on_N (by omega), on_S]; exact s1
    · by_cases e : d = i
      · subst e; rw [s5 d (by omega), cQ_sQ_s, if_pos rfl, up_s]
      · exact s4 d (by omega) h2
    · rw [s5 d (by omega), cQ_sQ_s, if_pos rfl, up_n _ _ (by omega)]
def cm (T : MS) (o : Nat) (risk : Int32) : MS := mA (mA (mA (mA (mA T 1 o risk) 1 (o + 1) (T.2 1 0)) 1 (o + 4) (-1)) 1 (o + 6) (-1)) 1 2 (T.2 1 2 + 1)
theorem comes_l {a risk : Int32} {o : Nat} (hA : 0 ≤ a.toInt ∧ a.toInt < 6) (ho : o = 9 + 1288 * a.toNatClampNeg) : ∀ (k n i : Nat) (T : MS), i + k = 1288 → k < n → ∃ T', l_X6_comes_9 n T risk a (Int32.ofNat i) = some (a, cm T' o risk) ∧ FrW o T T' ∧ (∀ e, i ≤ e → e < 1288 → T'.2 1 (o + e) = 0) ∧ ∀ e, e < i → T'.2 1 (o + e) = T.2 1 (o + e) := by
  intro k
  induction k with
  | zero =>
    intro n i T hi hn
    obtain ⟨n, rfl⟩ : ∃ z, n = z + 1 := ⟨n - 1, by omega⟩
    have e : i = 1288 := by omega
    subst e
    have c0 := cell_e (a := a) (k := 0) hA (by decide)
    have c1 := cell_e (a := a) (k := 1) hA (by decide)
    have c4 := cell_e (a := a) (k := 4) hA (by decide)
    have c6 := cell_e (a := a) (k := 6) hA (by decide)
    have K0 : (f_X6_cell a 0).toNatClampNeg = o := by rw [c0.2.2, ho]; rfl
    have K1 : (f_X6_cell a 1).toNatClampNeg = o + 1 := by rw [c1.2.2, ho]; rfl
    have K4 : (f_X6_cell a 4).toNatClampNeg = o + 4 := by rw [c4.2.2, ho]; rfl
    have K6 : (f_X6_cell a 6).toNatClampNeg = o + 6 := by rw [c6.2.2, ho]; rfl
    have z0 : (mA T 1 o risk).2 1 0 = T.2 1 0 := by rw [m21, up_n _ _ (by omega)]
    have z2 : (mA (mA (mA (mA T 1 o risk) 1 (o + 1) (T.2 1 0)) 1 (o + 4) (-1)) 1 (o + 6) (-1)).2 1 2 = T.2 1 2 := by
      rw [m21, up_n _ _ (by omega), m21, up_n _ _ (by omega), m21, up_n _ _ (by omega), m21, up_n _ _ (by omega)]
    refine ⟨T, ?_, FrW.refl o T, fun e h1 h2 => by omega, fun _ _ => rfl⟩
    rw [l_X6_comes_9, if_pos (by decide), if_pos c0.2.1, if_pos c1.2.1, if_pos c4.2.1, if_pos c6.2.1, K0, K1, K4, K6, z0, z2]
    rfl
  | succ k ih =>
    intro n i T hi hn
    obtain ⟨n, rfl⟩ : ∃ z, n = z + 1 := ⟨n - 1, by omega⟩
    have c : ¬ (1288 : Int32) ≤ Int32.ofNat i := by rw [i32_le, on_I (by omega)]; show ¬ (1288 : Int) ≤ _; omega
    have ce := cell_e (a := a) (k := Int32.ofNat i) hA (by rw [on_I (by omega)]; omega)
    have K : (f_X6_cell a (Int32.ofNat i)).toNatClampNeg = o + i := by rw [ce.2.2, ho, on_N (by omega)]
    obtain ⟨T', t1, t2, t3, t4⟩ := ih n (i + 1) (mA T 1 (o + i) 0) (by omega) (by omega)
    refine ⟨T', ?_, ((FrW.refl o T).mA (by omega) 0).trans t2, fun e h1 h2 => ?_, fun e h1 => ?_⟩
    · rw [l_X6_comes_9, if_neg c, if_pos ce.2.1, K, on_S]; exact t1
    · by_cases y : e = i
      · subst y; rw [t4 e (by omega), m21, up_s]
      · exact t3 e (by omega) h2
    · rw [t4 e (by omega), m21, up_n _ _ (by omega)]
