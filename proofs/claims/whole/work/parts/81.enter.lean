theorem zP_n (S : CS) (j : Nat) {j' : Nat} (h : j' ≠ j) : cP (zP S j) j' = cP S j' ∧ cQ (zP S j) j' = cQ S j' := by
  refine ⟨?_, ?_⟩
  · show va_up S.2.2.2.1 j _ j' = _
    rw [va_up_ne _ _ h]; rfl
  · show va_up S.2.2.2.2 j _ j' = _
    rw [va_up_ne _ _ h]; rfl
theorem begin_e (S : CS) (j : Nat) (risk day : Int32) : ∃ S', f_X1_begin S j risk day = some S' ∧ FrJ j S S' ∧ (cP S' j 0 = risk ∧ cP S' j 1 = day ∧ cP S' j 2 = 0 ∧ cP S' j 3 = 0 ∧ cP S' j 4 = 0 ∧ cP S' j 5 = -1 ∧ cP S' j 6 = 0) ∧ ∀ d, d < 1100 → cQ S' j 3 d = 0 := by
  obtain ⟨S', s1, s2, s3, s4, -⟩ := fill_l (j := j) 1100 fu 0 (sP (sP (sP (sP (sP (sP (sP S j 0 risk) j 1 day) j 2 0) j 3 0) j 4 0) j 5 (-1)) j 6 0) (by omega) (by decide)
  refine ⟨S', ?_, (((((((FrJ.refl j S).sP 0 risk).sP 1 day).sP 2 0).sP 3 0).sP 4 0).sP 5 (-1)).sP 6 0 |>.trans s2, ?_, fun d hd => s4 d (by omega) hd⟩
  · unfold f_X1_begin f_J7_fill_53178
    rw [show (0 : Int32) = Int32.ofNat 0 from rfl] at s1 ⊢
    rw [s1]; rfl
  · rw [s3]
    simp only [cP_sP_s, Nat.reduceEqDiff, if_false, if_true]
    exact ⟨trivial, trivial, trivial, trivial, trivial, trivial, trivial⟩
theorem risk_e {d : Int32} : f_X5_canBeRisk d = f_X6_in d 1 9 := rfl
set_option maxHeartbeats 1000000 in
theorem enter_e {h : Nat → Bool} {r : Nat} {S : CS} {T : MS} {a : Int32} (hg : RgRel h r S (T.2 1)) (ha : 1 ≤ a.toInt ∧ a.toInt ≤ 9) : (T.2 1 2 = 6 ∧ f_X0_enter h S r a = some (-2, S, h)) ∨ ∃ S' T' h', (T.2 1 2).toInt < 6 ∧ f_X0_enter h S r a = some (T.2 1 2, S', h') ∧ f_X6_comes T a = some (T.2 1 2, T') ∧ RgRel h' r S' (T'.2 1) ∧ FrO r S S' ∧ FrM T T' ∧ hle h h' ∧ ∀ j, j < 6 * r ∨ 6 * r + 6 ≤ j → h' j = h j := by
  obtain ⟨⟨r0, r1, r2⟩, ⟨b0, b1, b2⟩, g3, g4⟩ := id hg
  have B2 := b2.1
  have B2' := b2.2
  have hM : T.2 1 2 = Int32.ofNat (T.2 1 2).toNatClampNeg := on_of B2 (by omega)
  have hM6 : (T.2 1 2).toNatClampNeg ≤ 6 := by rw [i32_nc]; omega
  have hMI : (T.2 1 2).toInt = ((T.2 1 2).toNatClampNeg : Int) := by rw [i32_nc]; omega
  have rk : f_X5_canBeRisk a = true := risk_e.trans (in_t (a := 1) (b := 9) ha)
  have c0 : ¬ T.2 1 2 < 0 := by rw [i32_lt]; show ¬ _ < (0 : Int); omega
  unfold f_X0_enter
  rw [if_pos rk, r2, if_neg c0]
  by_cases c6 : (T.2 1 2).toInt < 6
  · right
    rw [if_pos (show T.2 1 2 < 6 from by rw [i32_lt]; exact c6)]
    generalize hMM : (T.2 1 2).toNatClampNeg = M at *
    have hA : 0 ≤ (T.2 1 2).toInt ∧ (T.2 1 2).toInt < 6 := ⟨B2, c6⟩
    -- the class's row
    have row : ∃ S1 h1, f_X0_rowOf h S r (T.2 1 2) = some (6 * r + M, S1, h1) ∧ FrJ (6 * r + M) S S1 ∧ hle h h1 ∧ h1 (6 * r + M) = true ∧ ∀ j, j ≠ 6 * r + M → h1 j = h j := by
      unfold f_X0_rowOf
      rw [if_pos (ok_t hA), hMM]
      by_cases y : h (6 * r + M) = true
      · rw [if_pos y]
        exact ⟨S, h, rfl, FrJ.refl _ S, fun j hj => hj, y, fun _ _ => rfl⟩
      · rw [if_neg y]
        refine ⟨_, _, rfl, ⟨rfl, rfl, rfl, fun j' hj' => zP_n S _ hj'⟩, fun j hj => ?_, va_up_self _ _ _, fun j hj => va_up_ne _ _ hj⟩
        by_cases e : j = 6 * r + M
        · subst e; exact va_up_self _ _ _
        · rw [va_up_ne _ _ e]; exact hj
    obtain ⟨S1, h1, w1, w2, w3, w4, w5⟩ := row
    have d1 : cR S1 r 0 = T.2 1 0 := by rw [w2.2.1]; exact r0
    obtain ⟨S2, s1, s2, ⟨q0, q1, q2, q3, q4, q5, q6⟩, s3⟩ := begin_e S1 (6 * r + M) a (T.2 1 0)
    have J : FrJ (6 * r + M) S S2 := w2.trans s2
    have d2 : cR S2 r 2 = T.2 1 2 := by rw [J.2.1]; exact r2
    obtain ⟨T0, t1, t2, t3, -⟩ := comes_l (a := T.2 1 2) (risk := a) (o := 9 + 1288 * M) hA (by rw [hMM]) 1288 fu 0 T (by omega) (by decide)
    have e0 : T0.2 1 0 = T.2 1 0 := t2.2.2 0 (by omega)
    have e2 : T0.2 1 2 = T.2 1 2 := t2.2.2 2 (by omega)
    refine ⟨sR S2 r 2 (T.2 1 2 + 1), cm T0 (9 + 1288 * M) a, h1, c6, ?_, t1, ?_, (J.o (by omega)).sR 2 _, ?_, w3, fun j hj => w5 j (by omega)⟩
    · rw [w1, Option.bind_some]
      show (f_X1_begin S1 (6 * r + M) a (cR S1 r 0)).bind _ = _
      rw [d1, s1, Option.bind_some, d2, cR_sR_s, if_pos rfl, Int32.add_sub_cancel]
    · have W : ∀ n, n ≠ 2 → (n < 9 + 1288 * M ∨ 9 + 1288 * M + 1288 ≤ n) → (cm T0 (9 + 1288 * M) a).2 1 n = T.2 1 n := fun n h1 h2 => by
        unfold cm
        rw [m21, up_n _ _ h1, m21, up_n _ _ (by omega), m21, up_n _ _ (by omega), m21, up_n _ _ (by omega), m21, up_n _ _ (by omega)]
        exact t2.2.2 n h2
      have W2 : (cm T0 (9 + 1288 * M) a).2 1 2 = T.2 1 2 + 1 := by unfold cm; rw [m21, up_s, e2]
      have X : ∀ e, e < 1288 → e ≠ 0 → e ≠ 1 → e ≠ 4 → e ≠ 6 → (cm T0 (9 + 1288 * M) a).2 1 (9 + 1288 * M + e) = 0 := fun e k0 k1 k2 k3 k4 => by
        unfold cm
        rw [m21, up_n _ _ (by omega), m21, up_n _ _ (by omega), m21, up_n _ _ (by omega), m21, up_n _ _ (by omega), m21, up_n _ _ (by omega)]
        exact t3 e (by omega) k0
      have X0 : (cm T0 (9 + 1288 * M) a).2 1 (9 + 1288 * M) = a := by
        unfold cm
        rw [m21, up_n _ _ (by omega), m21, up_n _ _ (by omega), m21, up_n _ _ (by omega), m21, up_n _ _ (by omega), m21, up_s]
      have X1 : (cm T0 (9 + 1288 * M) a).2 1 (9 + 1288 * M + 1) = T.2 1 0 := by
        unfold cm
        rw [m21, up_n _ _ (by omega), m21, up_n _ _ (by omega), m21, up_n _ _ (by omega), m21, up_s, e0]
      have X4 : (cm T0 (9 + 1288 * M) a).2 1 (9 + 1288 * M + 4) = -1 := by
        unfold cm
        rw [m21, up_n _ _ (by omega), m21, up_n _ _ (by omega), m21, up_s]
      have X6 : (cm T0 (9 + 1288 * M) a).2 1 (9 + 1288 * M + 6) = -1 := by
        unfold cm
        rw [m21, up_n _ _ (by omega), m21, up_s]
      generalize cm T0 (9 + 1288 * M) a = T' at *
      have i2 := i32_inc (x := T.2 1 2) (by omega)
      refine ⟨⟨?_, ?_, ?_⟩, ⟨?_, ?_, ?_⟩, fun k hk => ?_, fun i hi => ?_⟩
      · rw [W 0 (by omega) (by omega), cR_sR_s, if_neg (by decide), J.2.1]; exact r0
      · rw [W 1 (by omega) (by omega), cR_sR_s, if_neg (by decide), J.2.1]; exact r1
      · rw [W2, cR_sR_s, if_pos rfl]
      · rw [W 0 (by omega) (by omega)]; exact b0
      · rw [W 1 (by omega) (by omega)]; exact b1
      · rw [W2]; exact ⟨by omega, by omega⟩
      · rw [W _ (by omega) (by omega)]
        show cA S2 r k = _ ∧ _
        rw [J.2.2.1]; exact g3 k hk
      · rw [W2, i32_nc, i2] at hi
        by_cases e : i = M
        · subst e
          refine ⟨w4, ⟨?_, ?_, ?_, ?_, ?_, ?_, ?_⟩, ⟨?_, ?_, ?_, ?_, ?_⟩, fun k hk => ?_, fun d hd => ?_⟩
          · rw [X0]; exact q0
          · rw [X1]; exact q1
          · rw [X 2 (by omega) (by omega) (by omega) (by omega) (by omega)]; exact q3
          · rw [X 3 (by omega) (by omega) (by omega) (by omega) (by omega)]; exact q4
          · rw [X4]; exact q5
          · rw [X 7 (by omega) (by omega) (by omega) (by omega) (by omega)]; exact q6
          · rw [X6, W 0 (by omega) (by omega), if_neg (fun hh => ?_)]
            · exact q2
            · have e30 := day30 b0.1
              rw [← hh] at e30
              have := b0.1
              have z : (-1 : Int32).toInt = -1 := rfl
              omega
          · rw [X0]; exact ha
          · rw [X1, W 0 (by omega) (by omega)]; exact ⟨b0.1, Int.le_refl _⟩
          · rw [X4, W 0 (by omega) (by omega)]; exact ⟨by decide, by have := b0.1; have z : (-1 : Int32).toInt = -1 := rfl; omega⟩
          · rw [X6, W 0 (by omega) (by omega)]; exact ⟨by decide, by have := b0.1; have z : (-1 : Int32).toInt = -1 := rfl; omega⟩
          · rw [X 7 (by omega) (by omega) (by omega) (by omega) (by omega)]; exact ⟨by decide, by decide⟩
          · rw [X 7 (by omega) (by omega) (by omega) (by omega) (by omega)] at hk
            exact absurd hk (by show ¬ k < 0; omega)
          · rw [Nat.add_assoc, X (188 + d) (by omega) (by omega) (by omega) (by omega) (by omega)]
            exact ⟨s3 d hd, Or.inl rfl⟩
        · have hi' : i < M := by omega
          obtain ⟨y1, y2⟩ := g4 i hi'
          refine ⟨w3 _ y1, ?_⟩
          have hj := J.2.2.2 (6 * r + i) (by omega)
          exact y2.congr (S' := sR S2 r 2 (T.2 1 2 + 1)) hj.1 hj.2 (W 0 (by omega) (by omega)) (fun d hd => W _ (by omega) (by omega))
    · unfold cm
      exact ((((t2.m.mA _ _).mA _ _).mA _ _).mA _ _).mA _ _
  · left
    refine ⟨i32_ext (y := 6) (by show _ = (6 : Int); omega), ?_⟩
    rw [if_neg (show ¬ T.2 1 2 < 6 from by rw [i32_lt]; exact c6)]
theorem Rel_athlete : P_athlete Rel := by
  intro h lk S T a1 hr
  have hr0 : Rel h lk S (mS T 0 0) := hr
  unfold f_X5_athlete f_X6_athlete
  generalize mS T 0 0 = U at *
  by_cases c1 : 1 ≤ a1.toInt ∧ a1.toInt ≤ 9
  · rw [if_pos (in_t (a := 1) (b := 9) c1)]
    rcases enter_e hr0.2.2.1 c1 with ⟨s1, s2⟩ | ⟨S', T', h', v0, v1, v2, v3, v4, v5, v6, v7⟩
    · rw [if_pos s1, s2]
      exact ⟨(-2, S, h), (-2, U), rfl, rfl, rfl, hr0⟩
    · have n6 : ¬ U.2 1 2 = 6 := fun e => by rw [e] at v0; exact absurd v0 (by decide)
      have ww := X0_enter_ok hr0.1.1 hr0.1 v1
      rw [if_neg n6, v1, v2]
      exact ⟨(U.2 1 2, S', h'), (U.2 1 2, T'), rfl, rfl, rfl, hr0.op ww.2 v4 v5 v3⟩
  · rw [in_f (a := 1) (b := 9) c1]
    refine ⟨(-1, S, h), (-1, U), ?_, rfl, rfl, hr0⟩
    unfold f_X0_enter
    rw [risk_e, in_f (a := 1) (b := 9) c1]
    rfl
