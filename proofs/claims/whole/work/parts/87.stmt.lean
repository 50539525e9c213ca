theorem who_e (T : MS) : f_X6_who T = f_X6_number T (Int32.ofNat 0) 0 (T.2 1 2 - 1) := by
  unfold f_X6_who
  rw [show (0 : Int32) = Int32.ofNat 0 from rfl]
  cases f_X6_number T (Int32.ofNat 0) (Int32.ofNat 0) (T.2 1 2 - 1) <;> rfl
theorem canO {h : Nat → Bool} {r : Nat} {S : CS} {k v : Int32} (hk : ¬ k = 0) : f_X4_canBeNumber h S r 3 k v = some (f_X4_canBeOfFiling S k v) := by
  unfold f_X4_canBeNumber
  rw [if_neg (by decide), if_neg (by decide), if_neg (by decide), if_pos rfl, if_neg hk]
theorem can32 {h : Nat → Bool} {r : Nat} {S : CS} {v : Int32} : f_X4_canBeNumber h S r 3 (Int32.ofNat 2) v = some (f_X5_canBeSpan (cA S 6 1) v) := by
  rw [canO (by decide)]
  unfold f_X4_canBeOfFiling
  rw [if_neg (by decide), if_pos (by decide)]
theorem can33 {h : Nat → Bool} {r : Nat} {S : CS} {v : Int32} : f_X4_canBeNumber h S r 3 (Int32.ofNat 3) v = some (f_X6_in v 5 22) := by
  rw [canO (by decide)]
  unfold f_X4_canBeOfFiling
  rw [if_neg (by decide), if_neg (by decide), if_pos (by decide)]
  rfl
theorem can34 {h : Nat → Bool} {r : Nat} {S : CS} {v : Int32} : f_X4_canBeNumber h S r 3 (Int32.ofNat 4) v = some (f_X6_in v 0 9) := by
  rw [canO (by decide)]
  unfold f_X4_canBeOfFiling
  rw [if_neg (by decide), if_neg (by decide), if_neg (by decide), pl_e]
/-- the last three numbers of a filing -/
theorem rd3b {h : Nat → Bool} {r r2 n c p : Nat} {S : CS} {T : MS} (P : PR h r r2 n c p S T) (e : ∀ k, k < 2 → cA S 6 k = T.2 13 k) (hw : 0 ≤ (T.2 13 0).toInt ∧ (T.2 13 0).toInt < (T.2 1 2).toInt) (hd : 0 ≤ (T.2 13 1).toInt ∧ (T.2 13 1).toInt ≤ 1099) : NuR h r r2 n c p (l_X4_readNumbers_9 h r (9997 + 1) S 3 5 (Int32.ofNat 2)) ((f_X6_number T (Int32.ofNat 2) (T.2 13 1) (hi60 (T.2 13 1))).bind fun q5 => if q5.1 = true then ((f_X6_number q5.2 (Int32.ofNat 3) 5 22).bind fun q7 => if q7.1 = true then ((f_X6_number q7.2 (Int32.ofNat 4) 0 9).bind fun q9 => if q9.1 = true then (some (true, q9.2)) else (some (false, q9.2))) else (some (false, q7.2))) else (some (false, q5.2))) (fun S2 T2 => (∀ k, k < 5 → cA S2 6 k = T2.2 13 k) ∧ (0 ≤ (T2.2 13 0).toInt ∧ (T2.2 13 0).toInt < (T2.2 1 2).toInt) ∧ SpanOk (T2.2 13 1) (T2.2 13 2) (T2.2 13 3) (T2.2 13 4)) := by
  rcases num1 (f := 9997) (fm := 3) (mm := 5) (lo := T.2 13 1) (hi := hi60 (T.2 13 1)) (k := 2) P (by omega) (by decide) (fun S1 hS v => by
    rw [can32, hS.2.1, e 1 (by omega), sp_e hd]) with ⟨S2, T2, a1, a2, a3⟩ | ⟨S2, T2, q, v, a1, a2, a3, a4, a5, a6, a7, a8, -⟩
  · left; rw [a1, a2]; exact ⟨S2, T2, rfl, rfl, a3⟩
  · rw [a1, a2, Option.bind_some, if_pos rfl]
    rcases num1 (f := 9996) (fm := 3) (mm := 5) (lo := 5) (hi := 22) (k := 3) a3 (by omega) (by decide) (fun S1 hS v => can33) with ⟨S3, T3, b1, b2, b3⟩ | ⟨S3, T3, q3, v3, b1, b2, b3, b4, b5, b6, b7, b8, -⟩
    · left; rw [b1, b2]; exact ⟨S3, T3, rfl, rfl, b3⟩
    · rw [b1, b2, Option.bind_some, if_pos rfl]
      rcases num1 (f := 9995) (fm := 3) (mm := 5) (lo := 0) (hi := 9) (k := 4) b3 (by omega) (by decide) (fun S1 hS v => can34) with ⟨S4, T4, c1, c2, c3⟩ | ⟨S4, T4, q4, v4, c1, c2, c3, c4, c5, c6, c7, c8, -⟩
      · left; rw [c1, c2]; exact ⟨S4, T4, rfl, rfl, c3⟩
      · right
        rw [c1, c2, rn_end (f := 9994) (by decide)]
        have t0 : T4.2 13 0 = T.2 13 0 := by rw [c7, up_n _ _ (by omega), b7, up_n _ _ (by omega), a7, up_n _ _ (by omega)]
        have t1 : T4.2 13 1 = T.2 13 1 := by rw [c7, up_n _ _ (by omega), b7, up_n _ _ (by omega), a7, up_n _ _ (by omega)]
        have t2 : T4.2 13 2 = v := by rw [c7, up_n _ _ (by omega), b7, up_n _ _ (by omega), a7, up_s]
        have t3 : T4.2 13 3 = v3 := by rw [c7, up_n _ _ (by omega), b7, up_s]
        have t4 : T4.2 13 4 = v4 := by rw [c7, up_s]
        refine ⟨S4, T4, q4, rfl, rfl, c3, by omega, fun k hk => ?_, ?_, ?_⟩
        · rcases (by omega : k < 2 ∨ k = 2 ∨ k = 3 ∨ k = 4) with y | rfl | rfl | rfl
          · rw [c6, up_n _ _ (by omega), b6, up_n _ _ (by omega), a6, up_n _ _ (by omega), e k y, c7, up_n _ _ (by omega), b7, up_n _ _ (by omega), a7, up_n _ _ (by omega)]
          · rw [t2, c6, up_n _ _ (by omega), b6, up_n _ _ (by omega), a6, up_s]
          · rw [t3, c6, up_n _ _ (by omega), b6, up_s]
          · rw [t4, c6, up_s]
        · rw [t0, c8, b8, a8]; exact hw
        · rw [t1, t2, t3, t4]
          have s := canSpan.1 ((sp_e hd).trans a5)
          exact ⟨s.1, s.2.1, s.2.2.1, s.2.2.2, in_b b5, in_b c5⟩
theorem rd3 {h : Nat → Bool} {r r2 n c p : Nat} {S : CS} {T : MS} (P : PR h r r2 n c p S T) (st : Int32) : NuR h r r2 n c p (f_X4_readNumbers h S r 3) (f_X6_readRest T 124988 st) (fun S2 T2 => (∀ k, k < 5 → cA S2 6 k = T2.2 13 k) ∧ (0 ≤ (T2.2 13 0).toInt ∧ (T2.2 13 0).toInt < (T2.2 1 2).toInt) ∧ SpanOk (T2.2 13 1) (T2.2 13 2) (T2.2 13 3) (T2.2 13 4)) := by
  have C : f_X4_readNumbers h S r 3 = l_X4_readNumbers_9 h r (9999 + 1) S 3 5 (Int32.ofNat 0) := rn_0 (by decide) rfl
  have R : f_X6_readRest T 124988 st = f_X6_readFile T := by
    unfold f_X6_readRest; rw [if_neg (by decide), if_neg (by decide), if_neg (by decide), if_pos (by decide)]
    cases f_X6_readFile T <;> rfl
  rw [C, R]
  unfold f_X6_readFile
  rw [who_e]
  rcases num1 (f := 9999) (fm := 3) (mm := 5) (lo := 0) (hi := (T.2 1 2) - 1) (k := 0) P (by omega) (by decide) (fun S1 hS v => (canF (P.2.2.1.k hS) (v := v)).symm ▸ rfl) with ⟨S2, T2, a1, a2, a3⟩ | ⟨S2, T2, q, v, a1, a2, a3, a4, a5, a6, a7, a8, -⟩
  · left; rw [a1, a2]; exact ⟨S2, T2, rfl, rfl, a3⟩
  · rw [a1, a2, Option.bind_some, if_pos rfl]
    show NuR h r r2 n c p _ ((f_X6_number T2 (Int32.ofNat 1) 0 1099).bind _) _
    rcases num1 (f := 9998) (fm := 3) (mm := 5) (lo := 0) (hi := 1099) (k := 1) a3 (by omega) (by decide) (fun S1 hS v => by rw [← fd_e]; rfl) with ⟨S3, T3, b1, b2, b3⟩ | ⟨S3, T3, q3, v3, b1, b2, b3, b4, b5, b6, b7, b8, -⟩
    · left; rw [b1, b2]; exact ⟨S3, T3, rfl, rfl, b3⟩
    · rw [b1, b2, Option.bind_some, if_pos rfl]
      have t0 : T3.2 13 0 = v := by rw [b7, up_n _ _ (by omega), a7, up_s]
      have t1 : T3.2 13 1 = v3 := by rw [b7, up_s]
      have key := rd3b b3 (fun k hk => by
        rcases (by omega : k = 0 ∨ k = 1) with rfl | rfl
        · rw [t0, b6, up_n _ _ (by omega), a6, up_s]
        · rw [t1, b6, up_s]) (by rw [t0, b8, a8]; exact who_b P.2.2.1 a5) (by rw [t1]; exact in_b b5)
      have key2 : NuR h r r2 n c p (l_X4_readNumbers_9 h r (9997 + 1) S3 3 5 (Int32.ofNat 2)) ((f_X6_number T3 (Int32.ofNat 2) (T3.2 13 1) (hi60 (T3.2 13 1))).bind fun q5 => if q5.1 = true then ((f_X6_number q5.2 (Int32.ofNat 3) 5 22).bind fun q7 => if q7.1 = true then ((f_X6_number q7.2 (Int32.ofNat 4) 0 9).bind fun q9 => if q9.1 = true then (some (true, q9.2)) else (some (false, q9.2))) else (some (false, q7.2))) else (some (false, q5.2))) (fun S2 T2 => (∀ k, k < 5 → cA S2 6 k = T2.2 13 k) ∧ (0 ≤ (T2.2 13 0).toInt ∧ (T2.2 13 0).toInt < (T2.2 1 2).toInt) ∧ SpanOk (T2.2 13 1) (T2.2 13 2) (T2.2 13 3) (T2.2 13 4)) := by
        rcases key with k1 | ⟨S5, T5, q5, k1, k2, k3, k4, k5⟩
        · exact Or.inl k1
        · exact Or.inr ⟨S5, T5, q5, k1, k2, k3, by omega, k5⟩
      by_cases y : (1099 : Int32) ≤ (T3.2 13 1 + 60) - 1
      · have hh : hi60 (T3.2 13 1) = 1099 := if_pos y
        rw [hh] at key2
        rw [if_pos y]; exact key2
      · have hh : hi60 (T3.2 13 1) = (T3.2 13 1 + 60) - 1 := if_neg y
        rw [hh] at key2
        rw [if_neg y]; exact key2
/-! a test's outcome -/
theorem PR.n13 {h : Nat → Bool} {r r2 n c p i : Nat} {S : CS} {T : MS} (P : PR h r r2 n c p S T) (v : Int32) : PR h r r2 n c p S (mA T 13 i v) := by
  obtain ⟨d1, d2, d3, d4, d5, d6, d7, d8, d9⟩ := P
  have M : ∀ k, k ≠ 13 → (mA T 13 i v).2 k = T.2 k := fun k hk => by rw [m2_mA, if_neg hk]
  exact ⟨d1, ⟨by rw [M 2 (by omega)]; exact d2.1, by rw [M 5 (by omega)]; exact d2.2.1, by rw [M 3 (by omega), M 4 (by omega)]; exact d2.2.2.1, d2.2.2.2⟩, by rw [M 1 (by omega)]; exact d3, ⟨d4.1, d4.2.1, d4.2.2.1, by rw [M 5 (by omega)]; exact d4.2.2.2⟩, d5, d6, d7, d8, d9⟩
theorem PR.s14 {h : Nat → Bool} {r r2 n c p : Nat} {S : CS} {T : MS} (P : PR h r r2 n c p S T) (b : Bool) : PR h r r2 n c p (sF S 14 (bI b)) T := by
  obtain ⟨d1, d2, d3, d4, d5, d6, d7, d8, d9⟩ := P
  exact ⟨d1, ⟨d2.1.congr rfl rfl rfl rfl, d2.2.1, d2.2.2.1, by show bI b = 0 ∨ bI b = 1; cases b; exact Or.inl rfl; exact Or.inr rfl⟩, d3.congr rfl rfl rfl rfl, d4, d5, d6, d7, d8, d9⟩
def outM (T : MS) : Option (Bool × MS) := (f_X6_here T).bind fun q5 => if (f_X6_in q5.1 97 122) = true then ((f_X6_readWord q5.2).bind fun q7 => if (lg_cmp q7.1 3499582) = 0 then (if (lg_cmp q7.1 3499582) = 0 then (some (true, (mA q7.2 13 2 1))) else (if (lg_cmp q7.1 191706727) = 0 then (some (true, (mA q7.2 13 2 1))) else (if (f_X6_wrong (mA q7.2 13 2 1) 1 ((mA q7.2 13 2 1).1 11)).1 = true then (some (true, (f_X6_wrong (mA q7.2 13 2 1) 1 ((mA q7.2 13 2 1).1 11)).2)) else (some (false, (f_X6_wrong (mA q7.2 13 2 1) 1 ((mA q7.2 13 2 1).1 11)).2))))) else (if (lg_cmp q7.1 3499582) = 0 then (some (true, (mA q7.2 13 2 0))) else (if (lg_cmp q7.1 191706727) = 0 then (some (true, (mA q7.2 13 2 0))) else (if (f_X6_wrong (mA q7.2 13 2 0) 1 ((mA q7.2 13 2 0).1 11)).1 = true then (some (true, (f_X6_wrong (mA q7.2 13 2 0) 1 ((mA q7.2 13 2 0).1 11)).2)) else (some (false, (f_X6_wrong (mA q7.2 13 2 0) 1 ((mA q7.2 13 2 0).1 11)).2)))))) else (some ((f_X6_wrong q5.2 1 (q5.2.1 8)).1, (f_X6_wrong q5.2 1 (q5.2.1 8)).2))
theorem out_e {h : Nat → Bool} {r r2 n c p : Nat} {S : CS} {T : MS} (P : PR h r r2 n c p S T) : NuR h r r2 n c p (f_X4_readOutcome S) (outM T) (fun S2 T2 => cA S2 6 = cA S 6 ∧ T2.2 13 = upd (T.2 13) 2 (cF S2 14) ∧ T2.2 1 = T.2 1) := by
  obtain ⟨b1, b2, b3, b4, b5, b6, b7, b8, b9⟩ := id P
  have n4 := b4.1
  obtain ⟨p', S', T', g1, g2, g3, g4, g5, g6, g7, g8, g9, g10⟩ := tok_e b4 b7 b8 b9
  have O : f_X4_readOutcome S = (f_X3_isWord S' 6).bind fun q3 => if bI q3 = 0 then ((f_X3_isWord (sF S' 14 (bI q3)) 7).bind fun q5 => if q5 = true then (some (true, (sF S' 14 (bI q3)))) else some (false, sF (sF S' 14 (bI q3)) 13 (1 + 8 * Int32.ofNat p'))) else (some (true, (sF S' 14 (bI q3)))) := by
    unfold f_X4_readOutcome
    rw [g3, Option.bind_some]
    have e10 : ∀ b, cF (sF S' 14 (bI b)) 10 = Int32.ofNat p' := fun b => g9
    cases f_X3_isWord S' 6 with
    | none => rfl
    | some b =>
      rw [Option.bind_some, Option.bind_some, e10]
      rfl
  unfold outM
  rw [g4, Option.bind_some]
  have nob : ¬ cF S' 9 = 1 → f_X6_in (if p' < n then T.2 5 p' else -1) 97 122 = false → NuR h r r2 n c p (f_X4_readOutcome S) (if (f_X6_in (if p' < n then T.2 5 p' else -1) 97 122) = true then ((f_X6_readWord T').bind fun q7 => if (lg_cmp q7.1 3499582) = 0 then (if (lg_cmp q7.1 3499582) = 0 then (some (true, (mA q7.2 13 2 1))) else (if (lg_cmp q7.1 191706727) = 0 then (some (true, (mA q7.2 13 2 1))) else (if (f_X6_wrong (mA q7.2 13 2 1) 1 ((mA q7.2 13 2 1).1 11)).1 = true then (some (true, (f_X6_wrong (mA q7.2 13 2 1) 1 ((mA q7.2 13 2 1).1 11)).2)) else (some (false, (f_X6_wrong (mA q7.2 13 2 1) 1 ((mA q7.2 13 2 1).1 11)).2))))) else (if (lg_cmp q7.1 3499582) = 0 then (some (true, (mA q7.2 13 2 0))) else (if (lg_cmp q7.1 191706727) = 0 then (some (true, (mA q7.2 13 2 0))) else (if (f_X6_wrong (mA q7.2 13 2 0) 1 ((mA q7.2 13 2 0).1 11)).1 = true then (some (true, (f_X6_wrong (mA q7.2 13 2 0) 1 ((mA q7.2 13 2 0).1 11)).2)) else (some (false, (f_X6_wrong (mA q7.2 13 2 0) 1 ((mA q7.2 13 2 0).1 11)).2)))))) else (some ((f_X6_wrong T' 1 (T'.1 8)).1, (f_X6_wrong T' 1 (T'.1 8)).2))) (fun S2 T2 => cA S2 6 = cA S 6 ∧ T2.2 13 = upd (T.2 13) 2 (cF S2 14) ∧ T2.2 1 = T.2 1) := fun k1 k2 => by
    left
    rw [O, isw_n k1, k2, if_neg (show ¬ false = true by decide), Option.bind_some, if_pos (show bI false = 0 from rfl), isw_n (S := sF S' 14 (bI false)) k1, g8]
    have Bs1 : Bs h r2 (sF S' 14 (bI false)) T' := by
      have B := b2.fr g6 g7
      exact ⟨B.1.congr rfl rfl rfl rfl, B.2.1, B.2.2.1, Or.inl rfl⟩
    exact ⟨_, _, rfl, rfl, bad_e Bs1 (by decide) (by omega)⟩
  rcases g10 with ⟨e1, e2⟩ | ⟨e1, e2, e3, q, code, T2, q1, q2, q3, q4, q5, q6, q7, q8, q9, q10⟩ | ⟨e1, e2, e3, q, T2, q1, q2, q3, q4, q5, q6, q7, q8⟩ | ⟨e1, e2, e3, e4, e5, e6⟩ | ⟨e1, e2, e3, e4, e5⟩
  · exact nob (by rw [e2]; decide) (by rw [if_neg (by omega)]; decide)
  · rw [if_pos e1, e2, if_pos rfl]
    show NuR h r r2 n c p _ ((f_X6_readWord T').bind _) _
    rw [q4, Option.bind_some]
    have B' : By S' T n := b4.fr g6 (FrL.refl T)
    obtain ⟨x6, i6, j6⟩ := isw_e (i := 6) (code := code) (by decide) B' e3 g9 q3 q1 q2 q8 q9 q10
    have j6 : x6 = true ↔ code = 3499582 := j6
    have FT := g7.trans q7
    have P2 := P.fr (q := q) g6 FT q3 q5 q2
    rw [O, i6, Option.bind_some]
    by_cases c1 : code = 3499582
    · have z := (lg_cmp_eq code 3499582).2 c1
      have x1 : x6 = true := j6.2 c1
      subst x1
      right
      rw [if_pos z, if_pos z, if_neg (show ¬ bI true = 0 by decide)]
      refine ⟨_, _, q, rfl, rfl, (P2.s14 true).n13 1, by omega, ?_, ?_, ?_⟩
      · show cA S' 6 = _; rw [g6.2.1]
      · rw [m2_mA, if_pos rfl, FT.1]; rfl
      · rw [m2_mA, if_neg (by decide), FT.1]
    · have z : ¬ lg_cmp code 3499582 = 0 := fun hh => c1 ((lg_cmp_eq _ _).1 hh)
      have x1 : x6 = false := by
        cases x6 with
        | false => rfl
        | true => exact absurd (j6.1 rfl) c1
      subst x1
      rw [if_neg z, if_neg z, if_pos (show bI false = 0 from rfl)]
      obtain ⟨x7, i7, j7⟩ := isw_e (i := 7) (code := code) (S := sF S' 14 (bI false)) (T := T) (n := n) (by decide) ⟨B'.1, B'.2.1, B'.2.2.1, B'.2.2.2⟩ e3 g9 q3 q1 q2 q8 q9 q10
      have j7 : x7 = true ↔ code = 191706727 := j7
      rw [i7, Option.bind_some]
      by_cases c2 : code = 191706727
      · have z2 := (lg_cmp_eq code 191706727).2 c2
        right
        rw [if_pos z2, if_pos (j7.2 c2)]
        refine ⟨_, _, q, rfl, rfl, (P2.s14 false).n13 0, by omega, ?_, ?_, ?_⟩
        · show cA S' 6 = _; rw [g6.2.1]
        · rw [m2_mA, if_pos rfl, FT.1]; rfl
        · rw [m2_mA, if_neg (by decide), FT.1]
      · have z2 : ¬ lg_cmp code 191706727 = 0 := fun hh => c2 ((lg_cmp_eq _ _).1 hh)
        left
        rw [if_neg z2, if_neg (fun hh => c2 (j7.1 hh))]
        have w11 : (mA T2 13 2 0).1 11 = Int32.ofNat p' := q6
        rw [w11]
        exact ⟨_, _, rfl, rfl, bad_e ((P2.s14 false).n13 0).2.1 (by decide) (by omega)⟩
  · exact nob (by rw [q8]; by_cases y : Int32.ofNat q - Int32.ofNat p' ≤ 4; rw [if_pos y]; decide; rw [if_neg y]; decide) (by rw [if_pos e1]; exact e2)
  · exact nob (by rw [e5]; decide) (by rw [if_pos e1]; exact e2)
  · exact nob (by rw [e5]; decide) (by rw [if_pos e1]; exact e2)
theorem rd4 {h : Nat → Bool} {r r2 n c p : Nat} {S : CS} {T : MS} (P : PR h r r2 n c p S T) (st : Int32) : NuR h r r2 n c p ((f_X4_readNumbers h S r 4).bind fun q3 => if q3.1 = true then f_X4_readOutcome q3.2 else some (false, q3.2)) (f_X6_readRest T 397838 st) (fun S2 T2 => (∀ k, k < 2 → cA S2 6 k = T2.2 13 k) ∧ (0 ≤ (T2.2 13 0).toInt ∧ (T2.2 13 0).toInt < (T2.2 1 2).toInt) ∧ f_X6_in (T2.2 13 1) 0 9 = true ∧ cF S2 14 = T2.2 13 2) := by
  have C : f_X4_readNumbers h S r 4 = l_X4_readNumbers_9 h r (9999 + 1) S 4 2 (Int32.ofNat 0) := rn_0 (by decide) rfl
  have R : f_X6_readRest T 397838 st = (f_X6_who T).bind fun q1 => if q1.1 = true then ((f_X6_number q1.2 (Int32.ofNat 1) 0 9).bind fun q3 => if q3.1 = true then outM q3.2 else (some (false, q3.2))) else (some (false, q1.2)) := by
    unfold f_X6_readRest; rw [if_neg (by decide), if_neg (by decide), if_neg (by decide), if_neg (by decide), if_pos (by decide)]
    have e : f_X6_readTest T = (f_X6_who T).bind fun q1 => if q1.1 = true then ((f_X6_number q1.2 (Int32.ofNat 1) 0 9).bind fun q3 => if q3.1 = true then outM q3.2 else (some (false, q3.2))) else (some (false, q1.2)) := rfl
    rw [← e]
    cases f_X6_readTest T <;> rfl
  rw [C, R, who_e]
  rcases num1 (f := 9999) (fm := 4) (mm := 2) (lo := 0) (hi := (T.2 1 2) - 1) (k := 0) P (by omega) (by decide) (fun S1 hS v => (canF (P.2.2.1.k hS) (v := v)).symm ▸ rfl) with ⟨S2, T2, a1, a2, a3⟩ | ⟨S2, T2, q, v, a1, a2, a3, a4, a5, a6, a7, a8, -⟩
  · left; rw [a1, a2]; exact ⟨S2, T2, rfl, rfl, a3⟩
  · rw [a1, a2, Option.bind_some, if_pos rfl]
    rcases num1 (f := 9998) (fm := 4) (mm := 2) (lo := 0) (hi := 9) (k := 1) a3 (by omega) (by decide) (fun S1 hS v => by rw [← pl_e]; rfl) with ⟨S3, T3, b1, b2, b3⟩ | ⟨S3, T3, q3, v3, b1, b2, b3, b4, b5, b6, b7, b8, -⟩
    · left; rw [b1, b2]; exact ⟨S3, T3, rfl, rfl, b3⟩
    · rw [b1, b2, rn_end (f := 9997) (by decide), Option.bind_some, Option.bind_some, if_pos rfl, if_pos rfl]
      show NuR h r r2 n c p (f_X4_readOutcome S3) (outM T3) _
      rcases out_e b3 with k1 | ⟨S5, T5, q5, k1, k2, k3, k4, k5, k6, k7⟩
      · exact Or.inl k1
      · have t0 : T5.2 13 0 = v := by rw [k6, up_n _ _ (by omega), b7, up_n _ _ (by omega), a7, up_s]
        have t1 : T5.2 13 1 = v3 := by rw [k6, up_n _ _ (by omega), b7, up_s]
        refine Or.inr ⟨S5, T5, q5, k1, k2, k3, by omega, fun k hk => ?_, ?_, ?_, ?_⟩
        · rcases (by omega : k = 0 ∨ k = 1) with rfl | rfl
          · rw [t0, k5, b6, up_n _ _ (by omega), a6, up_s]
          · rw [t1, k5, b6, up_s]
        · rw [t0, k7, b8, a8]; exact who_b P.2.2.1 a5
        · rw [t1]; exact b5
        · rw [k6, up_s]
