def tlC (h : Nat → Bool) (S : CS) (r : Nat) (fm w : Int32) : Option (Bool × CS × (Nat → Bool)) :=
  (f_X3_readToken S).bind fun q5 => if (cF q5 9) = 3 then ((f_X4_doForm h q5 r fm).bind fun q7 => if q7.1 = true then (some (true, q7.2.1, q7.2.2)) else (if (f_X4_refuse q7.2.1 3 w).1 = true then (some (true, (f_X4_refuse q7.2.1 3 w).2, q7.2.2)) else (some (false, (f_X4_refuse q7.2.1 3 w).2, q7.2.2)))) else (some ((f_X4_refuse q5 1 (cF q5 10)).1, (f_X4_refuse q5 1 (cF q5 10)).2, h))
def tlM (T : MS) (code : Int64) (st : Int32) : Option (Bool × MS) :=
  (f_X6_here T).bind fun q7 => if q7.1 = 59 then ((f_X6_does (mS q7.2 8 ((q7.2.1 8) + 1)) code).bind fun q9 => if q9.1 = true then (some (true, q9.2)) else (if (f_X6_wrong q9.2 3 st).1 = true then (some (true, (f_X6_wrong q9.2 3 st).2)) else (some (false, (f_X6_wrong q9.2 3 st).2)))) else (some ((f_X6_wrong q7.2 1 (q7.2.1 8)).1, (f_X6_wrong q7.2 1 (q7.2.1 8)).2))
def StR (h : Nat → Bool) (r r2 n c p : Nat) (X : Option (Bool × CS × (Nat → Bool))) (Y : Option (Bool × MS)) : Prop :=
  (∃ S T h' q, X = some (true, S, h') ∧ Y = some (true, T) ∧ PR h' r r2 n c q S T ∧ p ≤ q) ∨ ∃ S T h', X = some (false, S, h') ∧ Y = some (false, T) ∧ Bad h' r2 S T
theorem tail_e {h : Nat → Bool} {r r2 n c p w0 : Nat} {S : CS} {T : MS} {fm : Int32} {code : Int64} (P : PR h r r2 n c p S T) (hw : w0 ≤ 400) (hdo : ∀ S3 T3 p3, PR h r r2 n c p3 S3 T3 → cA S3 6 = cA S 6 → T3.2 = T.2 → cF S3 14 = cF S 14 → DoR h r r2 n c p3 S3 T3 fm code) : StR h r r2 n c p (tlC h S r fm (Int32.ofNat w0)) (tlM T code (Int32.ofNat w0)) := by
  obtain ⟨S', T', ch, s1, s2, s3⟩ := semi_e P
  unfold tlC tlM
  rw [s1, s2, Option.bind_some, Option.bind_some]
  rcases s3 with ⟨e1, e2, ⟨q, q1, q2⟩, k1, k2⟩ | ⟨e1, e2, e3⟩
  · rw [if_pos e1, if_pos e2]
    show StR h r r2 n c p ((f_X4_doForm h S' r fm).bind _) ((f_X6_does (mS T' 8 (T'.1 8 + 1)) code).bind _)
    rcases hdo S' (mS T' 8 (T'.1 8 + 1)) q q2 (by rw [k1.2.1]) (by rw [m2_mS, k2.1]) (k1.2.2.2.2 14 (by omega)) with ⟨S4, T4, h4, d1, d2, d3⟩ | ⟨S4, T4, h4, d1, d2, d3⟩
    · left
      rw [d1, d2]
      exact ⟨S4, T4, h4, q, rfl, rfl, d3, q1⟩
    · right
      rw [d1, d2]
      exact ⟨_, _, h4, rfl, rfl, bad_e d3 (by decide) hw⟩
  · right
    rw [if_neg e1, if_neg e2]
    exact ⟨_, _, h, rfl, rfl, e3⟩
theorem rn_end {h : Nat → Bool} {r k f : Nat} {S : CS} {fm mm : Int32} (hk : mm ≤ Int32.ofNat k) : l_X4_readNumbers_9 h r (f + 1) S fm mm (Int32.ofNat k) = some (true, S) := by
  rw [l_X4_readNumbers_9, if_pos hk]
theorem set_e {x : Int32} : f_X5_isSetting x = f_X6_in x 0 5 := by
  by_cases c : 0 ≤ x.toInt ∧ x.toInt < 6
  · rw [set_t c, in_t (a := 0) (b := 5) ⟨c.1, by show _ ≤ (5 : Int); omega⟩]
  · rw [set_f c, in_f (a := 0) (b := 5) (by show ¬ ((0 : Int) ≤ _ ∧ _ ≤ (5 : Int)); omega)]
theorem can11 {h : Nat → Bool} {r : Nat} {S : CS} {k v : Int32} (hk : cA S 6 0 = k) (b : 0 ≤ k.toInt ∧ k.toInt ≤ 5) : f_X4_canBeNumber h S r 1 (Int32.ofNat 1) v = some (f_X6_in v (cTab 0 k.toNatClampNeg) (cTab 1 k.toNatClampNeg)) := by
  have D : f_X4_canBeNumber h S r 1 (Int32.ofNat 1) v = (f_X5_canBeSetting S (cA S 6 0) v).bind fun q3 => some q3 := rfl
  have o1 : ok k 6 := ok_t (by omega)
  rw [D, hk]
  unfold f_X5_canBeSetting f_X6_in
  rw [if_pos (set_t (by omega)), if_pos o1, if_pos o1]
  by_cases c1 : v < cTab 0 k.toNatClampNeg
  · rw [if_pos c1, if_pos c1]; rfl
  · rw [if_neg c1, if_neg c1]
    by_cases c2 : cTab 1 k.toNatClampNeg < v
    · rw [if_pos c2, if_pos c2]; rfl
    · rw [if_neg c2, if_neg c2]; rfl
theorem canF {h : Nat → Bool} {r : Nat} {S : CS} {T : MS} {v : Int32} (hg : RgRel h r S (T.2 1)) : ((f_X0_find h S r v).bind fun q7 => oC q7 (some false) (fun _ => some true)) = some (f_X6_in v 0 (T.2 1 2 - 1)) := by
  by_cases ca : 0 ≤ v.toInt ∧ v.toInt < (T.2 1 2).toInt
  · obtain ⟨f1, f2, -⟩ := find_t hg ca
    unfold f_X6_isAthlete at f2
    rw [f1, f2]; rfl
  · obtain ⟨f1, f2⟩ := find_f hg ca
    unfold f_X6_isAthlete at f2
    rw [f1, f2]; rfl
theorem who_b {h : Nat → Bool} {r : Nat} {S : CS} {T : MS} {v : Int32} (hg : RgRel h r S (T.2 1)) (hv : f_X6_in v 0 (T.2 1 2 - 1) = true) : 0 ≤ v.toInt ∧ v.toInt < (T.2 1 2).toInt := by
  by_cases ca : 0 ≤ v.toInt ∧ v.toInt < (T.2 1 2).toInt
  · exact ca
  · have := (find_f hg ca).2
    unfold f_X6_isAthlete at this
    rw [this] at hv; exact absurd hv (by decide)
theorem fd_e {v : Int32} : f_X5_canBeFiledDay v = f_X6_in v 0 1099 := by
  by_cases c : 0 ≤ v.toInt ∧ v.toInt < 1100
  · rw [(fday_t c).1]; exact (fday_t c).2.1.symm
  · rw [(fday_f c).1]; exact (fday_f c).2.symm
theorem pl_e {v : Int32} : f_X5_canBePlace v = f_X6_in v 0 9 := by
  by_cases c : 0 ≤ v.toInt ∧ v.toInt ≤ 9
  · rw [(place_t c).1, (place_t c).2]
  · rw [(place_f c).1, (place_f c).2]
def hi60 (a : Int32) : Int32 := if 1099 ≤ (a + 60) - 1 then 1099 else (a + 60) - 1
theorem hi60_v {a : Int32} (b : 0 ≤ a.toInt ∧ a.toInt ≤ 1099) : (hi60 a).toInt = if 1099 ≤ a.toInt + 59 then 1099 else a.toInt + 59 := by
  have e1 : (a + 60).toInt = a.toInt + 60 := i32_addI (y := 60) (by show _ ≤ _ + (60 : Int) ∧ _ + (60 : Int) ≤ _; omega)
  have e2 : ((a + 60) - 1).toInt = a.toInt + 59 := by
    rw [i32_subI (y := 1) (by rw [e1]; show _ ≤ _ - (1 : Int) ∧ _ - (1 : Int) ≤ _; omega), e1]
    show _ - (1 : Int) = _
    omega
  unfold hi60
  by_cases c : (1099 : Int32) ≤ (a + 60) - 1
  · rw [if_pos c, if_pos (by rw [i32_le, e2] at c; exact c)]; rfl
  · rw [if_neg c, if_neg (by rw [i32_le, e2] at c; exact c), e2]
theorem sp_e {a v : Int32} (b : 0 ≤ a.toInt ∧ a.toInt ≤ 1099) : f_X5_canBeSpan a v = f_X6_in v a (hi60 a) := by
  have hv := hi60_v b
  by_cases c : f_X5_canBeSpan a v = true
  · have := canSpan.1 c
    rw [c, in_t]
    refine ⟨this.2.1, ?_⟩
    rw [hv]
    by_cases y : 1099 ≤ a.toInt + 59
    · rw [if_pos y]; omega
    · rw [if_neg y]; omega
  · have c' : f_X5_canBeSpan a v = false := by rw [Bool.not_eq_true] at c; exact c
    rw [c', in_f]
    intro hh
    refine c (canSpan.2 ?_)
    rw [hv] at hh
    by_cases y : 1099 ≤ a.toInt + 59
    · rw [if_pos y] at hh; omega
    · rw [if_neg y] at hh; omega
theorem can51 {h : Nat → Bool} {r : Nat} {S : CS} {T : MS} {k v : Int32} (hg : RgRel h r S (T.2 1)) (hk : cA S 6 0 = k) (b : 0 ≤ k.toInt ∧ k.toInt < (T.2 1 2).toInt) : f_X4_canBeNumber h S r 5 (Int32.ofNat 1) v = some (f_X6_in v 0 (T.2 1 (9 + 1288 * k.toNatClampNeg + 7) - 1)) := by
  have D : f_X4_canBeNumber h S r 5 (Int32.ofNat 1) v = (f_X4_isFailure h S r v).bind fun q16 => some q16 := rfl
  obtain ⟨f1, f2, f3, f4, f5⟩ := find_t hg b
  have b7 := f5.2.1.2.2.2.2
  have B0 := b7.1
  have B1 := b7.2
  have p6 : cP S (6 * r + k.toNatClampNeg) 6 = T.2 1 (9 + 1288 * k.toNatClampNeg + 7) := f5.1.2.2.2.2.2.1
  have em : (T.2 1 (9 + 1288 * k.toNatClampNeg + 7) - 1).toInt = (T.2 1 (9 + 1288 * k.toNatClampNeg + 7)).toInt - 1 := i32_subI (y := 1) (by show _ ≤ _ - (1 : Int) ∧ _ - (1 : Int) ≤ _; omega)
  rw [D]
  unfold f_X4_isFailure
  rw [hk, f1, Option.bind_some, oC_s]
  unfold f_X1_hasFailure
  rw [p6]
  by_cases c : 0 ≤ v.toInt ∧ v.toInt < (T.2 1 (9 + 1288 * k.toNatClampNeg + 7)).toInt
  · rw [if_neg (show ¬ v < 0 from by rw [i32_lt]; show ¬ _ < (0 : Int); omega), if_neg (show ¬ T.2 1 (9 + 1288 * k.toNatClampNeg + 7) ≤ v from by rw [i32_le]; omega), if_neg (show ¬ (60 : Int32) ≤ v from by rw [i32_le]; show ¬ (60 : Int) ≤ _; omega), in_t (a := 0) ⟨c.1, by rw [em]; omega⟩]
    rfl
  · rw [in_f (a := 0) (by rw [em]; show ¬ ((0 : Int) ≤ _ ∧ _); omega)]
    by_cases c1 : v < 0
    · rw [if_pos c1]; rfl
    · rw [if_neg c1, if_pos (show T.2 1 (9 + 1288 * k.toNatClampNeg + 7) ≤ v from by rw [i32_lt] at c1; have c1 : ¬ v.toInt < 0 := c1; rw [i32_le]; omega)]; rfl
theorem rn_0 {h : Nat → Bool} {r : Nat} {S : CS} {fm mm : Int32} (hok : ok fm 6) (hm : cTab 3 fm.toNatClampNeg = mm) : f_X4_readNumbers h S r fm = l_X4_readNumbers_9 h r (9999 + 1) S fm mm (Int32.ofNat 0) := by
  have e0 : (0 : Int32) = Int32.ofNat 0 := rfl
  have e1 : fu = 9999 + 1 := rfl
  unfold f_X4_readNumbers
  rw [if_pos hok, hm, e1, e0]
/-- numbers read, on both sides -/
def NuR (h : Nat → Bool) (r r2 n c p : Nat) (X : Option (Bool × CS)) (Y : Option (Bool × MS)) (Q : CS → MS → Prop) : Prop :=
  (∃ S2 T2, X = some (false, S2) ∧ Y = some (false, T2) ∧ Bad h r2 S2 T2) ∨ ∃ S2 T2 q, X = some (true, S2) ∧ Y = some (true, T2) ∧ PR h r r2 n c q S2 T2 ∧ p ≤ q ∧ Q S2 T2
theorem rd0 {h : Nat → Bool} {r r2 n c p : Nat} {S : CS} {T : MS} (P : PR h r r2 n c p S T) (st : Int32) : NuR h r r2 n c p (f_X4_readNumbers h S r 0) (f_X6_readRest T 678890543 st) (fun S2 T2 => cA S2 6 0 = T2.2 13 0 ∧ f_X6_in (T2.2 13 0) 1 9 = true) := by
  have C : f_X4_readNumbers h S r 0 = l_X4_readNumbers_9 h r (9999 + 1) S 0 1 (Int32.ofNat 0) := rn_0 (by decide) rfl
  have R : f_X6_readRest T 678890543 st = (f_X6_number T (Int32.ofNat 0) 1 9).bind fun q21 => some (q21.1, q21.2) := by
    unfold f_X6_readRest; rw [if_pos (by decide)]; rfl
  rw [C, R]
  rcases num1 (f := 9999) (fm := 0) (mm := 1) (lo := 1) (hi := 9) (k := 0) P (by omega) (by decide) (fun S1 _ v => rfl) with ⟨S2, T2, a1, a2, a3⟩ | ⟨S2, T2, q, v, a1, a2, a3, a4, a5, a6, a7, -⟩
  · left; rw [a1, a2]; exact ⟨S2, T2, rfl, rfl, a3⟩
  · right
    rw [a1, a2, rn_end (f := 9998) (by decide)]
    refine ⟨S2, T2, q, rfl, rfl, a3, a4, ?_, ?_⟩
    · rw [a6, a7, up_s, up_s]
    · rw [a7, up_s]; exact a5
theorem rd2 {h : Nat → Bool} {r r2 n c p : Nat} {S : CS} {T : MS} (P : PR h r r2 n c p S T) (st : Int32) : NuR h r r2 n c p (f_X4_readNumbers h S r 2) (f_X6_readRest T 47 st) (fun S2 T2 => (cA S2 6 0 = T2.2 13 0 ∧ cA S2 6 1 = T2.2 13 1) ∧ f_X6_in (T2.2 13 0) 0 999 = true ∧ f_X6_in (T2.2 13 1) 0 23 = true) := by
  have C : f_X4_readNumbers h S r 2 = l_X4_readNumbers_9 h r (9999 + 1) S 2 2 (Int32.ofNat 0) := rn_0 (by decide) rfl
  have R : f_X6_readRest T 47 st = (f_X6_number T (Int32.ofNat 0) 0 999).bind fun q11 => if q11.1 = true then ((f_X6_number q11.2 (Int32.ofNat 1) 0 23).bind fun q13 => if q13.1 = true then (some (true, q13.2)) else (some (false, q13.2))) else (some (false, q11.2)) := by
    unfold f_X6_readRest; rw [if_neg (by decide), if_neg (by decide), if_pos (by decide)]; rfl
  rw [C, R]
  rcases num1 (f := 9999) (fm := 2) (mm := 2) (lo := 0) (hi := 999) (k := 0) P (by omega) (by decide) (fun S1 _ v => rfl) with ⟨S2, T2, a1, a2, a3⟩ | ⟨S2, T2, q, v, a1, a2, a3, a4, a5, a6, a7, -⟩
  · left; rw [a1, a2]; exact ⟨S2, T2, rfl, rfl, a3⟩
  · rw [a1, a2, Option.bind_some, if_pos rfl]
    rcases num1 (f := 9998) (fm := 2) (mm := 2) (lo := 0) (hi := 23) (k := 1) a3 (by omega) (by decide) (fun S1 _ v => by rw [← hour_e]; rfl) with ⟨S3, T3, b1, b2, b3⟩ | ⟨S3, T3, q3, v3, b1, b2, b3, b4, b5, b6, b7, -⟩
    · left; rw [b1, b2]; exact ⟨S3, T3, rfl, rfl, b3⟩
    · right
      rw [b1, b2, rn_end (f := 9997) (by decide)]
      refine ⟨S3, T3, q3, rfl, rfl, b3, by omega, ⟨?_, ?_⟩, ?_, ?_⟩
      · rw [b6, b7, up_n _ _ (by omega), up_n _ _ (by omega), a6, a7, up_s, up_s]
      · rw [b6, b7, up_s, up_s]
      · rw [b7, up_n _ _ (by omega), a7, up_s]; exact a5
      · rw [b7, up_s]; exact b5
theorem rd1 {h : Nat → Bool} {r r2 n c p : Nat} {S : CS} {T : MS} (P : PR h r r2 n c p S T) (st : Int32) : NuR h r r2 n c p (f_X4_readNumbers h S r 1) (f_X6_readRest T 14006 st) (fun S2 T2 => (cA S2 6 0 = T2.2 13 0 ∧ cA S2 6 1 = T2.2 13 1) ∧ f_X6_in (T2.2 13 0) 0 5 = true ∧ f_X6_in (T2.2 13 1) (cTab 0 (T2.2 13 0).toNatClampNeg) (cTab 1 (T2.2 13 0).toNatClampNeg) = true) := by
  have C : f_X4_readNumbers h S r 1 = l_X4_readNumbers_9 h r (9999 + 1) S 1 2 (Int32.ofNat 0) := rn_0 (by decide) rfl
  have R : f_X6_readRest T 14006 st = (f_X6_number T (Int32.ofNat 0) 0 5).bind fun q15 => if q15.1 = true then (if ok (q15.2.2 13 0) 6 then if ok (q15.2.2 13 0) 6 then (f_X6_number q15.2 (Int32.ofNat 1) (q15.2.2 3 (q15.2.2 13 0).toNatClampNeg) (q15.2.2 4 (q15.2.2 13 0).toNatClampNeg)).bind fun q19 => if q19.1 = true then (some (true, q19.2)) else (some (false, q19.2)) else none else none) else (some (false, q15.2)) := by
    unfold f_X6_readRest; rw [if_neg (by decide), if_pos (by decide)]; rfl
  rw [C, R]
  rcases num1 (f := 9999) (fm := 1) (mm := 2) (lo := 0) (hi := 5) (k := 0) P (by omega) (by decide) (fun S1 _ v => by rw [← set_e]; rfl) with ⟨S2, T2, a1, a2, a3⟩ | ⟨S2, T2, q, v, a1, a2, a3, a4, a5, a6, a7, -⟩
  · left; rw [a1, a2]; exact ⟨S2, T2, rfl, rfl, a3⟩
  · have t0 : T2.2 13 0 = v := by rw [a7, up_s]
    have bv : 0 ≤ v.toInt ∧ v.toInt ≤ 5 := in_b a5
    have k6 : v.toNatClampNeg < 6 := by rw [i32_nc]; omega
    have lim := a3.2.1.2.2.1 v.toNatClampNeg k6
    have o6 : ok v 6 := ok_t (by omega)
    rw [a1, a2, Option.bind_some, if_pos rfl, t0, if_pos o6, if_pos o6, lim.1, lim.2]
    rcases num1 (f := 9998) (fm := 1) (mm := 2) (lo := cTab 0 v.toNatClampNeg) (hi := cTab 1 v.toNatClampNeg) (k := 1) a3 (by omega) (by decide) (fun S1 hS v' => can11 (by rw [hS.2.1, a6, up_s]) bv) with ⟨S3, T3, b1, b2, b3⟩ | ⟨S3, T3, q3, v3, b1, b2, b3, b4, b5, b6, b7, -⟩
    · left; rw [b1, b2]; exact ⟨S3, T3, rfl, rfl, b3⟩
    · right
      rw [b1, b2, rn_end (f := 9997) (by decide)]
      have t3 : T3.2 13 0 = v := by rw [b7, up_n _ _ (by omega), a7, up_s]
      refine ⟨S3, T3, q3, rfl, rfl, b3, by omega, ⟨?_, ?_⟩, ?_, ?_⟩
      · rw [t3, b6, up_n _ _ (by omega), a6, up_s]
      · rw [b6, b7, up_s, up_s]
      · rw [t3]; exact a5
      · rw [t3, b7, up_s]; exact b5
theorem rd5 {h : Nat → Bool} {r r2 n c p : Nat} {S : CS} {T : MS} (P : PR h r r2 n c p S T) (st : Int32) : NuR h r r2 n c p (f_X4_readNumbers h S r 5) (f_X6_readRest T 23170575 st) (fun S2 T2 => (∀ k, k < 2 → cA S2 6 k = T2.2 13 k) ∧ (0 ≤ (T2.2 13 0).toInt ∧ (T2.2 13 0).toInt < (T2.2 1 2).toInt) ∧ 0 ≤ (T2.2 13 1).toInt ∧ (T2.2 13 1).toInt < (T2.2 1 (9 + 1288 * (T2.2 13 0).toNatClampNeg + 7)).toInt) := by
  have C : f_X4_readNumbers h S r 5 = l_X4_readNumbers_9 h r (9999 + 1) S 5 2 (Int32.ofNat 0) := rn_0 (by decide) rfl
  have R : f_X6_readRest T 23170575 st = (f_X6_number T (Int32.ofNat 0) 0 ((T.2 1 2) - 1)).bind fun q1 => if q1.1 = true then ((f_X6_its q1.2 (q1.2.2 13 0) 7).bind fun q3 => (f_X6_number q1.2 (Int32.ofNat 1) 0 (q3 - 1)).bind fun q5 => if q5.1 = true then (some (true, q5.2)) else (some (false, q5.2))) else (some (false, q1.2)) := by
    unfold f_X6_readRest; rw [if_neg (by decide), if_neg (by decide), if_neg (by decide), if_neg (by decide), if_neg (by decide), if_pos (by decide)]
    unfold f_X6_who
    cases f_X6_number T 0 0 (T.2 1 2 - 1) <;> rfl
  rw [C, R]
  rcases num1 (f := 9999) (fm := 5) (mm := 2) (lo := 0) (hi := (T.2 1 2) - 1) (k := 0) P (by omega) (by decide) (fun S1 hS v => (canF (P.2.2.1.k hS) (v := v)).symm ▸ rfl) with ⟨S2, T2, a1, a2, a3⟩ | ⟨S2, T2, q, v, a1, a2, a3, a4, a5, a6, a7, a8, -⟩
  · left; rw [a1, a2]; exact ⟨S2, T2, rfl, rfl, a3⟩
  · have t0 : T2.2 13 0 = v := by rw [a7, up_s]
    have bv := who_b P.2.2.1 a5
    obtain ⟨f1, f2, f3, f4, f5⟩ := find_t P.2.2.1 bv
    have b7 := f5.2.1.2.2.2.2
    have B0 := b7.1
    have B1 := b7.2
    have em : (T.2 1 (9 + 1288 * v.toNatClampNeg + 7) - 1).toInt = (T.2 1 (9 + 1288 * v.toNatClampNeg + 7)).toInt - 1 := i32_subI (y := 1) (by show _ ≤ _ - (1 : Int) ∧ _ - (1 : Int) ≤ _; omega)
    have i7 : f_X6_its T2 v 7 = some (T.2 1 (9 + 1288 * v.toNatClampNeg + 7)) := by rw [its_e (k := 7) ⟨bv.1, f3⟩ (by decide), a8]; rfl
    rw [a1, a2, Option.bind_some, if_pos rfl, t0, i7, Option.bind_some]
    rcases num1 (f := 9998) (fm := 5) (mm := 2) (lo := 0) (hi := T.2 1 (9 + 1288 * v.toNatClampNeg + 7) - 1) (k := 1) a3 (by omega) (by decide) (fun S1 hS v' => by rw [← a8]; exact can51 (a3.2.2.1.k hS) (by rw [hS.2.1, a6, up_s]) (by rw [a8]; exact bv)) with ⟨S3, T3, b1, b2, b3⟩ | ⟨S3, T3, q3, v3, b1, b2, b3, b4, b5, b6, b7, b8, -⟩
    · left; rw [b1, b2]; exact ⟨S3, T3, rfl, rfl, b3⟩
    · right
      rw [b1, b2, rn_end (f := 9997) (by decide)]
      have t3 : T3.2 13 0 = v := by rw [b7, up_n _ _ (by omega), a7, up_s]
      have t4 : T3.2 13 1 = v3 := by rw [b7, up_s]
      have bb := in_b b5
      refine ⟨S3, T3, q3, rfl, rfl, b3, by omega, fun k hk => ?_, ?_, ?_⟩
      · rcases (by omega : k = 0 ∨ k = 1) with rfl | rfl
        · rw [t3, b6, up_n _ _ (by omega), a6, up_s]
        · rw [t4, b6, up_s]
      · rw [t3, b8, a8]; exact bv
      · rw [t3, t4, b8, a8]
        rw [em] at bb
        exact ⟨bb.1, by omega⟩
