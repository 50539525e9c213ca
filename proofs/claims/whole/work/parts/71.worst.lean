/-- one value for both sides, whatever the marks are -/
theorem uni {h : Nat → Bool} {lk : Nat × Nat} {a : Int32} {f5 : CS → Option (Int32 × CS)} {f6 : MS → Option (Int32 × MS)} {P : Int32 → Prop} (B : ∀ (S : CS) (U : MS), Rel h lk S U → 0 ≤ a.toInt ∧ a.toInt < (U.2 1 2).toInt → ∃ v S' T', f5 S = some (v, S') ∧ f6 U = some (v, T') ∧ P v ∧ FrS S S' ∧ FrT U T') {S : CS} {U : MS} (hr : Rel h lk S U) (c : 0 ≤ a.toInt ∧ a.toInt < (U.2 1 2).toInt) : ∃ v, P v ∧ (∀ S', Rel h lk S' U → ∃ S2, f5 S' = some (v, S2) ∧ FrS S' S2) ∧ ∀ U', FrT U U' → ∃ U2, f6 U' = some (v, U2) ∧ FrT U' U2 := by
  obtain ⟨v, S', T', h1, h2, h3, h4, h5⟩ := B S U hr c
  refine ⟨v, h3, fun S1 hr1 => ?_, fun U1 hu => ?_⟩
  · obtain ⟨w, S2, T2, k1, k2, k3, k4, k5⟩ := B S1 U hr1 c
    rw [h2] at k2
    have e : v = w := congrArg Prod.fst (Option.some.inj k2)
    subst e
    exact ⟨S2, k1, k4⟩
  · obtain ⟨w, S2, T2, k1, k2, k3, k4, k5⟩ := B S U1 (hr.fr (FrS.refl S) hu) (by rw [hu.2 1 (by omega)]; exact c)
    rw [h1] at k1
    have e : v = w := congrArg Prod.fst (Option.some.inj k1)
    subst e
    exact ⟨T2, k2, k5⟩
theorem cmp_0 {x y : Int32} : f_J6_compare_7cf53 x y = 0 ↔ x = y := by
  unfold f_J6_compare_7cf53
  by_cases c : y ≤ x
  · rw [if_pos c]
    by_cases e : x = y
    · rw [if_pos e]; exact ⟨fun _ => e, fun _ => rfl⟩
    · rw [if_neg e]; exact ⟨fun hh => absurd hh (by decide), fun hh => absurd hh e⟩
  · rw [if_neg c]
    exact ⟨fun hh => absurd hh (by decide), fun hh => absurd (by rw [hh]; rw [i32_le]; omega) c⟩
theorem cmp_le {x y : Int32} : f_J6_compare_7cf53 x y ≤ 0 ↔ x ≤ y := by
  unfold f_J6_compare_7cf53
  by_cases c : y ≤ x
  · rw [if_pos c]
    by_cases e : x = y
    · rw [if_pos e]; exact ⟨fun _ => by rw [e, i32_le]; omega, fun _ => by decide⟩
    · rw [if_neg e]; exact ⟨fun hh => absurd hh (by decide), fun hh => absurd (i32_ext (by rw [i32_le] at *; omega)) e⟩
  · rw [if_neg c]
    exact ⟨fun hh => by rw [i32_le] at *; omega, fun hh => by decide⟩
theorem sub_0 {x y : Int32} (hx : 0 ≤ x.toInt ∧ x.toInt ≤ 1000) (hy : 0 ≤ y.toInt ∧ y.toInt ≤ 1000) : (x - y = 0 ↔ x = y) ∧ (x - y ≤ 0 ↔ x ≤ y) := by
  have e : (x - y).toInt = x.toInt - y.toInt := i32_subI (by omega)
  refine ⟨⟨fun hh => i32_ext ?_, fun hh => i32_ext ?_⟩, ?_⟩
  · rw [hh] at e; have z : (0 : Int32).toInt = 0 := rfl; omega
  · rw [e, hh]; show _ = (0 : Int); omega
  · rw [i32_le, i32_le, e]; show _ ≤ (0 : Int) ↔ _; omega
/-- the reference's verdict, by the numbers of both -/
theorem worse_e {U U' : MS} {a b v1 v2 p1 p2 : Int32} (hU : FrT U U') (ha : 0 ≤ a.toInt ∧ a.toInt < 6) (hb : 0 ≤ b.toInt ∧ b.toInt < 6) (V1 : ∀ U', FrT U U' → ∃ U2, f_X6_violationsOf U' a = some (v1, U2) ∧ FrT U' U2) (V2 : ∀ U', FrT U U' → ∃ U2, f_X6_violationsOf U' b = some (v2, U2) ∧ FrT U' U2) (Q1 : ∀ U', FrT U U' → ∃ U2, f_X6_pointsNow U' a = some (p1, U2) ∧ FrT U' U2) (Q2 : ∀ U', FrT U U' → ∃ U2, f_X6_pointsNow U' b = some (p2, U2) ∧ FrT U' U2) (bv1 : 0 ≤ v1.toInt ∧ v1.toInt ≤ 60) (bv2 : 0 ≤ v2.toInt ∧ v2.toInt ≤ 60) (bp1 : 0 ≤ p1.toInt ∧ p1.toInt ≤ 60) (bp2 : 0 ≤ p2.toInt ∧ p2.toInt ≤ 60) (bf1 : bt (U.2 1 (9 + 1288 * a.toNatClampNeg + 7)) 0 60) (bf2 : bt (U.2 1 (9 + 1288 * b.toNatClampNeg + 7)) 0 60) : ∃ U2, f_X6_isWorse U' a b = some (if v1 = v2 then (if p1 = p2 then (if U.2 1 (9 + 1288 * a.toNatClampNeg + 7) ≤ U.2 1 (9 + 1288 * b.toNatClampNeg + 7) then false else true) else (if p1 ≤ p2 then false else true)) else (if v1 ≤ v2 then false else true), U2) ∧ FrT U U2 := by
  obtain ⟨A, A1, A2⟩ := V1 U' hU
  obtain ⟨B, B1, B2⟩ := V2 A (hU.trans A2)
  have hB := (hU.trans A2).trans B2
  obtain ⟨C, C1, C2⟩ := Q1 B hB
  obtain ⟨D, D1, D2⟩ := Q2 C (hB.trans C2)
  have hD := (hB.trans C2).trans D2
  have i1 : f_X6_its D a 7 = some (U.2 1 (9 + 1288 * a.toNatClampNeg + 7)) := by rw [its_e (k := 7) ha (by decide), hD.2 1 (by omega)]; rfl
  have i2 : f_X6_its D b 7 = some (U.2 1 (9 + 1288 * b.toNatClampNeg + 7)) := by rw [its_e (k := 7) hb (by decide), hD.2 1 (by omega)]; rfl
  have sv := sub_0 (x := v1) (y := v2) (by omega) (by omega)
  have sp := sub_0 (x := p1) (y := p2) (by omega) (by omega)
  have sf := sub_0 (x := U.2 1 (9 + 1288 * a.toNatClampNeg + 7)) (y := U.2 1 (9 + 1288 * b.toNatClampNeg + 7)) ⟨bf1.1, by have := bf1.2; omega⟩ ⟨bf2.1, by have := bf2.2; omega⟩
  unfold f_X6_isWorse
  rw [A1, Option.bind_some, B1, Option.bind_some]
  by_cases e1 : v1 = v2
  · rw [if_pos (sv.1.2 e1), if_pos e1, C1, Option.bind_some, D1, Option.bind_some]
    by_cases e2 : p1 = p2
    · rw [if_pos (sp.1.2 e2), if_pos e2, i1, Option.bind_some, i2, Option.bind_some]
      by_cases e3 : U.2 1 (9 + 1288 * a.toNatClampNeg + 7) ≤ U.2 1 (9 + 1288 * b.toNatClampNeg + 7)
      · rw [if_pos (sf.2.2 e3), if_pos e3]; exact ⟨D, rfl, hD⟩
      · rw [if_neg (fun hh => e3 (sf.2.1 hh)), if_neg e3]; exact ⟨D, rfl, hD⟩
    · rw [if_neg (fun hh => e2 (sp.1.1 hh)), if_neg e2]
      by_cases e3 : p1 ≤ p2
      · rw [if_pos (sp.2.2 e3), if_pos e3]; exact ⟨D, rfl, hD⟩
      · rw [if_neg (fun hh => e3 (sp.2.1 hh)), if_neg e3]; exact ⟨D, rfl, hD⟩
  · rw [if_neg (fun hh => e1 (sv.1.1 hh)), if_neg e1, if_neg (fun hh => e1 (sv.1.1 hh))]
    by_cases e3 : v1 ≤ v2
    · rw [if_pos (sv.2.2 e3), if_pos e3]; exact ⟨B, rfl, hB⟩
    · rw [if_neg (fun hh => e3 (sv.2.1 hh)), if_neg e3]; exact ⟨B, rfl, hB⟩
/-- the class's turn -/
theorem worst_c {h : Nat → Bool} {lk : Nat × Nat} {S S1 S2 : CS} {n j : Nat} {b x2 x3 x4 x5 v p : Int32} (h2 : ¬ cR S lk.1 2 ≤ x5) (hf : f_X0_find h S lk.1 x5 = some (some j)) (hv : f_X5_violationsOf lk S j = some (v, S1)) (hp : f_X5_pointsOf lk S1 j = some (p, S2)) (hb : ¬ b = -1) : l_X5_worst_12 h lk (n + 1) S b x2 x3 x4 x5 = if (if v = x2 then (if p = x3 then (if cP S2 j 6 ≤ x4 then false else true) else (if p ≤ x3 then false else true)) else (if v ≤ x2 then false else true)) = true then l_X5_worst_12 h lk n S2 x5 v p (cP S2 j 6) (x5 + 1) else l_X5_worst_12 h lk n S2 b x2 x3 x4 (x5 + 1) := by
  rw [l_X5_worst_12, if_neg h2, hf, Option.bind_some, oC_s, hv, Option.bind_some, hp, Option.bind_some]
  unfold j_X5_worst_79 j_X5_worst_96 j_X5_worst_106
  by_cases e1 : v = x2
  · rw [if_pos (cmp_0.2 e1), if_pos e1]
    by_cases e2 : p = x3
    · rw [if_pos (cmp_0.2 e2), if_pos e2, if_neg hb]
      by_cases e3 : cP S2 j 6 ≤ x4
      · rw [if_pos (cmp_le.2 e3), if_pos e3]; rfl
      · rw [if_neg (fun hh => e3 (cmp_le.1 hh)), if_neg e3]; rfl
    · rw [if_neg (fun hh => e2 (cmp_0.1 hh)), if_neg e2, if_neg hb]
      by_cases e3 : p ≤ x3
      · rw [if_pos (cmp_le.2 e3), if_pos e3]; rfl
      · rw [if_neg (fun hh => e3 (cmp_le.1 hh)), if_neg e3]; rfl
  · rw [if_neg (fun hh => e1 (cmp_0.1 hh)), if_neg e1, if_neg (fun hh => e1 (cmp_0.1 hh)), if_neg hb]
    by_cases e3 : v ≤ x2
    · rw [if_pos (cmp_le.2 e3), if_pos e3]; rfl
    · rw [if_neg (fun hh => e3 (cmp_le.1 hh)), if_neg e3]; rfl
theorem worst_l {h : Nat → Bool} {lk : Nat × Nat} {U : MS} : ∀ (k n n' : Nat) (S : CS) (U' : MS) (b v p x : Int32), Rel h lk S U → FrT U U' → 0 ≤ x.toInt → x.toInt + k = (U.2 1 2).toInt → k < n → k < n' → 0 ≤ b.toInt ∧ b.toInt < x.toInt → 0 ≤ v.toInt ∧ v.toInt ≤ 60 → 0 ≤ p.toInt ∧ p.toInt ≤ 60 → (∀ U', FrT U U' → ∃ U2, f_X6_violationsOf U' b = some (v, U2) ∧ FrT U' U2) → (∀ U', FrT U U' → ∃ U2, f_X6_pointsNow U' b = some (p, U2) ∧ FrT U' U2) → ∃ w S2 U2, l_X5_worst_12 h lk n S b v p (U.2 1 (9 + 1288 * b.toNatClampNeg + 7)) x = some (w, S2) ∧ l_X6_worst_22 n' U' b x = some (w, U2) ∧ Rel h lk S2 U ∧ FrT U U2 := by
  intro k
  induction k with
  | zero =>
    intro n n' S U' b v p x hr hu hx hk hn hn' hb bv bp hV hP
    obtain ⟨n, rfl⟩ : ∃ z, n = z + 1 := ⟨n - 1, by omega⟩
    obtain ⟨n', rfl⟩ : ∃ z, n' = z + 1 := ⟨n' - 1, by omega⟩
    refine ⟨b, S, U', ?_, ?_, hr, hu⟩
    · rw [l_X5_worst_12, hr.2.2.1.1.2.2, if_pos (by rw [i32_le]; omega)]
    · rw [l_X6_worst_22, hu.2 1 (by omega), if_pos (by rw [i32_le]; omega)]
  | succ k ih =>
    intro n n' S U' b v p x hr hu hx hk hn hn' hb bv bp hV hP
    obtain ⟨n, rfl⟩ : ∃ z, n = z + 1 := ⟨n - 1, by omega⟩
    obtain ⟨n', rfl⟩ : ∃ z, n' = z + 1 := ⟨n' - 1, by omega⟩
    have hm := hr.2.2.1.2.1.2.2
    have hm2 := hm.2
    have ca : 0 ≤ x.toInt ∧ x.toInt < (U.2 1 2).toInt := by omega
    have cb : 0 ≤ b.toInt ∧ b.toInt < (U.2 1 2).toInt := by omega
    obtain ⟨f1, f2, f3, f4, f5⟩ := find_t hr.2.2.1 ca
    obtain ⟨-, -, -, -, fb⟩ := find_t hr.2.2.1 cb
    obtain ⟨vx, bvx, Vx5, Vx6⟩ := uni vio_w hr ca
    obtain ⟨px, bpx, Px5, Px6⟩ := uni pts_w hr ca
    obtain ⟨S1, s1, s2⟩ := Vx5 S hr
    have hr1 := hr.fr s2 (FrT.refl U)
    obtain ⟨S2, s3, s4⟩ := Px5 S1 hr1
    have hr2 := hr1.fr s4 (FrT.refl U)
    have g2 : cR S lk.1 2 = U.2 1 2 := hr.2.2.1.1.2.2
    have p6 : cP S2 (6 * lk.1 + x.toNatClampNeg) 6 = U.2 1 (9 + 1288 * x.toNatClampNeg + 7) := by
      rw [s4.2.1, s2.2.1]; exact f5.1.2.2.2.2.2.1
    have c0 : ¬ U.2 1 2 ≤ x := by rw [i32_le]; omega
    have nb : ¬ b = -1 := fun e => by rw [e] at hb; exact absurd hb.1 (by decide)
    obtain ⟨U2, w1, w2⟩ := worse_e (a := x) (b := b) hu (by omega) (by omega) Vx6 hV Px6 hP bvx bv bpx bp f5.2.1.2.2.2.2 fb.2.1.2.2.2.2
    rw [worst_c (by rw [g2]; exact c0) f1 s1 s3 nb, p6, l_X6_worst_22, hu.2 1 (by omega), if_neg c0, w1, Option.bind_some]
    have ex := i32_inc (x := x) (by omega)
    generalize (if vx = v then (if px = p then (if U.2 1 (9 + 1288 * x.toNatClampNeg + 7) ≤ U.2 1 (9 + 1288 * b.toNatClampNeg + 7) then false else true) else (if px ≤ p then false else true)) else (if vx ≤ v then false else true)) = ww
    cases ww with
    | true =>
      rw [if_pos rfl, if_pos rfl]
      exact ih n n' S2 U2 x vx px (x + 1) hr2 w2 (by omega) (by omega) (by omega) (by omega) (by omega) bvx bpx Vx6 Px6
    | false =>
      rw [if_neg (show ¬ false = true by decide), if_neg (show ¬ false = true by decide)]
      exact ih n n' S2 U2 b v p (x + 1) hr2 w2 (by omega) (by omega) (by omega) (by omega) (by omega) bv bp hV hP
theorem Rel_worst : P_worst Rel := by
  intro h lk S T hr
  have hr0 : Rel h lk S (mS T 0 0) := hr
  unfold f_X5_worst f_X6_worst
  generalize mS T 0 0 = U at *
  have hm := hr0.2.2.1.2.1.2.2
  have hm1 := hm.1
  have hm2 := hm.2
  have g2 : cR S lk.1 2 = U.2 1 2 := hr0.2.2.1.1.2.2
  by_cases c : U.2 1 2 = 0
  · rw [if_pos c]
    refine ⟨(-1, S), (-1, U), ?_, ?_, rfl, hr0⟩
    · show l_X5_worst_12 h lk (9999 + 1) S (-1) 0 0 0 0 = _
      rw [l_X5_worst_12, g2, c, if_pos (by decide)]
    · show l_X6_worst_22 (9999 + 1) U (-1) 1 = _
      rw [l_X6_worst_22, c, if_pos (by decide)]
  · rw [if_neg c]
    have hpos : 0 < (U.2 1 2).toInt := by
      by_cases e : (U.2 1 2).toInt = 0
      · exact absurd (i32_ext (y := 0) e) c
      · omega
    have z0 : (0 : Int32).toInt = 0 := rfl
    have z1 : (1 : Int32).toInt = 1 := rfl
    have ca : 0 ≤ (0 : Int32).toInt ∧ (0 : Int32).toInt < (U.2 1 2).toInt := by omega
    obtain ⟨f1, f2, f3, f4, f5⟩ := find_t hr0.2.2.1 ca
    obtain ⟨vx, bvx, Vx5, Vx6⟩ := uni vio_w hr0 ca
    obtain ⟨px, bpx, Px5, Px6⟩ := uni pts_w hr0 ca
    obtain ⟨S1, s1, s2⟩ := Vx5 S hr0
    have hr1 := hr0.fr s2 (FrT.refl U)
    obtain ⟨S2, s3, s4⟩ := Px5 S1 hr1
    have hr2 := hr1.fr s4 (FrT.refl U)
    have p6 : cP S2 (6 * lk.1 + (0 : Int32).toNatClampNeg) 6 = U.2 1 (9 + 1288 * (0 : Int32).toNatClampNeg + 7) := by
      rw [s4.2.1, s2.2.1]; exact f5.1.2.2.2.2.2.1
    obtain ⟨w, S3, U3, w1, w2, w3, w4⟩ := worst_l ((U.2 1 2).toInt - 1).toNat 9999 fu S2 U 0 vx px 1 hr2 (FrT.refl U) (by decide) (by omega) (by omega) (by show _ < 10000; omega) (by omega) bvx bpx Vx6 Px6
    refine ⟨(w, S3), (w, U3), ?_, w2, rfl, w3.fr (FrS.refl S3) w4⟩
    show l_X5_worst_12 h lk (9999 + 1) S (-1) 0 0 0 0 = _
    rw [l_X5_worst_12, g2, if_neg (by rw [i32_le]; omega), f1, Option.bind_some, oC_s, s1, Option.bind_some, s3, Option.bind_some]
    unfold j_X5_worst_79 j_X5_worst_96 j_X5_worst_106
    rw [if_pos rfl, if_pos rfl, if_pos rfl, ite_self, ite_self, p6, ite_self]
    exact w1
