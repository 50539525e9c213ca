theorem mayStart_e {r j : Nat} {S : CS} {T : MS} {a x hh : Int32} (hA : 0 ≤ a.toInt ∧ a.toInt < 6) (ct : Ct r S T) (sl : Sl S j (T.2 1) (9 + 1288 * a.toNatClampNeg)) (hx : 0 ≤ x.toInt ∧ x.toInt < 1100) : ∃ b, f_X0_mayStart S r j x hh = some b ∧ f_X6_mayFile T a x hh = some b := by
  have F := filed_s sl hA hx
  have F2 := isFiled_s sl hA hx
  unfold f_X0_mayStart f_X6_mayFile f_X6_hourOf f_X1_hourOf
  rw [ct.2.1.1, ct.2.1.2, F.1, F2, if_pos (ok_t hx)]
  simp only [Option.bind_some]
  by_cases c : x = T.2 1 0
  · rw [if_pos c, if_pos c]
    by_cases c2 : hh ≤ T.2 1 1
    · rw [if_pos c2, if_pos c2]; exact ⟨_, rfl, rfl⟩
    · rw [if_neg c2, if_neg c2]
      by_cases z : cQ S j 3 x.toNatClampNeg = 0
      · rw [if_pos z, z]; exact ⟨true, rfl, rfl⟩
      · have zb : (!(cQ S j 3 x.toNatClampNeg == 0)) = true := by rw [Bool.not_eq_true', beq_eq_false_iff_ne]; exact z
        rw [if_neg z, if_pos zb]
        by_cases c3 : (cQ S j 3 x.toNatClampNeg - 1) / 10 ≤ T.2 1 1
        · rw [if_pos c3]; exact ⟨_, rfl, rfl⟩
        · rw [if_neg c3]; exact ⟨_, rfl, rfl⟩
  · rw [if_neg c, if_neg c]
    by_cases c2 : x ≤ T.2 1 0
    · rw [if_pos c2]; exact ⟨_, rfl, rfl⟩
    · rw [if_neg c2]; exact ⟨_, rfl, rfl⟩
def SpanOk (a b hh p : Int32) : Prop := 0 ≤ a.toInt ∧ a.toInt ≤ b.toInt ∧ b.toInt < 1100 ∧ b.toInt - a.toInt < 60 ∧ (5 ≤ hh.toInt ∧ hh.toInt ≤ 22) ∧ 0 ≤ p.toInt ∧ p.toInt ≤ 9
theorem canSpan {a b : Int32} : f_X5_canBeSpan a b = true ↔ (0 ≤ a.toInt ∧ a.toInt ≤ b.toInt ∧ b.toInt < 1100 ∧ b.toInt - a.toInt < 60) := by
  unfold f_X5_canBeSpan
  by_cases c1 : a < 0
  · rw [if_pos c1]; rw [i32_lt] at c1; have c1 : a.toInt < 0 := c1; exact ⟨fun hh => absurd hh (by decide), fun hh => by omega⟩
  rw [if_neg c1]
  rw [i32_lt] at c1; have c1 : ¬ a.toInt < 0 := c1
  by_cases c2 : b < a
  · rw [if_pos c2]; rw [i32_lt] at c2; exact ⟨fun hh => absurd hh (by decide), fun hh => by omega⟩
  rw [if_neg c2]
  rw [i32_lt] at c2
  by_cases c3 : (1100 : Int32) ≤ b
  · rw [if_pos c3]; rw [i32_le] at c3; have c3 : 1100 ≤ b.toInt := c3; exact ⟨fun hh => absurd hh (by decide), fun hh => by omega⟩
  rw [if_neg c3]
  rw [i32_le] at c3; have c3 : ¬ 1100 ≤ b.toInt := c3
  have e : (b - a).toInt = b.toInt - a.toInt := i32_subI (by omega)
  by_cases c4 : (60 : Int32) ≤ b - a
  · rw [if_pos c4]; rw [i32_le, e] at c4; have c4 : 60 ≤ b.toInt - a.toInt := c4; exact ⟨fun hh => absurd hh (by decide), fun hh => by omega⟩
  rw [if_neg c4]
  rw [i32_le, e] at c4; have c4 : ¬ 60 ≤ b.toInt - a.toInt := c4
  exact ⟨fun _ => by omega, fun _ => rfl⟩
theorem canFile_e {a b hh p : Int32} : f_X6_canFile a b hh p = true ↔ SpanOk a b hh p := by
  unfold f_X6_canFile SpanOk
  by_cases c1 : a < 0
  · rw [if_pos c1]; rw [i32_lt] at c1; have c1 : a.toInt < 0 := c1; exact ⟨fun hh => absurd hh (by decide), fun hh => by omega⟩
  rw [if_neg c1]
  rw [i32_lt] at c1; have c1 : ¬ a.toInt < 0 := c1
  by_cases c3 : (1100 : Int32) ≤ b
  · rw [if_pos c3]; rw [i32_le] at c3; have c3 : 1100 ≤ b.toInt := c3; exact ⟨fun hh => absurd hh (by decide), fun hh => by omega⟩
  rw [if_neg c3]
  rw [i32_le] at c3; have c3 : ¬ 1100 ≤ b.toInt := c3
  by_cases c2 : b < a
  · rw [if_pos c2]; rw [i32_lt] at c2; exact ⟨fun hh => absurd hh (by decide), fun hh => by omega⟩
  rw [if_neg c2]
  rw [i32_lt] at c2
  have e : (b - a).toInt = b.toInt - a.toInt := i32_subI (by omega)
  by_cases c4 : (60 : Int32) ≤ b - a
  · rw [if_pos c4]; rw [i32_le, e] at c4; have c4 : 60 ≤ b.toInt - a.toInt := c4; exact ⟨fun hh => absurd hh (by decide), fun hh => by omega⟩
  rw [if_neg c4]
  rw [i32_le, e] at c4; have c4 : ¬ 60 ≤ b.toInt - a.toInt := c4
  by_cases c5 : 5 ≤ hh.toInt ∧ hh.toInt ≤ 22
  · rw [if_pos (in_t (a := 5) (b := 22) c5)]
    by_cases c6 : 0 ≤ p.toInt ∧ p.toInt ≤ 9
    · rw [if_pos (in_t (a := 0) (b := 9) c6)]; exact ⟨fun _ => by omega, fun _ => rfl⟩
    · rw [in_f (a := 0) (b := 9) c6, if_neg (show ¬ false = true by decide)]; exact ⟨fun hh => absurd hh (by decide), fun hh => by omega⟩
  · rw [in_f (a := 5) (b := 22) c5, if_neg (show ¬ false = true by decide)]; exact ⟨fun hh => absurd hh (by decide), fun hh => by omega⟩
/-- a span filed, on both sides -/
theorem span_e {h : Nat → Bool} {r : Nat} {S : CS} {T : MS} {a x y hh p : Int32} (hg : RgRel h r S (T.2 1)) (ca : 0 ≤ a.toInt ∧ a.toInt < (T.2 1 2).toInt) (hs : SpanOk x y hh p) : (f_X0_enterSpan h S r a x y hh p = some (-1, S) ∧ f_X6_mayFile T a x hh = some false) ∨ ∃ v S' T', f_X0_enterSpan h S r a x y hh p = some (v, S') ∧ f_X6_mayFile T a x hh = some true ∧ f_X6_files T a x y hh p = some (v, T') ∧ 0 ≤ v.toInt ∧ RgRel h r S' (T'.2 1) ∧ FrO r S S' ∧ FrM T T' := by
  obtain ⟨f1, f2, f3, f4, f5⟩ := find_t hg ca
  have hA : 0 ≤ a.toInt ∧ a.toInt < 6 := ⟨ca.1, f3⟩
  have a6 : a.toNatClampNeg < 6 := by rw [i32_nc]; omega
  obtain ⟨h1, h2, h3, h4, h5, h6⟩ := hs
  obtain ⟨sn, sl, lt⟩ := f5.n
  obtain ⟨b, m1, m2⟩ := mayStart_e (hh := hh) hA hg.ct sl (x := x) (by omega)
  have g1 : f_X5_canBeSpan x y = true := canSpan.2 ⟨h1, h2, h3, h4⟩
  have g2 : f_X5_canBeFiledHour hh = true := (show f_X5_canBeFiledHour hh = f_X6_in hh 5 22 from rfl).trans (in_t (a := 5) (b := 22) h5)
  unfold f_X0_enterSpan
  rw [f1, Option.bind_some, oC_s, if_pos g1, if_pos g2, if_pos (place_t h6).1, m1, Option.bind_some, m2]
  cases b with
  | false => left; exact ⟨rfl, rfl⟩
  | true =>
    right
    have sv := slot_v (h := hh) (p := p) (by omega) h6
    obtain ⟨v, S', T', v1, v2, v3, v4, v5, v6⟩ := span_l (h := h) (r := r) (x4 := hh) (x7 := f_X1_slotOf hh p) hA rfl h3 ⟨by omega, by omega⟩ (y.toInt + 1 - x.toInt).toNat fu fu S T 0 x hg.ct f5 h1 (by omega) (by show _ < 10000; omega) (by show _ < 10000; omega) (by show (0 : Int) ≤ 0 ∧ (0 : Int) + _ ≤ _; omega)
    refine ⟨v, S', T', ?_, rfl, ?_, v3, hg.op v5 v6 v4, v5.o a6, v6.m⟩
    · rw [if_pos rfl]; exact v1
    · unfold f_X6_files
      rw [slot_e]
      exact v2
theorem Rel_file : P_file Rel := by
  intro h lk S T a1 a2 a3 a4 a5 hr
  have hr0 : Rel h lk S (mS T 0 0) := hr
  unfold f_X5_file f_X6_file
  generalize mS T 0 0 = U at *
  by_cases ca : 0 ≤ a1.toInt ∧ a1.toInt < (U.2 1 2).toInt
  · obtain ⟨f1, f2, f3, f4, f5⟩ := find_t hr0.2.2.1 ca
    rw [f2, if_pos rfl]
    by_cases cs : SpanOk a2 a3 a4 a5
    · rw [if_pos (canFile_e.2 cs)]
      rcases span_e hr0.2.2.1 ca cs with ⟨s1, s2⟩ | ⟨v, S', T', v1, v2, v3, v4, v5, v6, v7⟩
      · rw [s1, s2]
        exact ⟨(-1, S), (-1, U), rfl, rfl, rfl, hr0⟩
      · rw [v1, v2, v3]
        exact ⟨(v, S'), (v, T'), rfl, rfl, rfl, hr0.op hr0.1 v6 v7 v5⟩
    · rw [if_neg (fun g => cs (canFile_e.1 g))]
      refine ⟨(-1, S), (-1, U), ?_, rfl, rfl, hr0⟩
      unfold f_X0_enterSpan
      rw [f1, Option.bind_some, oC_s]
      by_cases g1 : f_X5_canBeSpan a2 a3 = true
      · rw [if_pos g1]
        by_cases g2 : 5 ≤ a4.toInt ∧ a4.toInt ≤ 22
        · have q2 : f_X5_canBeFiledHour a4 = true := (show f_X5_canBeFiledHour a4 = f_X6_in a4 5 22 from rfl).trans (in_t (a := 5) (b := 22) g2)
          rw [if_pos q2]
          by_cases g3 : 0 ≤ a5.toInt ∧ a5.toInt ≤ 9
          · have := canSpan.1 g1
            exact absurd ⟨this.1, this.2.1, this.2.2.1, this.2.2.2, g2, g3⟩ cs
          · rw [(place_f g3).1]; rfl
        · have q2 : f_X5_canBeFiledHour a4 = false := (show f_X5_canBeFiledHour a4 = f_X6_in a4 5 22 from rfl).trans (in_f (a := 5) (b := 22) g2)
          rw [q2]; rfl
      · rw [if_neg g1]; rfl
  · obtain ⟨f1, f2, f3⟩ := noF (k := 0) hr0 ca
    rw [f2]
    refine ⟨(-1, S), (-1, U), ?_, rfl, rfl, hr0⟩
    unfold f_X0_enterSpan
    rw [f1]
    rfl
