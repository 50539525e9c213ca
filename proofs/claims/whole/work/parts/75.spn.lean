/-! a sportsman without his late changes, with days up to dd; and what he has filed -/
def SpN (S : CS) (j : Nat) (w : Nat → Int32) (o : Nat) (dd : Int) : Prop :=
  (cP S j 0 = w o ∧ cP S j 1 = w (o + 1) ∧ cP S j 3 = w (o + 2) ∧ cP S j 4 = w (o + 3) ∧ cP S j 5 = w (o + 4) ∧ cP S j 6 = w (o + 7)) ∧
  (bt (w o) 1 9 ∧ bt (w (o + 1)) 0 dd ∧ bt (w (o + 4)) (-1) dd ∧ bt (w (o + 6)) (-1) (dd / 30) ∧ bt (w (o + 7)) 0 60) ∧
  (∀ k, k < (w (o + 7)).toNatClampNeg → cQ S j 0 k = w (o + 8 + 3 * k) ∧ cQ S j 1 k = w (o + 9 + 3 * k) ∧ cQ S j 2 k = w (o + 10 + 3 * k) ∧ bt (w (o + 8 + 3 * k)) 0 dd ∧ bt (w (o + 10 + 3 * k)) 0 1)
def Sl (S : CS) (j : Nat) (w : Nat → Int32) (o : Nat) : Prop := ∀ d, d < 1100 → cQ S j 3 d = w (o + 188 + d) ∧ (w (o + 188 + d) = 0 ∨ bt (w (o + 188 + d)) 51 230)
def Lt (S : CS) (j : Nat) (w : Nat → Int32) (o : Nat) : Prop := cP S j 2 = if w (o + 6) = w 0 / 30 then w (o + 5) else 0
theorem SpRel.n {S : CS} {j : Nat} {w : Nat → Int32} {o : Nat} (h : SpRel S j w o) : SpN S j w o (w 0).toInt ∧ Sl S j w o ∧ Lt S j w o := by
  obtain ⟨⟨a1, a2, a3, a4, a5, a6, a7⟩, b, c, d⟩ := h
  exact ⟨⟨⟨a1, a2, a3, a4, a5, a6⟩, b, c⟩, d, a7⟩
theorem SpN.r {S : CS} {j : Nat} {w : Nat → Int32} {o : Nat} (h : SpN S j w o (w 0).toInt) (h2 : Sl S j w o) (h3 : Lt S j w o) : SpRel S j w o := by
  obtain ⟨⟨a1, a2, a3, a4, a5, a6⟩, b, c⟩ := h
  exact ⟨⟨a1, a2, a3, a4, a5, a6, h3⟩, b, c, h2⟩
theorem SpN.mono {S : CS} {j : Nat} {w : Nat → Int32} {o : Nat} {dd d2 : Int} (h : SpN S j w o dd) (hd : dd ≤ d2) : SpN S j w o d2 := by
  obtain ⟨a, ⟨b1, b2, b3, b4, b5⟩, c⟩ := h
  refine ⟨a, ⟨b1, ⟨b2.1, by have := b2.2; omega⟩, ⟨b3.1, by have := b3.2; omega⟩, ⟨b4.1, by have := b4.2; omega⟩, b5⟩, fun k hk => ?_⟩
  obtain ⟨c1, c2, c3, c4, c5⟩ := c k hk
  exact ⟨c1, c2, c3, ⟨c4.1, by have := c4.2; omega⟩, c5⟩
/-- only scalars have changed -/
theorem SpN.sc {S S' : CS} {j : Nat} {w w' : Nat → Int32} {o : Nat} {dd : Int} (h : SpN S j w o dd) (hq : cQ S' j = cQ S j) (h7 : w' (o + 7) = w (o + 7)) (hw : ∀ e, 8 ≤ e → e < 1288 → w' (o + e) = w (o + e)) (hA : cP S' j 0 = w' o ∧ cP S' j 1 = w' (o + 1) ∧ cP S' j 3 = w' (o + 2) ∧ cP S' j 4 = w' (o + 3) ∧ cP S' j 5 = w' (o + 4) ∧ cP S' j 6 = w' (o + 7)) (hB : bt (w' o) 1 9 ∧ bt (w' (o + 1)) 0 dd ∧ bt (w' (o + 4)) (-1) dd ∧ bt (w' (o + 6)) (-1) (dd / 30)) : SpN S' j w' o dd := by
  obtain ⟨a, ⟨b1, b2, b3, b4, b5⟩, c⟩ := h
  refine ⟨hA, ⟨hB.1, hB.2.1, hB.2.2.1, hB.2.2.2, by rw [h7]; exact b5⟩, fun k hk => ?_⟩
  rw [h7] at hk
  have k60 : k < 60 := by rw [i32_nc] at hk; have := b5.2; omega
  rw [hq, show o + 8 + 3 * k = o + (8 + 3 * k) from by omega, show o + 9 + 3 * k = o + (9 + 3 * k) from by omega, show o + 10 + 3 * k = o + (10 + 3 * k) from by omega, hw _ (by omega) (by omega), hw _ (by omega) (by omega), hw _ (by omega) (by omega), ← Nat.add_assoc, ← Nat.add_assoc, ← Nat.add_assoc]
  exact c k hk
theorem Sl.sc {S S' : CS} {j : Nat} {w w' : Nat → Int32} {o : Nat} (h : Sl S j w o) (hq : cQ S' j 3 = cQ S j 3) (hw : ∀ e, 188 ≤ e → e < 1288 → w' (o + e) = w (o + e)) : Sl S' j w' o := by
  intro d hd
  rw [hq, show o + 188 + d = o + (188 + d) from by omega, hw _ (by omega) (by omega), ← Nat.add_assoc]
  exact h d hd
theorem Sl.put {S S' : CS} {j : Nat} {w w' : Nat → Int32} {o : Nat} (h : Sl S j w o) {e : Nat} {v : Int32} (hq : cQ S' j 3 = upd (cQ S j 3) e v) (hw : ∀ d, d < 1100 → w' (o + 188 + d) = upd w (o + 188 + e) v (o + 188 + d)) (hv : v = 0 ∨ bt v 51 230) : Sl S' j w' o := by
  intro d hd
  rw [hq, hw d hd]
  by_cases c : d = e
  · subst c; rw [up_s, up_s]; exact ⟨rfl, hv⟩
  · rw [up_n _ _ c, up_n _ _ (by omega)]; exact h d hd
theorem filed_s {S : CS} {T : MS} {j : Nat} {a d : Int32} (hs : Sl S j (T.2 1) (9 + 1288 * a.toNatClampNeg)) (ha : 0 ≤ a.toInt ∧ a.toInt < 6) (hd : 0 ≤ d.toInt ∧ d.toInt < 1100) : f_X6_its T a (188 + d) = some (cQ S j 3 d.toNatClampNeg) ∧ (cQ S j 3 d.toNatClampNeg = 0 ∨ bt (cQ S j 3 d.toNatClampNeg) 51 230) := by
  obtain ⟨-, -, e1, e2⟩ := fday_t hd
  have h1 := hs d.toNatClampNeg (by rw [i32_nc]; omega)
  rw [its_e ha (by omega), e2, ← Nat.add_assoc, ← h1.1]
  refine ⟨rfl, ?_⟩
  rw [h1.1]
  exact h1.2
theorem isFiled_s {S : CS} {T : MS} {j : Nat} {a d : Int32} (hs : Sl S j (T.2 1) (9 + 1288 * a.toNatClampNeg)) (ha : 0 ≤ a.toInt ∧ a.toInt < 6) (hd : 0 ≤ d.toInt ∧ d.toInt < 1100) : f_X6_isFiled T a d = some (!(cQ S j 3 d.toNatClampNeg == 0)) := by
  obtain ⟨h1, h2⟩ := filed_s hs ha hd
  unfold f_X6_isFiled
  rw [h1, Option.bind_some]
  rcases h2 with h2 | h2
  · rw [h2]; rfl
  · have hn : ¬ cQ S j 3 d.toNatClampNeg ≤ 0 := by rw [i32_le]; show ¬ _ ≤ (0 : Int); have := h2.1; omega
    have hz : (cQ S j 3 d.toNatClampNeg == 0) = false := by
      rw [beq_eq_false_iff_ne]
      intro e
      rw [e] at hn
      exact hn (by decide)
    rw [if_neg hn, hz]
    rfl
theorem gap_s {S : CS} {T : MS} {j : Nat} {a m : Int32} (hs : Sl S j (T.2 1) (9 + 1288 * a.toNatClampNeg)) (ha : 0 ≤ a.toInt ∧ a.toInt < 6) (hm : 0 ≤ m.toInt ∧ m.toInt ≤ 35) {x2 : Int32} (h2 : x2.toInt = 30 * m.toInt) : ∀ (k n n' : Nat) (x : Int32), 30 * m.toInt ≤ x.toInt → x.toInt + k = 30 * m.toInt + 30 → k < n → k < n' → ∃ v, l_X1_firstGap_19 j S n x2 x = some v ∧ l_X6_holeOf_5 T n' a m x = some v := by
  have e30 : (30 * m + 30 : Int32).toInt = 30 * m.toInt + 30 := by
    have e0 := (i32_30 (m := m) (by omega)).1
    rw [i32_addI (by rw [e0]; show _ ≤ _ + (30 : Int) ∧ _ + (30 : Int) ≤ _; omega), e0]
    rfl
  have e2 : (x2 + 30).toInt = 30 * m.toInt + 30 := by
    rw [i32_addI (by rw [h2]; show _ ≤ _ + (30 : Int) ∧ _ + (30 : Int) ≤ _; omega), h2]
    rfl
  intro k
  induction k with
  | zero =>
    intro n n' x hx hk hn hn'
    obtain ⟨n, rfl⟩ : ∃ z, n = z + 1 := ⟨n - 1, by omega⟩
    obtain ⟨n', rfl⟩ : ∃ z, n' = z + 1 := ⟨n' - 1, by omega⟩
    refine ⟨-1, ?_, ?_⟩
    · rw [l_X1_firstGap_19, if_pos (by rw [i32_le]; omega)]
    · rw [l_X6_holeOf_5, if_pos (by rw [i32_le]; omega)]
  | succ k ih =>
    intro n n' x hx hk hn hn'
    obtain ⟨n, rfl⟩ : ∃ z, n = z + 1 := ⟨n - 1, by omega⟩
    obtain ⟨n', rfl⟩ : ∃ z, n' = z + 1 := ⟨n' - 1, by omega⟩
    have hd : 0 ≤ x.toInt ∧ x.toInt < 1100 := by omega
    have c1 : ¬ x2 + 30 ≤ x := by rw [i32_le]; omega
    have c2 : ¬ 1100 ≤ x := by rw [i32_le]; show ¬ (1100 : Int) ≤ _; omega
    have c3 : ¬ 30 * m + 30 ≤ x := by rw [i32_le]; omega
    rw [l_X1_firstGap_19, if_neg c1, if_neg c2, if_pos (ok_t hd), l_X6_holeOf_5, if_neg c3, isFiled_s hs ha hd, Option.bind_some]
    by_cases z : cQ S j 3 x.toNatClampNeg = 0
    · rw [if_pos z, z]
      exact ⟨x, rfl, rfl⟩
    · have zb : (!(cQ S j 3 x.toNatClampNeg == 0)) = true := by
        rw [Bool.not_eq_true', beq_eq_false_iff_ne]; exact z
      rw [if_neg z, if_pos zb]
      have ex := i32_inc (x := x) (by omega)
      exact ih n n' (x + 1) (by omega) (by omega) (by omega) (by omega)
theorem hole_s {S : CS} {T : MS} {j : Nat} {a m : Int32} (hs : Sl S j (T.2 1) (9 + 1288 * a.toNatClampNeg)) (ha : 0 ≤ a.toInt ∧ a.toInt < 6) (hm : 0 ≤ m.toInt ∧ m.toInt ≤ 35) : ∃ v, f_X1_firstGap S j m = some v ∧ f_X6_holeOf T a m = some v := by
  have e := i32_30 (m := m) (by omega)
  obtain ⟨v, h1, h2⟩ := gap_s hs ha hm e.1 30 fu fu (30 * m) (by omega) (by omega) (by decide) (by decide)
  refine ⟨v, ?_, h2⟩
  unfold f_X1_firstGap
  rw [if_neg (by rw [i32_lt]; show ¬ _ < (0 : Int); omega), if_pos (by rw [i32_le]; show _ ≤ (35 : Int); omega), e.2]
  exact h1
/-! frames of what touches one sportsman -/
def FrJ (j : Nat) (S S' : CS) : Prop := cF S' = cF S ∧ cR S' = cR S ∧ cA S' = cA S ∧ ∀ j', j' ≠ j → cP S' j' = cP S j' ∧ cQ S' j' = cQ S j'
def FrW (o : Nat) (T T' : MS) : Prop := T'.1 = T.1 ∧ (∀ k, k ≠ 1 → T'.2 k = T.2 k) ∧ ∀ n, n < o ∨ o + 1288 ≤ n → T'.2 1 n = T.2 1 n
theorem FrJ.refl (j : Nat) (S : CS) : FrJ j S S := ⟨rfl, rfl, rfl, fun _ _ => ⟨rfl, rfl⟩⟩
theorem FrW.refl (o : Nat) (T : MS) : FrW o T T := ⟨rfl, fun _ _ => rfl, fun _ _ => rfl⟩
theorem FrJ.trans {j : Nat} {S S' S2 : CS} (h : FrJ j S S') (g : FrJ j S' S2) : FrJ j S S2 := ⟨g.1.trans h.1, g.2.1.trans h.2.1, g.2.2.1.trans h.2.2.1, fun j' hj => ⟨(g.2.2.2 j' hj).1.trans (h.2.2.2 j' hj).1, (g.2.2.2 j' hj).2.trans (h.2.2.2 j' hj).2⟩⟩
theorem FrW.trans {o : Nat} {T T' T2 : MS} (h : FrW o T T') (g : FrW o T' T2) : FrW o T T2 := ⟨g.1.trans h.1, fun k hk => (g.2.1 k hk).trans (h.2.1 k hk), fun n hn => (g.2.2 n hn).trans (h.2.2 n hn)⟩
theorem cP_sP_s (S : CS) (j f f' : Nat) (v : Int32) : cP (sP S j f v) j f' = if f' = f then v else cP S j f' := by
  show va_up S.2.2.2.1 j (va_up (S.2.2.2.1 j) f v) j f' = _
  rw [va_up_self]; rfl
theorem cP_sP_n (S : CS) (j f : Nat) (v : Int32) {j' : Nat} (h : j' ≠ j) : cP (sP S j f v) j' = cP S j' := by
  show va_up S.2.2.2.1 j _ j' = _
  rw [va_up_ne _ _ h]; rfl
theorem cQ_sQ_s (S : CS) (j c i c' : Nat) (v : Int32) : cQ (sQ S j c i v) j c' = if c' = c then upd (cQ S j c) i v else cQ S j c' := by
  show va_up S.2.2.2.2 j (va_up (S.2.2.2.2 j) c (upd (cQ S j c) i v)) j c' = _
  rw [va_up_self]; rfl
theorem cQ_sQ_n (S : CS) (j c i : Nat) (v : Int32) {j' : Nat} (h : j' ≠ j) : cQ (sQ S j c i v) j' = cQ S j' := by
  show va_up S.2.2.2.2 j _ j' = _
  rw [va_up_ne _ _ h]; rfl
theorem cQ_sP (S : CS) (j f : Nat) (v : Int32) : cQ (sP S j f v) = cQ S := rfl
theorem cP_sQ (S : CS) (j c i : Nat) (v : Int32) : cP (sQ S j c i v) = cP S := rfl
theorem FrJ.sP {j : Nat} {S S' : CS} (h : FrJ j S S') (f : Nat) (v : Int32) : FrJ j S (sP S' j f v) := ⟨h.1, h.2.1, h.2.2.1, fun j' hj => ⟨(cP_sP_n _ _ _ _ hj).trans (h.2.2.2 j' hj).1, (h.2.2.2 j' hj).2⟩⟩
theorem FrJ.sQ {j : Nat} {S S' : CS} (h : FrJ j S S') (c i : Nat) (v : Int32) : FrJ j S (sQ S' j c i v) := ⟨h.1, h.2.1, h.2.2.1, fun j' hj => ⟨(h.2.2.2 j' hj).1, (cQ_sQ_n _ _ _ _ _ hj).trans (h.2.2.2 j' hj).2⟩⟩
theorem m21 (T : MS) (i : Nat) (v : Int32) : (mA T 1 i v).2 1 = upd (T.2 1) i v := rfl
theorem FrW.mA {o : Nat} {T T' : MS} (h : FrW o T T') {i : Nat} (hi : o ≤ i ∧ i < o + 1288) (v : Int32) : FrW o T (mA T' 1 i v) := ⟨h.1, fun k hk => (by rw [m2_mA, if_neg hk]; exact h.2.1 k hk), fun n hn => by rw [m21, up_n _ _ (by omega)]; exact h.2.2 n hn⟩
/-- a failure noted, on both sides -/
theorem note_e {S : CS} {T : MS} {j o : Nat} {a d kd : Int32} {dd : Int} (ha : 0 ≤ a.toInt ∧ a.toInt < 6) (ho : o = 9 + 1288 * a.toNatClampNeg) (hs : SpN S j (T.2 1) o dd) (hd : 0 ≤ d.toInt ∧ d.toInt ≤ dd) : ∃ b S' T', f_X1_note S j d kd = some (bI b, S') ∧ f_X6_fails T a d kd = some (b, T') ∧ SpN S' j (T'.2 1) o dd ∧ cP S' j 2 = cP S j 2 ∧ cQ S' j 3 = cQ S j 3 ∧ (∀ e, e < 7 ∨ 188 ≤ e → T'.2 1 (o + e) = T.2 1 (o + e)) ∧ FrJ j S S' ∧ FrW o T T' := by
  have hs0 := hs
  obtain ⟨⟨a0, a1, a2, a3, a4, a5⟩, ⟨b1, b2, b3, b4, b5⟩, c⟩ := hs
  have i7 : f_X6_its T a 7 = some (T.2 1 (o + 7)) := by
    rw [its_e (k := 7) ha (by decide)]
    rw [show 9 + 1288 * a.toNatClampNeg + Int32.toNatClampNeg 7 = o + 7 from by rw [ho]; rfl]
  have B0 := b5.1
  have B1 := b5.2
  have en := on_of B0 (by omega)
  have en60 : (T.2 1 (o + 7)).toNatClampNeg ≤ 60 := by rw [i32_nc]; omega
  generalize hn : (T.2 1 (o + 7)).toNatClampNeg = n at *
  unfold f_X6_fails
  rw [i7, Option.bind_some]
  by_cases c60 : T.2 1 (o + 7) = 60
  · refine ⟨false, S, T, ?_, by rw [if_pos c60], hs0, rfl, rfl, fun _ _ => rfl, FrJ.refl j S, FrW.refl o T⟩
    unfold f_X1_note
    rw [a5, c60, if_neg (by decide), if_neg (by decide)]
    rfl
  · have n60 : n < 60 := by
      rcases Nat.lt_or_ge n 60 with h | h
      · exact h
      · exact absurd (by rw [en, show n = 60 from by omega]; rfl) c60
    have k3 := k3_e (a := T.2 1 (o + 7)) (by omega)
    have nI : (T.2 1 (o + 7)).toInt = (n : Int) := by rw [en, on_I (by omega)]
    have g7 := cell_e (a := a) (k := 7) ha (by decide)
    have g8 := cell_e (a := a) (k := 8 + 3 * T.2 1 (o + 7)) ha (by omega)
    have g9 := cell_e (a := a) (k := 8 + 3 * T.2 1 (o + 7) + 1) ha (by omega)
    have g10 := cell_e (a := a) (k := 8 + 3 * T.2 1 (o + 7) + 2) ha (by omega)
    have e7 : (f_X6_cell a 7).toNatClampNeg = o + 7 := by rw [g7.2.2, ho]; rfl
    have e8 : (f_X6_cell a (8 + 3 * T.2 1 (o + 7))).toNatClampNeg = o + 8 + 3 * n := by rw [g8.2.2, ho, i32_nc (x := 8 + 3 * T.2 1 (9 + 1288 * a.toNatClampNeg + 7)), ← ho]; omega
    have e9 : (f_X6_cell a (8 + 3 * T.2 1 (o + 7) + 1)).toNatClampNeg = o + 9 + 3 * n := by rw [g9.2.2, ho, i32_nc (x := 8 + 3 * T.2 1 (9 + 1288 * a.toNatClampNeg + 7) + 1), ← ho]; omega
    have e10 : (f_X6_cell a (8 + 3 * T.2 1 (o + 7) + 2)).toNatClampNeg = o + 10 + 3 * n := by rw [g10.2.2, ho, i32_nc (x := 8 + 3 * T.2 1 (9 + 1288 * a.toNatClampNeg + 7) + 2), ← ho]; omega
    have v7 : (mA (mA (mA T 1 (o + 8 + 3 * n) d) 1 (o + 9 + 3 * n) kd) 1 (o + 10 + 3 * n) 0).2 1 (o + 7) = T.2 1 (o + 7) := by
      rw [m21, up_n _ _ (by omega), m21, up_n _ _ (by omega), m21, up_n _ _ (by omega)]
    rw [if_neg c60, if_pos g8.2.1, if_pos g9.2.1, if_pos g10.2.1, if_pos g7.2.1, if_pos g7.2.1, e7, e8, e9, e10, v7]
    refine ⟨true, sP (sQ (sQ (sQ S j 0 n d) j 1 n kd) j 2 n 0) j 6 (T.2 1 (o + 7) + 1), _, ?_, rfl, ?_, ?_, ?_, fun e he => ?_, ((((FrJ.refl j S).sQ 0 n d).sQ 1 n kd).sQ 2 n 0).sP 6 _, ((((FrW.refl o T).mA (by omega) _).mA (by omega) _).mA (by omega) _).mA (by omega) _⟩
    · have o6 : ok (T.2 1 (o + 7)) 60 := ok_t (by omega)
      have q : ∀ c i v, cP (sQ S j c i v) j 6 = T.2 1 (o + 7) := fun _ _ _ => a5
      have q2 : ∀ c i v c' i' v', cP (sQ (sQ S j c i v) j c' i' v') j 6 = T.2 1 (o + 7) := fun _ _ _ _ _ _ => a5
      have q3 : ∀ c i v c' i' v' c2 i2 v2, cP (sQ (sQ (sQ S j c i v) j c' i' v') j c2 i2 v2) j 6 = T.2 1 (o + 7) := fun _ _ _ _ _ _ _ _ _ => a5
      unfold f_X1_note
      simp only [a5, q, q2, q3]
      rw [if_neg (by rw [i32_lt]; show ¬ _ < (0 : Int); omega), if_pos (by rw [i32_lt]; show _ < (60 : Int); omega), if_pos o6, if_pos o6, if_pos o6, hn]
      rfl
    · have inc := i32_inc (x := T.2 1 (o + 7)) (by omega)
      have w7 : ∀ w : Nat → Int32, upd w (o + 7) (T.2 1 (o + 7) + 1) (o + 7) = T.2 1 (o + 7) + 1 := fun w => up_s _ _ _
      have wn : ∀ q, q ≠ o + 7 → q ≠ o + 8 + 3 * n → q ≠ o + 9 + 3 * n → q ≠ o + 10 + 3 * n → (mA (mA (mA (mA T 1 (o + 8 + 3 * n) d) 1 (o + 9 + 3 * n) kd) 1 (o + 10 + 3 * n) 0) 1 (o + 7) (T.2 1 (o + 7) + 1)).2 1 q = T.2 1 q := fun q h1 h2 h3 h4 => by
        rw [m21, up_n _ _ h1, m21, up_n _ _ h4, m21, up_n _ _ h3, m21, up_n _ _ h2]
      have e8 : (mA (mA (mA (mA T 1 (o + 8 + 3 * n) d) 1 (o + 9 + 3 * n) kd) 1 (o + 10 + 3 * n) 0) 1 (o + 7) (T.2 1 (o + 7) + 1)).2 1 (o + 8 + 3 * n) = d := by
        rw [m21, up_n _ _ (by omega), m21, up_n _ _ (by omega), m21, up_n _ _ (by omega), m21, up_s]
      have e9 : (mA (mA (mA (mA T 1 (o + 8 + 3 * n) d) 1 (o + 9 + 3 * n) kd) 1 (o + 10 + 3 * n) 0) 1 (o + 7) (T.2 1 (o + 7) + 1)).2 1 (o + 9 + 3 * n) = kd := by
        rw [m21, up_n _ _ (by omega), m21, up_n _ _ (by omega), m21, up_s]
      have e10 : (mA (mA (mA (mA T 1 (o + 8 + 3 * n) d) 1 (o + 9 + 3 * n) kd) 1 (o + 10 + 3 * n) 0) 1 (o + 7) (T.2 1 (o + 7) + 1)).2 1 (o + 10 + 3 * n) = 0 := by
        rw [m21, up_n _ _ (by omega), m21, up_s]
      have e7 : (mA (mA (mA (mA T 1 (o + 8 + 3 * n) d) 1 (o + 9 + 3 * n) kd) 1 (o + 10 + 3 * n) 0) 1 (o + 7) (T.2 1 (o + 7) + 1)).2 1 (o + 7) = T.2 1 (o + 7) + 1 := by rw [m21, up_s]
      generalize mA (mA (mA (mA T 1 (o + 8 + 3 * n) d) 1 (o + 9 + 3 * n) kd) 1 (o + 10 + 3 * n) 0) 1 (o + 7) (T.2 1 (o + 7) + 1) = T' at *
      refine ⟨⟨?_, ?_, ?_, ?_, ?_, ?_⟩, ⟨?_, ?_, ?_, ?_, ?_⟩, fun k hk => ?_⟩
      · rw [cP_sP_s, if_neg (by decide), wn o (by omega) (by omega) (by omega) (by omega)]; exact a0
      · rw [cP_sP_s, if_neg (by decide), wn _ (by omega) (by omega) (by omega) (by omega)]; exact a1
      · rw [cP_sP_s, if_neg (by decide), wn _ (by omega) (by omega) (by omega) (by omega)]; exact a2
      · rw [cP_sP_s, if_neg (by decide), wn _ (by omega) (by omega) (by omega) (by omega)]; exact a3
      · rw [cP_sP_s, if_neg (by decide), wn _ (by omega) (by omega) (by omega) (by omega)]; exact a4
      · rw [cP_sP_s, if_pos rfl, e7]
      · rw [wn o (by omega) (by omega) (by omega) (by omega)]; exact b1
      · rw [wn _ (by omega) (by omega) (by omega) (by omega)]; exact b2
      · rw [wn _ (by omega) (by omega) (by omega) (by omega)]; exact b3
      · rw [wn _ (by omega) (by omega) (by omega) (by omega)]; exact b4
      · rw [e7]; exact ⟨by omega, by omega⟩
      · rw [e7, i32_nc, inc] at hk
        rw [cQ_sP, cQ_sQ_s, if_neg (by decide), cQ_sQ_s, if_neg (by decide), cQ_sQ_s, if_pos rfl, cQ_sQ_s, if_neg (by decide), cQ_sQ_s, if_pos rfl, cQ_sQ_s, if_neg (by decide), cQ_sQ_s, if_pos rfl, cQ_sQ_s, if_neg (by decide), cQ_sQ_s, if_neg (by decide)]
        by_cases ek : k = n
        · subst ek
          rw [up_s, up_s, up_s, e8, e9, e10]
          exact ⟨rfl, rfl, rfl, hd, by decide, by decide⟩
        · rw [up_n _ _ ek, up_n _ _ ek, up_n _ _ ek, wn (o + 8 + 3 * k) (by omega) (by omega) (by omega) (by omega), wn (o + 9 + 3 * k) (by omega) (by omega) (by omega) (by omega), wn (o + 10 + 3 * k) (by omega) (by omega) (by omega) (by omega)]
          exact c k (by omega)
    · rw [cP_sP_s, if_neg (by decide)]; rfl
    · rw [cQ_sP, cQ_sQ_s, if_neg (by decide), cQ_sQ_s, if_neg (by decide), cQ_sQ_s, if_neg (by decide)]
    · rw [m21, up_n _ _ (by omega), m21, up_n _ _ (by omega), m21, up_n _ _ (by omega), m21, up_n _ _ (by omega)]
