/-! THE PURE PART: the relation between the two sides. -/
def bt (x : Int32) (a b : Int) : Prop := a ≤ x.toInt ∧ x.toInt ≤ b
/-- a sportsman j of the class is the row at o of the reference's world w -/
def SpRel (S : CS) (j : Nat) (w : Nat → Int32) (o : Nat) : Prop :=
  (cP S j 0 = w o ∧ cP S j 1 = w (o + 1) ∧ cP S j 3 = w (o + 2) ∧ cP S j 4 = w (o + 3) ∧ cP S j 5 = w (o + 4) ∧ cP S j 6 = w (o + 7) ∧ cP S j 2 = if w (o + 6) = w 0 / 30 then w (o + 5) else 0) ∧
  (bt (w o) 1 9 ∧ bt (w (o + 1)) 0 (w 0).toInt ∧ bt (w (o + 4)) (-1) (w 0).toInt ∧ bt (w (o + 6)) (-1) ((w 0).toInt / 30) ∧ bt (w (o + 7)) 0 60) ∧
  (∀ k, k < (w (o + 7)).toNatClampNeg → cQ S j 0 k = w (o + 8 + 3 * k) ∧ cQ S j 1 k = w (o + 9 + 3 * k) ∧ cQ S j 2 k = w (o + 10 + 3 * k) ∧ bt (w (o + 8 + 3 * k)) 0 (w 0).toInt ∧ bt (w (o + 10 + 3 * k)) 0 1) ∧
  (∀ d, d < 1100 → cQ S j 3 d = w (o + 188 + d) ∧ (w (o + 188 + d) = 0 ∨ bt (w (o + 188 + d)) 51 230))
/-- register r of the class is the reference's world w -/
def RgRel (h : Nat → Bool) (r : Nat) (S : CS) (w : Nat → Int32) : Prop :=
  (cR S r 0 = w 0 ∧ cR S r 1 = w 1 ∧ cR S r 2 = w 2) ∧ (bt (w 0) 0 999 ∧ bt (w 1) 0 23 ∧ bt (w 2) 0 6) ∧
  (∀ k, k < 6 → cA S r k = w (3 + k) ∧ bt (w (3 + k)) (cTab 0 k).toInt (cTab 1 k).toInt) ∧
  ∀ i, i < (w 2).toNatClampNeg → h (6 * r + i) = true ∧ SpRel S (6 * r + i) w (9 + 1288 * i)
def TpRel (S : CS) (T : MS) : Prop := cF S 8 = T.1 6 ∧ bt (T.1 6) 0 400 ∧ ∀ i, i < 400 → cA S 5 i &&& 255 = T.2 5 i
def Rel : RL2 := fun h lk S T => cWf h lk ∧ lk.1 ≠ lk.2 ∧ RgRel h lk.1 S (T.2 1) ∧ TpRel S T ∧ cF S 0 = T.1 7 ∧ (∀ k, k < 6 → T.2 3 k = cTab 0 k ∧ T.2 4 k = cTab 1 k) ∧ (cF S 14 = 0 ∨ cF S 14 = 1)
theorem RgRel.congr {h : Nat → Bool} {r : Nat} {S S' : CS} {w : Nat → Int32} (h1 : cR S' = cR S) (h2 : cA S' r = cA S r) (h3 : cP S' = cP S) (h4 : cQ S' = cQ S) (hr : RgRel h r S w) : RgRel h r S' w := by
  unfold RgRel SpRel at *
  rw [h1, h2, h3, h4]
  exact hr
theorem i32_le {x y : Int32} : x ≤ y ↔ x.toInt ≤ y.toInt := Int32.le_iff_toInt_le
theorem i32_lt {x y : Int32} : x < y ↔ x.toInt < y.toInt := Int32.lt_iff_toInt_lt
theorem i32_nc {x : Int32} : x.toNatClampNeg = x.toInt.toNat := rfl
theorem Rel_end : P_end Rel := by
  intro h lk S T a1 ⟨hw, hne, hr, ⟨t1, t2, t3⟩, hf, hl, hb⟩
  refine ⟨_, _, rfl, rfl, ?_⟩
  unfold f_X5_end f_X6_end f_X6_in
  show (_ = _) ∧ _
  have e : (mS T 0 0).1 6 = T.1 6 := rfl
  rw [e, ← t1]
  have hz : (0 : Int32).toInt = 0 := rfl
  by_cases c1 : a1 < 0
  · simp only [c1, if_true, if_false]
    exact ⟨by trivial, hw, hne, hr, ⟨t1, t2, t3⟩, hf, hl, hb⟩
  · by_cases c2 : a1 ≤ cF S 8
    · have c3 : ¬ cF S 8 < a1 := by rw [i32_lt]; rw [i32_le] at c2; omega
      simp only [c1, c2, c3, if_true, if_false]
      refine ⟨by trivial, hw, hne, hr.congr rfl rfl rfl rfl, ⟨rfl, ?_, t3⟩, hf, hl, hb⟩
      rw [i32_lt] at c1
      rw [i32_le] at c2
      have := t2.2
      rw [t1] at c2
      exact ⟨by show 0 ≤ a1.toInt; omega, by show a1.toInt ≤ 400; omega⟩
    · have c3 : cF S 8 < a1 := by rw [i32_lt]; rw [i32_le] at c2; omega
      simp only [c1, c2, c3, if_true, if_false]
      exact ⟨by trivial, hw, hne, hr, ⟨t1, t2, t3⟩, hf, hl, hb⟩
theorem Rel_fault : P_fault Rel := by
  intro h lk S T ⟨hw, hne, hr, ht, hf, hl, hb⟩
  exact ⟨_, _, rfl, rfl, hf, hw, hne, hr, ht, hf, hl, hb⟩
theorem Rel_0 : Rel h0 (0, 1) S0 T0 := by
  have h9 : (T0.2 1 2).toNatClampNeg = 0 := by decide
  refine ⟨⟨by decide, by decide, fun j h => absurd h (by show ¬ false = true; decide)⟩, by decide, ⟨⟨rfl, rfl, rfl⟩, ⟨⟨by decide, by decide⟩, ⟨by decide, by decide⟩, ⟨by decide, by decide⟩⟩, ?_, fun i hi => absurd hi (by rw [h9]; omega)⟩, ⟨rfl, ⟨by decide, by decide⟩, fun i _ => (by show (0 : Int32) &&& 255 = 0; decide)⟩, rfl, by decide, Or.inl rfl⟩
  unfold bt
  decide
/-! the tape: one byte put on both sides -/
theorem l_put_s {n : Nat} {S : CS} {x1 x2 : Int32} (h2 : ¬ x2 < 0) (h8 : 0 ≤ (cF S 8).toInt ∧ (cF S 8).toInt < 400) : l_X3_put_3 (n + 1) S x1 x2 = l_X3_put_3 n (sF (sA S 5 (cF S 8).toNatClampNeg (vp_nar .byte ((x1 >>> (x2 &&& 31)).toInt8.toInt32))) 8 (cF S 8 + 1)) x1 (x2 + (-8)) := by
  have c1 : ¬ cF S 8 < 0 := by rw [i32_lt]; show ¬ _ < (0 : Int); omega
  have c2 : ¬ 400 ≤ cF S 8 := by rw [i32_le]; show ¬ (400 : Int) ≤ _; omega
  have c3 : ok (cF S 8) 400 := fun hh => hh.elim c1 (fun hh => by rw [i32_nc] at hh; omega)
  rw [l_X3_put_3, if_neg h2, if_neg c1, if_neg c2, if_pos c3]
  rfl
theorem l_four_s {n : Nat} {T : MS} {x1 x2 : Int32} (h2 : ¬ x2 < 0) (h8 : 0 ≤ (T.1 6).toInt ∧ (T.1 6).toInt < 400) : l_X6_four_3 (n + 1) T x1 x2 = l_X6_four_3 n (mS (mA T 5 (T.1 6).toNatClampNeg ((x1 >>> (x2 &&& 31)) &&& 255)) 6 (T.1 6 + 1)) x1 (x2 + (-8)) := by
  have c1 : ¬ T.1 6 < 0 := by rw [i32_lt]; show ¬ _ < (0 : Int); omega
  have c3 : ok (T.1 6) 400 := fun hh => hh.elim c1 (fun hh => by rw [i32_nc] at hh; omega)
  rw [l_X6_four_3, if_neg h2, if_pos c3]
  rfl
theorem byte_eq (x : Int32) : vp_nar .byte (x.toInt8.toInt32) &&& 255 = x &&& 255 := by
  show (Int8.toInt32 (Int32.toInt8 (x.toInt8.toInt32))) &&& 255 = x &&& 255
  apply Int32.toBitVec_inj.mp
  rw [Int32.toBitVec_and, Int32.toBitVec_and]
  apply BitVec.eq_of_getLsbD_eq
  intro i hi
  rw [BitVec.getLsbD_and, BitVec.getLsbD_and]
  have h255 : (Int32.toBitVec 255).getLsbD i = decide (i < 8) := by revert i; decide
  rw [h255]
  by_cases h8 : i < 8
  · simp [BitVec.getLsbD_signExtend, BitVec.getElem_signExtend, h8, hi]
  · simp [h8]
/-- what a call that writes the tape leaves as it was -/
def Fr8 (S : CS) (T : MS) (S' : CS) (T' : MS) : Prop := cR S' = cR S ∧ cP S' = cP S ∧ cQ S' = cQ S ∧ (∀ k, k ≠ 5 → cA S' k = cA S k) ∧ (∀ k, k ≠ 8 → cF S' k = cF S k) ∧ (∀ k, k ≠ 6 → T'.1 k = T.1 k) ∧ ∀ k, k ≠ 5 → T'.2 k = T.2 k
theorem Fr8.trans {S S' S2 : CS} {T T' T2 : MS} (h : Fr8 S T S' T') (g : Fr8 S' T' S2 T2) : Fr8 S T S2 T2 :=
  ⟨g.1.trans h.1, g.2.1.trans h.2.1, g.2.2.1.trans h.2.2.1, fun k hk => (g.2.2.2.1 k hk).trans (h.2.2.2.1 k hk), fun k hk => (g.2.2.2.2.1 k hk).trans (h.2.2.2.2.1 k hk), fun k hk => (g.2.2.2.2.2.1 k hk).trans (h.2.2.2.2.2.1 k hk), fun k hk => (g.2.2.2.2.2.2 k hk).trans (h.2.2.2.2.2.2 k hk)⟩
theorem Rel.fr8 {h : Nat → Bool} {lk : Nat × Nat} {S S' : CS} {T T' : MS} (hr : Rel h lk S T) (hf : Fr8 S T S' T') (ht : TpRel S' T') : Rel h lk S' T' := by
  obtain ⟨hw, hne, hr, -, hff, hl, hb⟩ := hr
  obtain ⟨f1, f2, f3, f4, f5, f6, f7⟩ := hf
  refine ⟨hw, hne, ?_, ht, ?_, fun k hk => ?_, ?_⟩
  · rw [f7 1 (by decide)]
    exact hr.congr f1 (f4 _ (by have := hw.1; omega)) f2 f3
  · rw [f5 0 (by decide), f6 7 (by decide)]; exact hff
  · rw [f7 3 (by decide), f7 4 (by decide)]; exact hl k hk
  · rw [f5 14 (by decide)]; exact hb
theorem i32_inc {x : Int32} (h : 0 ≤ x.toInt ∧ x.toInt < 1000000) : (x + 1).toInt = x.toInt + 1 := by
  rw [Int32.toInt_add, show (1 : Int32).toInt = 1 from rfl, Int.bmod_eq_of_le (by omega) (by omega)]
theorem step8 {S : CS} {T : MS} (x x2 : Int32) (ht : TpRel S T) (hlt : (T.1 6).toInt < 400) :
    TpRel (sF (sA S 5 (cF S 8).toNatClampNeg (vp_nar .byte ((x >>> (x2 &&& 31)).toInt8.toInt32))) 8 (cF S 8 + 1)) (mS (mA T 5 (T.1 6).toNatClampNeg ((x >>> (x2 &&& 31)) &&& 255)) 6 (T.1 6 + 1)) ∧
    Fr8 S T (sF (sA S 5 (cF S 8).toNatClampNeg (vp_nar .byte ((x >>> (x2 &&& 31)).toInt8.toInt32))) 8 (cF S 8 + 1)) (mS (mA T 5 (T.1 6).toNatClampNeg ((x >>> (x2 &&& 31)) &&& 255)) 6 (T.1 6 + 1)) ∧
    ((mS (mA T 5 (T.1 6).toNatClampNeg ((x >>> (x2 &&& 31)) &&& 255)) 6 (T.1 6 + 1)).1 6).toInt = (T.1 6).toInt + 1 := by
  obtain ⟨t1, t2, t3⟩ := ht
  have hi := i32_inc (x := T.1 6) ⟨t2.1, by omega⟩
  refine ⟨⟨?_, ?_, fun i h400 => ?_⟩, ⟨rfl, rfl, rfl, fun k hk => ?_, fun k hk => ?_, fun k hk => ?_, fun k hk => ?_⟩, hi⟩
  · show cF S 8 + 1 = T.1 6 + 1
    rw [t1]
  · have h2 := t2.1
    constructor
    · show 0 ≤ (T.1 6 + 1).toInt; omega
    · show (T.1 6 + 1).toInt ≤ 400; omega
  · show upd (cA S 5) (cF S 8).toNatClampNeg _ i &&& 255 = upd (T.2 5) (T.1 6).toNatClampNeg _ i
    rw [t1]
    by_cases e : i = (T.1 6).toNatClampNeg
    · simp only [upd, e, if_true]
      exact byte_eq _
    · simp only [upd, e, if_false]
      exact t3 i h400
  · show va_up S.2.2.1 5 _ k = _
    rw [va_up_ne _ _ hk]; rfl
  · show va_up S.1 8 _ k = _
    rw [va_up_ne _ _ hk]; rfl
  · show va_up T.1 6 _ k = _
    rw [va_up_ne _ _ hk]
  · show va_up T.2 5 _ k = _
    rw [va_up_ne _ _ hk]
theorem put4 {S : CS} {T : MS} (x : Int32) (ht : TpRel S T) (hlt : (T.1 6).toInt + 4 ≤ 400) : ∃ S' T', f_X3_put S x = some S' ∧ f_X6_four T x = some T' ∧ TpRel S' T' ∧ Fr8 S T S' T' ∧ (T'.1 6).toInt = (T.1 6).toInt + 4 := by
  obtain ⟨r1, g1, n1⟩ := step8 x 24 ht (by omega)
  obtain ⟨r2, g2, n2⟩ := step8 x 16 r1 (by omega)
  obtain ⟨r3, g3, n3⟩ := step8 x 8 r2 (by omega)
  obtain ⟨r4, g4, n4⟩ := step8 x 0 r3 (by omega)
  refine ⟨_, _, ?_, ?_, r4, ((g1.trans g2).trans g3).trans g4, by omega⟩
  · unfold f_X3_put
    rw [show fu = 9995 + 1 + 1 + 1 + 1 + 1 from rfl]
    rw [l_put_s (by decide) (by have := ht.2.1.1; rw [ht.1]; omega), show (24 : Int32) + -8 = 16 from rfl]
    rw [l_put_s (by decide) (by have := r1.2.1.1; rw [r1.1]; omega), show (16 : Int32) + -8 = 8 from rfl]
    rw [l_put_s (by decide) (by have := r2.2.1.1; rw [r2.1]; omega), show (8 : Int32) + -8 = 0 from rfl]
    rw [l_put_s (by decide) (by have := r3.2.1.1; rw [r3.1]; omega), show (0 : Int32) + -8 = -8 from rfl]
    rw [l_X3_put_3, if_pos (by decide)]
  · unfold f_X6_four
    rw [show fu = 9995 + 1 + 1 + 1 + 1 + 1 from rfl]
    rw [l_four_s (by decide) (by have := ht.2.1.1; omega), show (24 : Int32) + -8 = 16 from rfl]
    rw [l_four_s (by decide) (by have := r1.2.1.1; omega), show (16 : Int32) + -8 = 8 from rfl]
    rw [l_four_s (by decide) (by have := r2.2.1.1; omega), show (8 : Int32) + -8 = 0 from rfl]
    rw [l_four_s (by decide) (by have := r3.2.1.1; omega), show (0 : Int32) + -8 = -8 from rfl]
    rw [l_X6_four_3, if_pos (by decide)]
theorem Rel_feed : P_feed Rel := by
  intro h lk S T a1 a2 a3 a4 a5 hr
  have ht : TpRel S (mS T 0 0) := hr.2.2.2.1
  have hr0 : Rel h lk S (mS T 0 0) := hr
  have hb := ht.2.1
  have e20 : (cF S 8 + 20).toInt = (cF S 8).toInt + 20 := by
    rw [ht.1]
    rw [Int32.toInt_add, show (20 : Int32).toInt = 20 from rfl, Int.bmod_eq_of_le (by have := hb.1; omega) (by have := hb.2; omega)]
  unfold f_X5_feed f_X6_feed f_X3_hasRoomForFive
  rw [← ht.1]
  by_cases c : cF S 8 + 20 ≤ 400
  · have c2 : ¬ 400 < cF S 8 + 20 := by rw [i32_lt]; rw [i32_le] at c; omega
    rw [if_neg c2, if_pos rfl, if_pos c]
    rw [i32_le, e20, ht.1] at c
    have c : ((mS T 0 0).1 6).toInt + 20 ≤ 400 := c
    obtain ⟨S1, T1, p1, q1, r1, g1, n1⟩ := put4 a1 ht (by omega)
    obtain ⟨S2, T2, p2, q2, r2, g2, n2⟩ := put4 a2 r1 (by omega)
    obtain ⟨S3, T3, p3, q3, r3, g3, n3⟩ := put4 a3 r2 (by omega)
    obtain ⟨S4, T4, p4, q4, r4, g4, n4⟩ := put4 a4 r3 (by omega)
    obtain ⟨S5, T5, p5, q5, r5, g5, n5⟩ := put4 a5 r4 (by omega)
    refine ⟨(cF S5 8, S5), (T5.1 6, T5), ?_, ?_, r5.1, hr0.fr8 ((((g1.trans g2).trans g3).trans g4).trans g5) r5⟩
    · simp only [p1, p2, p3, p4, p5, Option.bind_some]
    · simp only [q1, q2, q3, q4, q5, Option.bind_some]
  · have c2 : 400 < cF S 8 + 20 := by rw [i32_lt]; rw [i32_le] at c; omega
    rw [if_pos c2, if_neg (by decide), if_neg c]
    exact ⟨_, _, rfl, rfl, rfl, hr0⟩
