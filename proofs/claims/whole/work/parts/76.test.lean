def FrO (r : Nat) (S S' : CS) : Prop := cF S' = cF S ∧ (∀ k, k ≠ r → cA S' k = cA S k) ∧ (∀ r', r' ≠ r → cR S' r' = cR S r') ∧ ∀ j, j < 6 * r ∨ 6 * r + 6 ≤ j → cP S' j = cP S j ∧ cQ S' j = cQ S j
def FrM (T T' : MS) : Prop := T'.1 = T.1 ∧ ∀ k, k ≠ 1 → T'.2 k = T.2 k
theorem FrO.refl (r : Nat) (S : CS) : FrO r S S := ⟨rfl, fun _ _ => rfl, fun _ _ => rfl, fun _ _ => ⟨rfl, rfl⟩⟩
theorem FrM.refl (T : MS) : FrM T T := ⟨rfl, fun _ _ => rfl⟩
theorem FrO.trans {r : Nat} {S S' S2 : CS} (h : FrO r S S') (g : FrO r S' S2) : FrO r S S2 := ⟨g.1.trans h.1, fun k hk => (g.2.1 k hk).trans (h.2.1 k hk), fun k hk => (g.2.2.1 k hk).trans (h.2.2.1 k hk), fun j hj => ⟨(g.2.2.2 j hj).1.trans (h.2.2.2 j hj).1, (g.2.2.2 j hj).2.trans (h.2.2.2 j hj).2⟩⟩
theorem FrM.trans {T T' T2 : MS} (h : FrM T T') (g : FrM T' T2) : FrM T T2 := ⟨g.1.trans h.1, fun k hk => (g.2 k hk).trans (h.2 k hk)⟩
theorem FrJ.o {r i : Nat} {S S' : CS} (hi : i < 6) (h : FrJ (6 * r + i) S S') : FrO r S S' := ⟨h.1, fun k _ => by rw [h.2.2.1], fun k _ => by rw [h.2.1], fun j hj => h.2.2.2 j (by omega)⟩
theorem FrW.m {o : Nat} {T T' : MS} (h : FrW o T T') : FrM T T' := ⟨h.1, h.2.1⟩
theorem RgRel.op {h : Nat → Bool} {r : Nat} {S S' : CS} {T T' : MS} {i : Nat} (hg : RgRel h r S (T.2 1)) (hJ : FrJ (6 * r + i) S S') (hW : FrW (9 + 1288 * i) T T') (hs : SpRel S' (6 * r + i) (T'.2 1) (9 + 1288 * i)) : RgRel h r S' (T'.2 1) :=
  hg.one i hJ.2.1 (congrFun hJ.2.2.1 r) hJ.2.2.2 (fun n hn => hW.2.2 n (hn.elim Or.inl (fun q => Or.inr (Nat.le_trans (Nat.le_of_eq (by rw [Nat.mul_succ, Nat.add_assoc])) q)))) hs
theorem Rel.op {h h' : Nat → Bool} {lk : Nat × Nat} {S S' : CS} {T T' : MS} (hr : Rel h lk S T) (hw : cWf h' lk) (hO : FrO lk.1 S S') (hM : FrM T T') (hg : RgRel h' lk.1 S' (T'.2 1)) : Rel h' lk S' T' :=
  hr.reg hw (hO.2.1 5 (by have := hr.1.1; omega)) (fun k _ => by rw [hO.1]) ⟨by rw [hM.1], by rw [hM.1]⟩ (fun k hk => hM.2 k (by omega)) hg
theorem slot_v {h p : Int32} (hh : 0 ≤ h.toInt ∧ h.toInt ≤ 23) (hp : 0 ≤ p.toInt ∧ p.toInt ≤ 9) : (f_X1_slotOf h p).toInt = 1 + h.toInt * 10 + p.toInt := by
  have e0 : (h * 10).toInt = h.toInt * 10 := i32_mulI (y := 10) (by show _ ≤ _ * (10 : Int) ∧ _ * (10 : Int) ≤ _; omega)
  have e1 : (1 + h * 10).toInt = 1 + h.toInt * 10 := by rw [i32_addI (x := 1) (by rw [e0]; show _ ≤ (1 : Int) + _ ∧ (1 : Int) + _ ≤ _; omega), e0]; rfl
  unfold f_X1_slotOf
  rw [i32_addI (by rw [e1]; omega), e1]
theorem ten_v {s : Int32} (hs : bt s 51 230) : ((s - 1) / 10).toInt = (s.toInt - 1) / 10 ∧ ((s - 1) - (s - 1) / 10 * 10).toInt = (s.toInt - 1) % 10 := by
  have s1 := hs.1
  have s2 := hs.2
  have z : (1 : Int32).toInt = 1 := rfl
  have z10 : (10 : Int32).toInt = 10 := rfl
  have e : (s - 1).toInt = s.toInt - 1 := i32_subI (y := 1) (by omega)
  refine ⟨?_, ?_⟩
  · rw [Int32.toInt_div, e, z10, Int.tdiv_eq_ediv_of_nonneg (by omega), Int.bmod_eq_of_le (by omega) (by omega)]
  · rw [rem32 (by omega) (by omega), e, z10]
theorem slot_eq {s h p : Int32} (hs : s = 0 ∨ bt s 51 230) (hh : 0 ≤ h.toInt ∧ h.toInt ≤ 23) (hp : 0 ≤ p.toInt ∧ p.toInt ≤ 9) : s = f_X1_slotOf h p ↔ (¬ s = 0 ∧ (s - 1) - (s - 1) / 10 * 10 = p ∧ (s - 1) / 10 = h) := by
  have e := slot_v hh hp
  rcases hs with rfl | hs
  · refine ⟨fun g => ?_, fun g => absurd rfl g.1⟩
    rw [← g] at e
    have z : (0 : Int32).toInt = 0 := rfl
    omega
  · have t := ten_v hs
    refine ⟨fun g => ⟨fun g0 => ?_, i32_ext ?_, i32_ext ?_⟩, fun ⟨g1, g2, g3⟩ => i32_ext ?_⟩
    · rw [g0] at hs; exact absurd hs.1 (by decide)
    · rw [t.2, g, e]; omega
    · rw [t.1, g, e]; omega
    · rw [e]
      rw [g2, g3] at t
      omega
theorem place_t {p : Int32} (hp : 0 ≤ p.toInt ∧ p.toInt ≤ 9) : f_X5_canBePlace p = true ∧ f_X6_in p 0 9 = true := by
  refine ⟨?_, in_t (a := 0) (b := 9) hp⟩
  unfold f_X5_canBePlace
  rw [if_neg (by rw [i32_lt]; show ¬ _ < (0 : Int); omega), if_neg (by rw [i32_le]; show ¬ (10 : Int) ≤ _; omega)]
theorem place_f {p : Int32} (hp : ¬ (0 ≤ p.toInt ∧ p.toInt ≤ 9)) : f_X5_canBePlace p = false ∧ f_X6_in p 0 9 = false := by
  refine ⟨?_, in_f (a := 0) (b := 9) hp⟩
  unfold f_X5_canBePlace
  by_cases c : p < 0
  · rw [if_pos c]
  · rw [if_neg c, if_pos (by rw [i32_lt] at c; have c : ¬ p.toInt < 0 := c; rw [i32_le]; show (10 : Int) ≤ _; omega)]
set_option maxHeartbeats 1000000 in
theorem visit_e {h : Nat → Bool} {r : Nat} {S : CS} {T : MS} {a p : Int32} (hg : RgRel h r S (T.2 1)) (ca : 0 ≤ a.toInt ∧ a.toInt < (T.2 1 2).toInt) (hp : 0 ≤ p.toInt ∧ p.toInt ≤ 9) (b : Bool) : ∃ v S' T', f_X0_visit h S r a p b = some (v, S') ∧ f_X6_tests T a p b = some (v, T') ∧ 0 ≤ v.toInt ∧ RgRel h r S' (T'.2 1) ∧ FrO r S S' ∧ FrM T T' := by
  obtain ⟨f1, f2, f3, f4, f5⟩ := find_t hg ca
  have hA : 0 ≤ a.toInt ∧ a.toInt < 6 := ⟨ca.1, f3⟩
  have a6 : a.toNatClampNeg < 6 := by rw [i32_nc]; omega
  obtain ⟨sn, sl, lt⟩ := f5.n
  have sn0 := sn
  have r0 : cR S r 0 = T.2 1 0 := hg.1.1
  have r1 : cR S r 1 = T.2 1 1 := hg.1.2.1
  have d0 := hg.2.1.1
  have d1 := hg.2.1.2.1
  have D0 := d0.1
  have D1 := d0.2
  have hd : 0 ≤ (T.2 1 0).toInt ∧ (T.2 1 0).toInt < 1100 := by omega
  have F := filed_s sl hA hd
  have F2 := isFiled_s sl hA hd
  have c2 := cell_e (a := a) (k := 2) hA (by decide)
  have c3 := cell_e (a := a) (k := 3) hA (by decide)
  have c4 := cell_e (a := a) (k := 4) hA (by decide)
  have K2 : (f_X6_cell a 2).toNatClampNeg = 9 + 1288 * a.toNatClampNeg + 2 := c2.2.2
  have K3 : (f_X6_cell a 3).toNatClampNeg = 9 + 1288 * a.toNatClampNeg + 3 := c3.2.2
  have K4 : (f_X6_cell a 4).toNatClampNeg = 9 + 1288 * a.toNatClampNeg + 4 := c4.2.2
  have hop : ∀ {S' : CS} {T' : MS}, FrJ (6 * r + a.toNatClampNeg) S S' → FrW (9 + 1288 * a.toNatClampNeg) T T' → SpRel S' (6 * r + a.toNatClampNeg) (T'.2 1) (9 + 1288 * a.toNatClampNeg) → RgRel h r S' (T'.2 1) ∧ FrO r S S' ∧ FrM T T' := fun hJ hW hs => ⟨hg.op hJ hW hs, hJ.o a6, hW.m⟩
  have n0 : ∀ e, (0 : Nat) ≠ 9 + 1288 * a.toNatClampNeg + e := fun e => by omega
  generalize ho : 9 + 1288 * a.toNatClampNeg = o at *
  generalize 6 * r + a.toNatClampNeg = j at *
  have V : f_X0_visit h S r a p b = if b = true then some (0, sP (sP S j 3 (cP S j 3 + 1)) j 5 (cR S r 0)) else (if f_X5_canBeFiledDay (cR S r 0) = true then (if ok (cR S r 0) 1100 then (if cQ S j 3 (cR S r 0).toNatClampNeg = f_X1_slotOf (cR S r 1) p then (f_X1_note (sP (sP (sP S j 3 (cP S j 3 + 1)) j 5 (cR S r 0)) j 4 (cP (sP (sP S j 3 (cP S j 3 + 1)) j 5 (cR S r 0)) j 4 + 1)) j (cR S r 0) 2).bind fun q6 => some (1, q6.2) else some (2, sP (sP S j 3 (cP S j 3 + 1)) j 5 (cR S r 0))) else none) else some (2, sP (sP S j 3 (cP S j 3 + 1)) j 5 (cR S r 0))) := by
    unfold f_X0_visit
    rw [f1, Option.bind_some, oC_s, if_pos (place_t hp).1]
    rfl
  have z1 : ∀ x, (mA T 1 (o + 2) x).2 1 0 = T.2 1 0 := fun x => by rw [m21, up_n _ _ (n0 2)]
  have z2 : ∀ x y z, (mA (mA (mA T 1 (o + 2) x) 1 (o + 4) y) 1 (o + 3) z).2 1 0 = T.2 1 0 := fun x y z => by rw [m21, up_n _ _ (n0 3), m21, up_n _ _ (n0 4), m21, up_n _ _ (n0 2)]
  have J : ∀ t0, j_X6_tests_54 T a b t0 = if b = true then some (0, mA (mA T 1 (o + 2) (T.2 1 (o + 2) + 1)) 1 (o + 4) (T.2 1 0)) else (if t0 = 0 then some (2, mA (mA T 1 (o + 2) (T.2 1 (o + 2) + 1)) 1 (o + 4) (T.2 1 0)) else (f_X6_fails (mA (mA (mA T 1 (o + 2) (T.2 1 (o + 2) + 1)) 1 (o + 4) (T.2 1 0)) 1 (o + 3) ((mA (mA T 1 (o + 2) (T.2 1 (o + 2) + 1)) 1 (o + 4) (T.2 1 0)).2 1 (o + 3) + 1)) a (T.2 1 0) 2).bind fun q8 => some (1, q8.2)) := fun t0 => by
    unfold j_X6_tests_54
    rw [if_pos c2.2.1, if_pos c2.2.1, if_pos c4.2.1, if_pos c3.2.1, if_pos c3.2.1, K2, K3, K4, z1, z2]
  have TS : f_X6_tests T a p b = j_X6_tests_54 T a b (if cQ S j 3 (T.2 1 0).toNatClampNeg = f_X1_slotOf (T.2 1 1) p then 1 else 0) := by
    unfold f_X6_tests f_X6_placeOf f_X6_hourOf
    rw [F2, F.1]
    simp only [Option.bind_some]
    have se := slot_eq F.2 (h := T.2 1 1) (p := p) ⟨d1.1, d1.2⟩ hp
    generalize cQ S j 3 (T.2 1 0).toNatClampNeg = s at *
    by_cases e0 : s = 0
    · rw [if_neg (fun g => (se.1 g).1 e0), e0]; rfl
    · have zb : (!(s == 0)) = true := by rw [Bool.not_eq_true', beq_eq_false_iff_ne]; exact e0
      rw [if_pos zb]
      by_cases e1 : (s - 1) - (s - 1) / 10 * 10 = p
      · rw [if_pos e1]
        by_cases e2 : (s - 1) / 10 = T.2 1 1
        · rw [if_pos e2, if_pos (se.2 ⟨e0, e1, e2⟩)]
        · rw [if_neg e2, if_neg (fun g => e2 (se.1 g).2.2)]
      · rw [if_neg e1, if_neg (fun g => e1 (se.1 g).2.1)]
  rw [V, TS, J, r0, r1, if_pos (fday_t hd).1, if_pos (ok_t hd)]
  obtain ⟨⟨p0, p1, p2, p3, p4, p5⟩, ⟨b1, b2, b3, b4, b5⟩, -⟩ := sn0
  have w1 : (mA (mA T 1 (o + 2) (T.2 1 (o + 2) + 1)) 1 (o + 4) (T.2 1 0)).2 1 = upd (upd (T.2 1) (o + 2) (T.2 1 (o + 2) + 1)) (o + 4) (T.2 1 0) := rfl
  have fJ : FrJ j S (sP (sP S j 3 (cP S j 3 + 1)) j 5 (T.2 1 0)) := ((FrJ.refl j S).sP 3 _).sP 5 _
  have fW : FrW o T (mA (mA T 1 (o + 2) (T.2 1 (o + 2) + 1)) 1 (o + 4) (T.2 1 0)) := ((FrW.refl o T).mA (by omega) _).mA (by omega) _
  have sA : SpN (sP (sP S j 3 (cP S j 3 + 1)) j 5 (T.2 1 0)) j ((mA (mA T 1 (o + 2) (T.2 1 (o + 2) + 1)) 1 (o + 4) (T.2 1 0)).2 1) o (T.2 1 0).toInt := by
    rw [w1]
    refine sn.sc rfl ?_ (fun e h1 h2 => ?_) ?_ ?_
    · rw [up_n _ _ (by omega), up_n _ _ (by omega)]
    · rw [up_n _ _ (by omega), up_n _ _ (by omega)]
    · simp only [cP_sP_s, Nat.reduceEqDiff, if_false, if_true]
      rw [up_n _ _ (show o ≠ o + 4 by omega), up_n _ _ (show o ≠ o + 2 by omega), up_n _ _ (show o + 1 ≠ o + 4 by omega), up_n _ _ (show o + 1 ≠ o + 2 by omega), up_n _ _ (show o + 2 ≠ o + 4 by omega), up_s, up_n _ _ (show o + 3 ≠ o + 4 by omega), up_n _ _ (show o + 3 ≠ o + 2 by omega), up_s, up_n _ _ (show o + 7 ≠ o + 4 by omega), up_n _ _ (show o + 7 ≠ o + 2 by omega)]
      exact ⟨p0, p1, by rw [p2], p3, rfl, p5⟩
    · rw [up_n _ _ (show o ≠ o + 4 by omega), up_n _ _ (show o ≠ o + 2 by omega), up_n _ _ (show o + 1 ≠ o + 4 by omega), up_n _ _ (show o + 1 ≠ o + 2 by omega), up_s, up_n _ _ (show o + 6 ≠ o + 4 by omega), up_n _ _ (show o + 6 ≠ o + 2 by omega)]
      exact ⟨b1, b2, ⟨by omega, by omega⟩, b4⟩
  have lA : cP (sP (sP S j 3 (cP S j 3 + 1)) j 5 (T.2 1 0)) j 2 = cP S j 2 := by rw [cP_sP_s, if_neg (by decide), cP_sP_s, if_neg (by decide)]
  have fin : ∀ {S' : CS} {T' : MS}, FrJ j S S' → FrW o T T' → SpN S' j (T'.2 1) o (T.2 1 0).toInt → cP S' j 2 = cP S j 2 → cQ S' j 3 = cQ S j 3 → (∀ e, e = 5 ∨ e = 6 ∨ 188 ≤ e → T'.2 1 (o + e) = T.2 1 (o + e)) → T'.2 1 0 = T.2 1 0 → RgRel h r S' (T'.2 1) ∧ FrO r S S' ∧ FrM T T' := by
    intro S' T' hJ hW hs hl hq he h0
    refine hop hJ hW (SpN.r (by rw [h0]; exact hs) (sl.sc hq (fun e h1 h2 => he e (by omega))) ?_)
    unfold Lt
    rw [hl, h0, he 6 (by omega), he 5 (by omega)]
    exact lt
  have wA : ∀ e, e ≠ 2 → e ≠ 4 → (mA (mA T 1 (o + 2) (T.2 1 (o + 2) + 1)) 1 (o + 4) (T.2 1 0)).2 1 (o + e) = T.2 1 (o + e) := fun e h1 h2 => by
    rw [w1, up_n _ _ (by omega), up_n _ _ (by omega)]
  have wA0 : (mA (mA T 1 (o + 2) (T.2 1 (o + 2) + 1)) 1 (o + 4) (T.2 1 0)).2 1 0 = T.2 1 0 := by rw [w1, up_n _ _ (n0 4), up_n _ _ (n0 2)]
  have R1 := fin fJ fW sA lA rfl (fun e he => wA e (by omega) (by omega)) wA0
  cases b with
  | true =>
    rw [if_pos rfl, if_pos rfl]
    exact ⟨0, _, _, rfl, rfl, by decide, R1.1, R1.2.1, R1.2.2⟩
  | false =>
    rw [if_neg (show ¬ false = true by decide), if_neg (show ¬ false = true by decide)]
    by_cases cs : cQ S j 3 (T.2 1 0).toNatClampNeg = f_X1_slotOf (T.2 1 1) p
    · rw [if_pos cs, if_pos cs, if_neg (show ¬ (1 : Int32) = 0 by decide)]
      have e3 := wA 3 (by decide) (by decide)
      have cp4 : cP (sP (sP S j 3 (cP S j 3 + 1)) j 5 (T.2 1 0)) j 4 = T.2 1 (o + 3) := by rw [cP_sP_s, if_neg (by decide), cP_sP_s, if_neg (by decide)]; exact p3
      rw [e3, cp4]
      generalize hS1 : sP (sP S j 3 (cP S j 3 + 1)) j 5 (T.2 1 0) = S1 at *
      generalize hT1 : mA (mA T 1 (o + 2) (T.2 1 (o + 2) + 1)) 1 (o + 4) (T.2 1 0) = T1 at *
      have fJ2 : FrJ j S (sP S1 j 4 (T.2 1 (o + 3) + 1)) := fJ.sP 4 _
      have fW2 : FrW o T (mA T1 1 (o + 3) (T.2 1 (o + 3) + 1)) := fW.mA (by omega) _
      have sA0 := sA
      obtain ⟨⟨q0, q1, q2, q3, q4, q5⟩, ⟨g1, g2, g3, g4, g5⟩, -⟩ := sA0
      have sB : SpN (sP S1 j 4 (T.2 1 (o + 3) + 1)) j ((mA T1 1 (o + 3) (T.2 1 (o + 3) + 1)).2 1) o (T.2 1 0).toInt := by
        refine sA.sc rfl ?_ (fun e h1 h2 => ?_) ?_ ?_
        · rw [m21, up_n _ _ (by omega)]
        · rw [m21, up_n _ _ (by omega)]
        · simp only [cP_sP_s, m21, Nat.reduceEqDiff, if_false, if_true]
          rw [up_n _ _ (show o ≠ o + 3 by omega), up_n _ _ (show o + 1 ≠ o + 3 by omega), up_n _ _ (show o + 2 ≠ o + 3 by omega), up_s, up_n _ _ (show o + 4 ≠ o + 3 by omega), up_n _ _ (show o + 7 ≠ o + 3 by omega)]
          exact ⟨q0, q1, q2, rfl, q4, q5⟩
        · rw [m21, up_n _ _ (show o ≠ o + 3 by omega), up_n _ _ (show o + 1 ≠ o + 3 by omega), up_n _ _ (show o + 4 ≠ o + 3 by omega), up_n _ _ (show o + 6 ≠ o + 3 by omega)]
          exact ⟨g1, g2, g3, g4⟩
      obtain ⟨nb, S', T', n1, n2, n3, n4, n5, n6, n7, n8⟩ := note_e (kd := 2) hA ho.symm sB (d := T.2 1 0) (by omega)
      rw [n1, n2]
      have R2 := fin (fJ2.trans n7) (fW2.trans n8) n3 (by rw [n4, cP_sP_s, if_neg (by decide)]; exact lA) (by rw [n5, cQ_sP, ← hS1]; rfl) (fun e he => by rw [n6 e (by omega), m21, up_n _ _ (by omega), wA e (by omega) (by omega)]) (by rw [n8.2.2 0 (by omega), m21, up_n _ _ (n0 3), wA0])
      exact ⟨1, _, _, rfl, rfl, by decide, R2.1, R2.2.1, R2.2.2⟩
    · rw [if_neg cs, if_neg cs, if_pos rfl]
      exact ⟨2, _, _, rfl, rfl, by decide, R1.1, R1.2.1, R1.2.2⟩
