theorem Rel_test : P_test Rel := by
  intro h lk S T a1 a2 a3 hr
  have hr0 : Rel h lk S (mS T 0 0) := hr
  unfold f_X5_test f_X6_test
  generalize mS T 0 0 = U at *
  by_cases ca : 0 ≤ a1.toInt ∧ a1.toInt < (U.2 1 2).toInt
  · obtain ⟨f1, f2, f3, f4, f5⟩ := find_t hr0.2.2.1 ca
    rw [f2, if_pos rfl]
    by_cases cp : 0 ≤ a2.toInt ∧ a2.toInt ≤ 9
    · obtain ⟨v, S', T', v1, v2, v3, v4, v5, v6⟩ := visit_e hr0.2.2.1 ca cp a3
      rw [if_pos (place_t cp).2, v1, v2]
      exact ⟨_, _, rfl, rfl, rfl, hr0.op hr0.1 v5 v6 v4⟩
    · rw [(place_f cp).2]
      refine ⟨(-1, S), (-1, U), ?_, rfl, rfl, hr0⟩
      unfold f_X0_visit
      rw [f1, Option.bind_some, oC_s, (place_f cp).1]
      rfl
  · obtain ⟨f1, f2, f3⟩ := noF (k := 0) hr0 ca
    rw [f2]
    refine ⟨(-1, S), (-1, U), ?_, rfl, rfl, hr0⟩
    unfold f_X0_visit
    rw [f1]
    rfl
/-- what a sportsman's turn reads of his register -/
def Ct (r : Nat) (S : CS) (T : MS) : Prop := (cA S r 3 = T.2 1 6 ∧ cA S r 4 = T.2 1 7) ∧ (cR S r 0 = T.2 1 0 ∧ cR S r 1 = T.2 1 1) ∧ bt (T.2 1 0) 0 999 ∧ bt (T.2 1 1) 0 23
theorem RgRel.ct {h : Nat → Bool} {r : Nat} {S : CS} {T : MS} (hg : RgRel h r S (T.2 1)) : Ct r S T := ⟨⟨(hg.2.2.1 3 (by omega)).1, (hg.2.2.1 4 (by omega)).1⟩, ⟨hg.1.1, hg.1.2.1⟩, hg.2.1.1, hg.2.1.2.1⟩
theorem Ct.fr {r j o : Nat} {S S' : CS} {T T' : MS} (h : Ct r S T) (ho : 9 ≤ o) (hJ : FrJ j S S') (hW : FrW o T T') : Ct r S' T' := by
  unfold Ct
  rw [hJ.2.2.1, hJ.2.1, hW.2.2 6 (by omega), hW.2.2 7 (by omega), hW.2.2 0 (by omega), hW.2.2 1 (by omega)]
  exact h
theorem SpN.q3 {S : CS} {j : Nat} {w : Nat → Int32} {o : Nat} {dd : Int} (h : SpN S j w o dd) (i : Nat) (v : Int32) : SpN (sQ S j 3 i v) j w o dd := by
  refine ⟨h.1, h.2.1, fun k hk => ?_⟩
  rw [cQ_sQ_s, if_neg (by decide), cQ_sQ_s, if_neg (by decide), cQ_sQ_s, if_neg (by decide)]
  exact h.2.2 k hk
theorem SpN.w188 {S : CS} {j : Nat} {w w' : Nat → Int32} {o : Nat} {dd : Int} (h : SpN S j w o dd) (hw : ∀ e, e < 188 → w' (o + e) = w (o + e)) : SpN S j w' o dd := by
  have u0 : w' o = w o := hw 0 (by omega)
  obtain ⟨a, ⟨b1, b2, b3, b4, b5⟩, c⟩ := h
  refine ⟨?_, ?_, fun k hk => ?_⟩
  · rw [u0, hw 1 (by omega), hw 2 (by omega), hw 3 (by omega), hw 4 (by omega), hw 7 (by omega)]; exact a
  · rw [u0, hw 1 (by omega), hw 4 (by omega), hw 6 (by omega), hw 7 (by omega)]; exact ⟨b1, b2, b3, b4, b5⟩
  · rw [hw 7 (by omega)] at hk
    have k60 : k < 60 := by rw [i32_nc] at hk; have := b5.2; omega
    rw [show o + 8 + 3 * k = o + (8 + 3 * k) from by omega, show o + 9 + 3 * k = o + (9 + 3 * k) from by omega, show o + 10 + 3 * k = o + (10 + 3 * k) from by omega, hw _ (by omega), hw _ (by omega), hw _ (by omega), ← Nat.add_assoc, ← Nat.add_assoc, ← Nat.add_assoc]
    exact c k hk
theorem Lt.w {S S' : CS} {j : Nat} {w w' : Nat → Int32} {o : Nat} (h : Lt S j w o) (hp : cP S' j 2 = cP S j 2) (h0 : w' 0 = w 0) (h5 : w' (o + 5) = w (o + 5)) (h6 : w' (o + 6) = w (o + 6)) : Lt S' j w' o := by
  unfold Lt
  rw [hp, h0, h5, h6]; exact h
theorem put_e {S : CS} {T : MS} {j o d : Nat} {v : Int32} (hs : SpRel S j (T.2 1) o) (ho : 9 ≤ o) (hd : d < 1100) (hv : v = 0 ∨ bt v 51 230) : SpRel (sQ S j 3 d v) j ((mA T 1 (o + 188 + d) v).2 1) o ∧ FrJ j S (sQ S j 3 d v) ∧ FrW o T (mA T 1 (o + 188 + d) v) := by
  obtain ⟨sn, sl, lt⟩ := hs.n
  have e0 : (mA T 1 (o + 188 + d) v).2 1 0 = T.2 1 0 := by rw [m21, up_n _ _ (by omega)]
  refine ⟨SpN.r ?_ ?_ ?_, (FrJ.refl j S).sQ 3 d v, (FrW.refl o T).mA (by omega) v⟩
  · rw [e0]
    exact (sn.q3 d v).w188 (fun e he => by rw [m21, up_n _ _ (by omega)])
  · exact sl.put (e := d) (v := v) (by rw [cQ_sQ_s, if_pos rfl]) (fun d' _ => rfl) hv
  · exact lt.w rfl e0 (by rw [m21, up_n _ _ (by omega)]) (by rw [m21, up_n _ _ (by omega)])
/-- one late change more, where the reference's counter is of this quarter -/
theorem late_j {S : CS} {T : MS} {r j o : Nat} {a : Int32} (hA : 0 ≤ a.toInt ∧ a.toInt < 6) (ho : o = 9 + 1288 * a.toNatClampNeg) (ct : Ct r S T) (sn : SpN S j (T.2 1) o (T.2 1 0).toInt) (h5 : T.2 1 (o + 5) = cP S j 2) (h6 : T.2 1 (o + 6) = T.2 1 0 / 30) : ∃ S' T', f_X0_noteLateChange S r j = some S' ∧ j_X6_isLate_44 T a = some T' ∧ SpN S' j (T'.2 1) o (T.2 1 0).toInt ∧ Lt S' j (T'.2 1) o ∧ cQ S' j 3 = cQ S j 3 ∧ (∀ e, 188 ≤ e → T'.2 1 (o + e) = T.2 1 (o + e)) ∧ FrJ j S S' ∧ FrW o T T' := by
  have c5 := cell_e (a := a) (k := 5) hA (by decide)
  have K5 : (f_X6_cell a 5).toNatClampNeg = o + 5 := by rw [c5.2.2, ho]; rfl
  have i5 : f_X6_its (mA T 1 (o + 5) (cP S j 2 + 1)) a 5 = some (cP S j 2 + 1) := by
    rw [its_e (k := 5) hA (by decide)]
    rw [show 9 + 1288 * a.toNatClampNeg + Int32.toNatClampNeg 5 = o + 5 from by rw [ho]; rfl, m21, up_s]
  have e7 : (mA T 1 (o + 5) (cP S j 2 + 1)).2 1 7 = T.2 1 7 := by rw [m21, up_n _ _ (by omega)]
  have e0 : (mA T 1 (o + 5) (cP S j 2 + 1)).2 1 0 = T.2 1 0 := by rw [m21, up_n _ _ (by omega)]
  have N : f_X0_noteLateChange S r j = if cP S j 2 + 1 ≤ cA S r 4 then some (sP S j 2 (cP S j 2 + 1)) else (f_X1_note (sP S j 2 (cP S j 2 + 1)) j (cR S r 0) 1).bind fun q1 => some q1.2 := by
    unfold f_X0_noteLateChange
    rw [cP_sP_s, if_pos rfl]
    rfl
  unfold j_X6_isLate_44
  rw [if_pos c5.2.1, if_pos c5.2.1, K5, h5, i5, Option.bind_some, e7, e0, N, ct.1.2, ct.2.1.1]
  have sn1 : SpN (sP S j 2 (cP S j 2 + 1)) j ((mA T 1 (o + 5) (cP S j 2 + 1)).2 1) o (T.2 1 0).toInt := by
    obtain ⟨⟨p0, p1, p2, p3, p4, p5⟩, ⟨b1, b2, b3, b4, b5⟩, -⟩ := id sn
    refine sn.sc rfl ?_ (fun e h1 h2 => ?_) ?_ ?_
    · rw [m21, up_n _ _ (by omega)]
    · rw [m21, up_n _ _ (by omega)]
    · simp only [cP_sP_s, m21, Nat.reduceEqDiff, if_false]
      rw [up_n _ _ (show o ≠ o + 5 by omega), up_n _ _ (show o + 1 ≠ o + 5 by omega), up_n _ _ (show o + 2 ≠ o + 5 by omega), up_n _ _ (show o + 3 ≠ o + 5 by omega), up_n _ _ (show o + 4 ≠ o + 5 by omega), up_n _ _ (show o + 7 ≠ o + 5 by omega)]
      exact ⟨p0, p1, p2, p3, p4, p5⟩
    · rw [m21, up_n _ _ (show o ≠ o + 5 by omega), up_n _ _ (show o + 1 ≠ o + 5 by omega), up_n _ _ (show o + 4 ≠ o + 5 by omega), up_n _ _ (show o + 6 ≠ o + 5 by omega)]
      exact ⟨b1, b2, b3, b4⟩
  have lt1 : Lt (sP S j 2 (cP S j 2 + 1)) j ((mA T 1 (o + 5) (cP S j 2 + 1)).2 1) o := by
    unfold Lt
    rw [cP_sP_s, if_pos rfl, e0, m21, up_n _ _ (show o + 6 ≠ o + 5 by omega), up_s, if_pos h6]
  have fJ : FrJ j S (sP S j 2 (cP S j 2 + 1)) := (FrJ.refl j S).sP 2 _
  have fW : FrW o T (mA T 1 (o + 5) (cP S j 2 + 1)) := (FrW.refl o T).mA (by omega) _
  by_cases c : cP S j 2 + 1 ≤ T.2 1 7
  · rw [if_pos c, if_pos c]
    exact ⟨_, _, rfl, rfl, sn1, lt1, rfl, fun e he => by rw [m21, up_n _ _ (by omega)], fJ, fW⟩
  · rw [if_neg c, if_neg c]
    obtain ⟨nb, S', T', n1, n2, n3, n4, n5, n6, n7, n8⟩ := note_e (kd := 1) hA ho sn1 (d := T.2 1 0) ⟨ct.2.2.1.1, by omega⟩
    rw [n1, n2]
    refine ⟨S', T', rfl, rfl, n3, lt1.w n4 (n8.2.2 0 (by omega)) (n6 5 (by omega)) (n6 6 (by omega)), ?_, fun e he => ?_, fJ.trans n7, fW.trans n8⟩
    · rw [n5]; rfl
    · rw [n6 e (by omega), m21, up_n _ _ (by omega)]
theorem day30 {x : Int32} (h : 0 ≤ x.toInt) : (x / 30).toInt = x.toInt / 30 := by
  have := Int32.toInt_lt x
  rw [Int32.toInt_div, show (30 : Int32).toInt = 30 from rfl, Int.tdiv_eq_ediv_of_nonneg h, Int.bmod_eq_of_le (by omega) (by omega)]
theorem late_e {S : CS} {T : MS} {r j o : Nat} {a : Int32} (hA : 0 ≤ a.toInt ∧ a.toInt < 6) (ho : o = 9 + 1288 * a.toNatClampNeg) (ct : Ct r S T) (sn : SpN S j (T.2 1) o (T.2 1 0).toInt) (lt : Lt S j (T.2 1) o) : ∃ S' T', f_X0_noteLateChange S r j = some S' ∧ f_X6_isLate T a = some T' ∧ SpN S' j (T'.2 1) o (T.2 1 0).toInt ∧ Lt S' j (T'.2 1) o ∧ cQ S' j 3 = cQ S j 3 ∧ (∀ e, 188 ≤ e → T'.2 1 (o + e) = T.2 1 (o + e)) ∧ FrJ j S S' ∧ FrW o T T' := by
  have i6 : f_X6_its T a 6 = some (T.2 1 (o + 6)) := by
    rw [its_e (k := 6) hA (by decide)]
    rw [show 9 + 1288 * a.toNatClampNeg + Int32.toNatClampNeg 6 = o + 6 from by rw [ho]; rfl]
  unfold f_X6_isLate
  unfold Lt at lt
  rw [i6, Option.bind_some]
  by_cases c : T.2 1 (o + 6) = T.2 1 0 / 30
  · rw [if_pos c] at lt ⊢
    exact late_j hA ho ct sn lt.symm c
  · rw [if_neg c] at lt ⊢
    have c5 := cell_e (a := a) (k := 5) hA (by decide)
    have c6 := cell_e (a := a) (k := 6) hA (by decide)
    have K5 : (f_X6_cell a 5).toNatClampNeg = o + 5 := by rw [c5.2.2, ho]; rfl
    have K6 : (f_X6_cell a 6).toNatClampNeg = o + 6 := by rw [c6.2.2, ho]; rfl
    rw [if_pos c6.2.1, if_pos c5.2.1, K5, K6]
    have fW : FrW o T (mA (mA T 1 (o + 6) (T.2 1 0 / 30)) 1 (o + 5) 0) := ((FrW.refl o T).mA (by omega) _).mA (by omega) _
    have e0 : (mA (mA T 1 (o + 6) (T.2 1 0 / 30)) 1 (o + 5) 0).2 1 0 = T.2 1 0 := fW.2.2 0 (by omega)
    have dd := day30 ct.2.2.1.1
    have d0 := ct.2.2.1.1
    have sn1 : SpN S j ((mA (mA T 1 (o + 6) (T.2 1 0 / 30)) 1 (o + 5) 0).2 1) o (T.2 1 0).toInt := by
      obtain ⟨⟨p0, p1, p2, p3, p4, p5⟩, ⟨b1, b2, b3, b4, b5⟩, -⟩ := id sn
      have u : ∀ e, e ≠ 5 → e ≠ 6 → (mA (mA T 1 (o + 6) (T.2 1 0 / 30)) 1 (o + 5) 0).2 1 (o + e) = T.2 1 (o + e) := fun e h1 h2 => by rw [m21, up_n _ _ (by omega), m21, up_n _ _ (by omega)]
      have u0 : (mA (mA T 1 (o + 6) (T.2 1 0 / 30)) 1 (o + 5) 0).2 1 o = T.2 1 o := u 0 (by decide) (by decide)
      refine sn.sc rfl (u 7 (by decide) (by decide)) (fun e h1 h2 => u e (by omega) (by omega)) ?_ ?_
      · rw [u0, u 1 (by decide) (by decide), u 2 (by decide) (by decide), u 3 (by decide) (by decide), u 4 (by decide) (by decide), u 7 (by decide) (by decide)]
        exact ⟨p0, p1, p2, p3, p4, p5⟩
      · rw [u0, u 1 (by decide) (by decide), u 4 (by decide) (by decide), m21, up_n _ _ (show o + 6 ≠ o + 5 by omega), m21, up_s]
        exact ⟨b1, b2, b3, ⟨by omega, by omega⟩⟩
    obtain ⟨S', T', h1, h2, h3, h4, h5, h6, h7, h8⟩ := late_j (r := r) hA ho (ct.fr (j := j) (by omega) (FrJ.refl j S) fW) (by rw [e0]; exact sn1) (by rw [m21, up_s, lt]) (by rw [e0, m21, up_n _ _ (show o + 6 ≠ o + 5 by omega), m21, up_s])
    refine ⟨S', T', h1, h2, by rw [e0] at h3; exact h3, h4, h5, fun e he => ?_, h7, fW.trans h8⟩
    rw [h6 e he, m21, up_n _ _ (by omega), m21, up_n _ _ (by omega)]
set_option maxHeartbeats 1000000 in
theorem span_l {h : Nat → Bool} {r j o : Nat} {a x3 x4 x7 : Int32} (hA : 0 ≤ a.toInt ∧ a.toInt < 6) (ho : o = 9 + 1288 * a.toNatClampNeg) (h3 : x3.toInt < 1100) (h7 : bt x7 51 230) : ∀ (k n n' : Nat) (S : CS) (T : MS) (acc d : Int32), Ct r S T → SpRel S j (T.2 1) o → 0 ≤ d.toInt → d.toInt + k = x3.toInt + 1 → k < n → k < n' → 0 ≤ acc.toInt ∧ acc.toInt + k ≤ 1000 → ∃ v S' T', l_X0_enterSpan_67 h r n S x3 x4 j x7 acc d = some (v, S') ∧ l_X6_files_18 n' T a x3 x4 acc x7 d = some (v, T') ∧ 0 ≤ v.toInt ∧ SpRel S' j (T'.2 1) o ∧ FrJ j S S' ∧ FrW o T T' := by
  intro k
  induction k with
  | zero =>
    intro n n' S T acc d ct hs hd hk hn hn' hacc
    obtain ⟨n, rfl⟩ : ∃ z, n = z + 1 := ⟨n - 1, by omega⟩
    obtain ⟨n', rfl⟩ : ∃ z, n' = z + 1 := ⟨n' - 1, by omega⟩
    have c : x3 < d := by rw [i32_lt]; omega
    exact ⟨acc, S, T, by rw [l_X0_enterSpan_67, if_pos c], by rw [l_X6_files_18, if_pos c], hacc.1, hs, FrJ.refl j S, FrW.refl o T⟩
  | succ k ih =>
    intro n n' S T acc d ct hs hd hk hn hn' hacc
    obtain ⟨n, rfl⟩ : ∃ z, n = z + 1 := ⟨n - 1, by omega⟩
    obtain ⟨n', rfl⟩ : ∃ z, n' = z + 1 := ⟨n' - 1, by omega⟩
    have c : ¬ x3 < d := by rw [i32_lt]; omega
    have hd2 : 0 ≤ d.toInt ∧ d.toInt < 1100 := by omega
    have okd : ok d 1100 := ok_t hd2
    obtain ⟨sn, sl, lt⟩ := hs.n
    have sl' : Sl S j (T.2 1) (9 + 1288 * a.toNatClampNeg) := by rw [← ho]; exact sl
    have F := filed_s sl' hA hd2
    have F2 := isFiled_s sl' hA hd2
    have dn : d.toNatClampNeg < 1100 := by rw [i32_nc]; omega
    obtain ⟨-, -, q1, q2⟩ := fday_t hd2
    have ce := cell_e (a := a) (k := 188 + d) hA (by omega)
    have K : (f_X6_cell a (188 + d)).toNatClampNeg = o + 188 + d.toNatClampNeg := by rw [ce.2.2, q2, ho]; omega
    have ex := i32_inc (x := d) (by omega)
    have ea := i32_inc (x := acc) (by omega)
    -- what stays, if no late change comes
    have go : ∀ (acc' : Int32), 0 ≤ acc'.toInt ∧ acc'.toInt + k ≤ 1000 → ∃ v S' T', l_X0_enterSpan_67 h r n (sQ S j 3 d.toNatClampNeg x7) x3 x4 j x7 acc' (d + 1) = some (v, S') ∧ l_X6_files_18 n' (mA T 1 (o + 188 + d.toNatClampNeg) x7) a x3 x4 acc' x7 (d + 1) = some (v, T') ∧ 0 ≤ v.toInt ∧ SpRel S' j (T'.2 1) o ∧ FrJ j S S' ∧ FrW o T T' := by
      intro acc' hacc'
      obtain ⟨p1, p2, p3⟩ := put_e hs (by omega) dn (Or.inr h7)
      obtain ⟨v, S', T', v1, v2, v3, v4, v5, v6⟩ := ih n n' _ _ acc' (d + 1) (ct.fr (by omega) p2 p3) p1 (by omega) (by omega) (by omega) (by omega) hacc'
      exact ⟨v, S', T', v1, v2, v3, v4, p2.trans v5, p3.trans v6⟩
    rw [l_X0_enterSpan_67, if_neg c, if_pos okd, if_pos okd, l_X6_files_18, if_neg c, F2, Option.bind_some, F.1, Option.bind_some, if_pos ce.2.1, K]
    by_cases z : cQ S j 3 d.toNatClampNeg = 0
    · rw [if_pos z, z]
      exact go acc ⟨hacc.1, by omega⟩
    · have zb : (!(cQ S j 3 d.toNatClampNeg == 0)) = true := by rw [Bool.not_eq_true', beq_eq_false_iff_ne]; exact z
      rw [if_neg z, if_pos zb]
      by_cases e : cQ S j 3 d.toNatClampNeg = x7
      · rw [if_pos e, if_pos e]
        exact go acc ⟨hacc.1, by omega⟩
      · rw [if_neg e, if_neg e]
        have hh : f_X6_hourOf T a d = some ((cQ S j 3 d.toNatClampNeg - 1) / 10) := by unfold f_X6_hourOf; rw [F.1]; rfl
        rw [hh, Option.bind_some]
        have R : ∀ (f : Int32 → Option (Int32 × MS)), (if x4 ≤ (cQ S j 3 d.toNatClampNeg - 1) / 10 then f x4 else f ((cQ S j 3 d.toNatClampNeg - 1) / 10)) = f (if x4 < f_X1_hourOf (cQ S j 3 d.toNatClampNeg) then x4 else f_X1_hourOf (cQ S j 3 d.toNatClampNeg)) := fun f => by
          unfold f_X1_hourOf
          by_cases g1 : x4 < (cQ S j 3 d.toNatClampNeg - 1) / 10
          · rw [if_pos g1, if_pos (by rw [i32_lt] at g1; rw [i32_le]; omega)]
          · rw [if_neg g1]
            by_cases g2 : x4 ≤ (cQ S j 3 d.toNatClampNeg - 1) / 10
            · rw [if_pos g2, i32_ext (x := x4) (y := (cQ S j 3 d.toNatClampNeg - 1) / 10) (by rw [i32_lt] at g1; rw [i32_le] at g2; omega)]
            · rw [if_neg g2]
        have R2 := R (fun t => j_X6_files_76 (l_X6_files_18 n') T a x3 x4 (acc + 1) x7 d t)
        rw [R2]
        unfold j_X6_files_76
        generalize (if x4 < f_X1_hourOf (cQ S j 3 d.toNatClampNeg) then x4 else f_X1_hourOf (cQ S j 3 d.toNatClampNeg)) = t
        have hT : f_X0_hoursTo (sQ S j 3 d.toNatClampNeg x7) r d t = ((24 * (d - T.2 1 0)) + t) - T.2 1 1 := by
          show ((d - cR S r 0) * 24 + t) - cR S r 1 = _
          rw [ct.2.1.1, ct.2.1.2, Int32.mul_comm]
        have hL : cA (sQ S j 3 d.toNatClampNeg x7) r 3 = T.2 1 6 := ct.1.1
        rw [hT, hL, if_pos ce.2.1]
        by_cases l : T.2 1 6 ≤ ((24 * (d - T.2 1 0)) + t) - T.2 1 1
        · rw [if_pos l, if_pos l, K]
          exact go (acc + 1) ⟨by omega, by omega⟩
        · rw [if_neg l, if_neg l]
          obtain ⟨S1, T1, g1, g2, g3, g4, g5, g6, g7, g8⟩ := late_e (S := sQ S j 3 d.toNatClampNeg x7) (r := r) hA ho (ct.fr (T' := T) (o := o) (by omega) ((FrJ.refl j S).sQ 3 d.toNatClampNeg x7) (FrW.refl o T)) (sn.q3 _ _) (lt.w rfl rfl rfl rfl)
          have J1 : FrJ j S S1 := ((FrJ.refl j S).sQ 3 d.toNatClampNeg x7).trans g7
          have W1 : FrW o T (mA T1 1 (o + 188 + d.toNatClampNeg) x7) := g8.mA (by omega) _
          have e0 : (mA T1 1 (o + 188 + d.toNatClampNeg) x7).2 1 0 = T.2 1 0 := W1.2.2 0 (by omega)
          have sp : SpRel S1 j ((mA T1 1 (o + 188 + d.toNatClampNeg) x7).2 1) o := by
            refine SpN.r ?_ ?_ ?_
            · rw [e0]
              exact g3.w188 (fun e he => by rw [m21, up_n _ _ (by omega)])
            · refine sl.put (e := d.toNatClampNeg) (v := x7) (by rw [g5, cQ_sQ_s, if_pos rfl]) (fun d' hd' => ?_) (Or.inr h7)
              rw [m21]
              by_cases y : d' = d.toNatClampNeg
              · subst y; rw [up_s, up_s]
              · rw [up_n _ _ (by omega), up_n _ _ (by omega), Nat.add_assoc, g6 _ (by omega)]
            · exact g4.w rfl (by rw [m21, up_n _ _ (by omega)]) (by rw [m21, up_n _ _ (by omega)]) (by rw [m21, up_n _ _ (by omega)])
          rw [g1, g2, Option.bind_some, Option.bind_some, if_pos ce.2.1, K]
          obtain ⟨v, S', T', v1, v2, v3, v4, v5, v6⟩ := ih n n' S1 _ (acc + 1) (d + 1) (ct.fr (by omega) J1 W1) sp (by omega) (by omega) (by omega) (by omega) (by omega)
          exact ⟨v, S', T', v1, v2, v3, v4, J1.trans v5, W1.trans v6⟩
