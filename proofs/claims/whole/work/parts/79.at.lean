def RgN (h : Nat → Bool) (r : Nat) (S : CS) (w : Nat → Int32) (dd : Int) : Prop :=
  (cR S r 0 = w 0 ∧ cR S r 1 = w 1 ∧ cR S r 2 = w 2) ∧ (bt (w 0) 0 999 ∧ bt (w 1) 0 23 ∧ bt (w 2) 0 6) ∧
  (∀ k, k < 6 → cA S r k = w (3 + k) ∧ bt (w (3 + k)) (cTab 0 k).toInt (cTab 1 k).toInt) ∧
  ∀ i, i < (w 2).toNatClampNeg → h (6 * r + i) = true ∧ SpN S (6 * r + i) w (9 + 1288 * i) dd ∧ Sl S (6 * r + i) w (9 + 1288 * i)
theorem RgRel.toN {h : Nat → Bool} {r : Nat} {S : CS} {w : Nat → Int32} (hg : RgRel h r S w) : RgN h r S w (w 0).toInt ∧ ∀ i, i < (w 2).toNatClampNeg → Lt S (6 * r + i) w (9 + 1288 * i) :=
  ⟨⟨hg.1, hg.2.1, hg.2.2.1, fun i hi => ⟨(hg.2.2.2 i hi).1, (hg.2.2.2 i hi).2.n.1, (hg.2.2.2 i hi).2.n.2.1⟩⟩, fun i hi => (hg.2.2.2 i hi).2.n.2.2⟩
theorem RgN.mono {h : Nat → Bool} {r : Nat} {S : CS} {w : Nat → Int32} {dd d2 : Int} (hg : RgN h r S w dd) (hd : dd ≤ d2) : RgN h r S w d2 := ⟨hg.1, hg.2.1, hg.2.2.1, fun i hi => ⟨(hg.2.2.2 i hi).1, (hg.2.2.2 i hi).2.1.mono hd, (hg.2.2.2 i hi).2.2⟩⟩
theorem SpN.congr {S S' : CS} {j : Nat} {w w' : Nat → Int32} {o : Nat} {dd : Int} (h : SpN S j w o dd) (hp : ∀ f, f ≠ 2 → cP S' j f = cP S j f) (hq : cQ S' j = cQ S j) (hw : ∀ e, e < 1288 → w' (o + e) = w (o + e)) : SpN S' j w' o dd := by
  have u0 : w' o = w o := hw 0 (by omega)
  obtain ⟨⟨a0, a1, a2, a3, a4, a5⟩, ⟨b1, b2, b3, b4, b5⟩, -⟩ := id h
  refine h.sc hq (hw 7 (by omega)) (fun e _ h2 => hw e h2) ?_ ?_
  · rw [hp 0 (by decide), hp 1 (by decide), hp 3 (by decide), hp 4 (by decide), hp 5 (by decide), hp 6 (by decide), u0, hw 1 (by omega), hw 2 (by omega), hw 3 (by omega), hw 4 (by omega), hw 7 (by omega)]
    exact ⟨a0, a1, a2, a3, a4, a5⟩
  · rw [u0, hw 1 (by omega), hw 4 (by omega), hw 6 (by omega)]
    exact ⟨b1, b2, b3, b4⟩
theorem RgN.op {h : Nat → Bool} {r : Nat} {S S' : CS} {T T' : MS} {i : Nat} {dd : Int} (hg : RgN h r S (T.2 1) dd) (hJ : FrJ (6 * r + i) S S') (hW : FrW (9 + 1288 * i) T T') (hs : SpN S' (6 * r + i) (T'.2 1) (9 + 1288 * i) dd) (hl : Sl S' (6 * r + i) (T'.2 1) (9 + 1288 * i)) : RgN h r S' (T'.2 1) dd := by
  have w9 : ∀ n, n < 9 → T'.2 1 n = T.2 1 n := fun n hn => hW.2.2 n (by omega)
  refine ⟨?_, ?_, fun k hk => ?_, fun i' hi' => ?_⟩
  · rw [hJ.2.1, w9 0 (by omega), w9 1 (by omega), w9 2 (by omega)]; exact hg.1
  · rw [w9 0 (by omega), w9 1 (by omega), w9 2 (by omega)]; exact hg.2.1
  · rw [hJ.2.2.1, w9 _ (by omega)]; exact hg.2.2.1 k hk
  · rw [w9 2 (by omega)] at hi'
    obtain ⟨g1, g2, g3⟩ := hg.2.2.2 i' hi'
    refine ⟨g1, ?_⟩
    by_cases e : i' = i
    · subst e; exact ⟨hs, hl⟩
    · have hj' := hJ.2.2.2 (6 * r + i') (by omega)
      have hw : ∀ d, d < 1288 → T'.2 1 (9 + 1288 * i' + d) = T.2 1 (9 + 1288 * i' + d) := fun d hd => hW.2.2 _ (by omega)
      exact ⟨g2.congr (fun f _ => by rw [hj'.1]) hj'.2 hw, g3.sc (by rw [hj'.2]) (fun e _ h2 => hw e h2)⟩
theorem b_bI {b : Bool} : (bI b).toInt = if b = true then 1 else 0 := by cases b <;> rfl
set_option maxHeartbeats 1000000 in
theorem quart_l {h : Nat → Bool} {r M : Nat} {q : Int32} {dd : Int} (hM6 : M ≤ 6) (hq : 0 ≤ q.toInt ∧ q.toInt ≤ 35) (hqd : 30 * q.toInt ≤ dd) : ∀ (k n n' i : Nat) (S : CS) (T : MS) (acc base : Int32), RgN h r S (T.2 1) dd → T.2 1 2 = Int32.ofNat M → i + k = M → k < n → k < n' → 0 ≤ acc.toInt ∧ acc.toInt + k ≤ 1000 → ∃ v S' T', l_X0_beginQuarter_4 h r n S q acc (Int32.ofNat i) = some (v, S') ∧ (∀ (r15 : MS → Int32 → Int32 → Int32 → Int32 → Option (Int32 × MS)) (x1 x2 : Int32), l_X6_goesOn_27 r15 n' T x1 x2 (base + acc) q (Int32.ofNat i) = r15 T' x1 x2 (base + v) (q + 1)) ∧ (0 ≤ v.toInt ∧ v.toInt ≤ acc.toInt + k) ∧ RgN h r S' (T'.2 1) dd ∧ (∀ i', i ≤ i' → i' < M → cP S' (6 * r + i') 2 = 0) ∧ (∀ i', i' < i → cP S' (6 * r + i') 2 = cP S (6 * r + i') 2) ∧ (∀ i', i' < M → T'.2 1 (9 + 1288 * i' + 6) = T.2 1 (9 + 1288 * i' + 6)) ∧ FrO r S S' ∧ FrM T T' ∧ ∀ z, z < 9 → T'.2 1 z = T.2 1 z := by
  intro k
  induction k with
  | zero =>
    intro n n' i S T acc base hg hM hi hn hn' hacc
    obtain ⟨n, rfl⟩ : ∃ z, n = z + 1 := ⟨n - 1, by omega⟩
    obtain ⟨n', rfl⟩ : ∃ z, n' = z + 1 := ⟨n' - 1, by omega⟩
    have c : Int32.ofNat M ≤ Int32.ofNat i := by rw [i32_le, on_I (by omega), on_I (by omega)]; omega
    refine ⟨acc, S, T, ?_, fun r15 x1 x2 => ?_, by omega, hg, fun i' h1 h2 => by omega, fun _ _ => rfl, fun _ _ => rfl, FrO.refl r S, FrM.refl T, fun _ _ => rfl⟩
    · rw [l_X0_beginQuarter_4, hg.1.2.2, hM, if_pos c]
    · rw [l_X6_goesOn_27, hM, if_pos c]
  | succ k ih =>
    intro n n' i S T acc base hg hM hi hn hn' hacc
    obtain ⟨n, rfl⟩ : ∃ z, n = z + 1 := ⟨n - 1, by omega⟩
    obtain ⟨n', rfl⟩ : ∃ z, n' = z + 1 := ⟨n' - 1, by omega⟩
    have c : ¬ Int32.ofNat M ≤ Int32.ofNat i := by rw [i32_le, on_I (by omega), on_I (by omega)]; omega
    have iN : (Int32.ofNat i).toNatClampNeg = i := on_N (by omega)
    have hA : 0 ≤ (Int32.ofNat i).toInt ∧ (Int32.ofNat i).toInt < 6 := by rw [on_I (by omega)]; omega
    obtain ⟨g1, g2, g3⟩ := hg.2.2.2 i (by rw [hM, on_N (by omega)]; omega)
    have f1 : f_X0_find h S r (Int32.ofNat i) = some (some (6 * r + i)) := by
      unfold f_X0_find
      rw [if_neg (by rw [i32_lt]; show ¬ _ < (0 : Int); omega), hg.1.2.2, hM, if_neg c, if_pos (by rw [i32_lt]; exact hA.2), if_pos (ok_t hA), iN]
      unfold hN
      rw [if_pos g1]
    have J1 : FrJ (6 * r + i) S (sP S (6 * r + i) 2 0) := (FrJ.refl _ S).sP 2 0
    have n1 : SpN (sP S (6 * r + i) 2 0) (6 * r + i) (T.2 1) (9 + 1288 * i) dd := g2.congr (fun f hf => by rw [cP_sP_s, if_neg hf]) rfl (fun _ _ => rfl)
    have s1 : Sl (sP S (6 * r + i) 2 0) (6 * r + i) (T.2 1) (9 + 1288 * i) := g3
    have z1 : cP (sP S (6 * r + i) 2 0) (6 * r + i) 2 = 0 := by rw [cP_sP_s, if_pos rfl]
    obtain ⟨v, v1, v2⟩ := hole_s (a := Int32.ofNat i) (m := q) (by rw [iN]; exact s1) hA hq
    have o6 : FrO r S (sP S (6 * r + i) 2 0) := J1.o (by omega)
    rw [l_X0_beginQuarter_4, hg.1.2.2, hM, if_neg c, f1, Option.bind_some, oC_s, v1, Option.bind_some, on_S]
    by_cases y : v = -1
    · rw [if_pos y]
      obtain ⟨u, S', T', u1, u2, u3, u4, u5, u6, u7, u8, u9, u10⟩ := ih n n' (i + 1) (sP S (6 * r + i) 2 0) T acc base (hg.op J1 (FrW.refl _ T) n1 s1) hM (by omega) (by omega) (by omega) (by omega)
      refine ⟨u, S', T', u1, fun r15 x1 x2 => ?_, by omega, u4, fun i' h1 h2 => ?_, fun i' h1 => ?_, u7, o6.trans u8, u9, u10⟩
      · rw [l_X6_goesOn_27, hM, if_neg c, v2, Option.bind_some, if_pos y, Int32.add_zero, on_S]
        exact u2 r15 x1 x2
      · by_cases e : i' = i
        · subst e; rw [u6 i' (by omega)]; exact z1
        · exact u5 i' (by omega) h2
      · rw [u6 i' (by omega), cP_sP_n _ _ _ _ (by omega)]
    · rw [if_neg y]
      have e30 := i32_30 (m := q) (by omega)
      obtain ⟨nb, S2, T2, m1, m2, m3, m4, m5, m6, m7, m8⟩ := note_e (a := Int32.ofNat i) (kd := 0) hA (by rw [iN]) n1 (d := 30 * q) (by rw [e30.1]; omega)
      rw [e30.2, m1, Option.bind_some]
      have bb := b_bI (b := nb)
      have ea : (acc + bI nb).toInt = acc.toInt + (bI nb).toInt := i32_addI (by cases nb <;> simp at bb <;> omega)
      have sl2 : Sl S2 (6 * r + i) (T2.2 1) (9 + 1288 * i) := s1.sc m5 (fun e h1 h2 => m6 e (by omega))
      have hg2 := hg.op (J1.trans m7) m8 m3 sl2
      have t2 : T2.2 1 2 = Int32.ofNat M := by rw [m8.2.2 2 (by omega)]; exact hM
      obtain ⟨u, S', T', u1, u2, u3, u4, u5, u6, u7, u8, u9, u10⟩ := ih n n' (i + 1) S2 T2 (acc + bI nb) base hg2 t2 (by omega) (by omega) (by omega) (by cases nb <;> simp at bb <;> omega)
      refine ⟨u, S', T', u1, fun r15 x1 x2 => ?_, ?_, u4, fun i' h1 h2 => ?_, fun i' h1 => ?_, fun i' h1 => ?_, (J1.trans m7).o (by omega) |>.trans u8, m8.m.trans u9, fun z hz => ?_⟩
      · have u2' := u2 r15 x1 x2
        rw [l_X6_goesOn_27, hM, if_neg c, v2, Option.bind_some, if_neg y, m2, Option.bind_some, on_S]
        rw [← Int32.add_assoc] at u2'
        cases nb with
        | true => rw [if_pos rfl]; exact u2'
        | false => rw [if_neg (show ¬ false = true by decide)]; exact u2'
      · cases nb <;> simp at bb <;> omega
      · by_cases e : i' = i
        · subst e; rw [u6 i' (by omega), m4]; exact z1
        · exact u5 i' (by omega) h2
      · rw [u6 i' (by omega), (m7.2.2.2 _ (by omega)).1, cP_sP_n _ _ _ _ (by omega)]
      · rw [u7 i' h1]
        by_cases e : i' = i
        · subst e; exact m6 6 (by omega)
        · exact m8.2.2 _ (by omega)
      · rw [u10 z hz, m8.2.2 z (by omega)]
theorem quarts_l {h : Nat → Bool} {r M : Nat} {d hh : Int32} (hM6 : M ≤ 6) (hd : 0 ≤ d.toInt ∧ d.toInt ≤ 999) : ∀ (k n n' : Nat) (S : CS) (T : MS) (acc q : Int32), RgN h r S (T.2 1) d.toInt → T.2 1 2 = Int32.ofNat M → 0 ≤ q.toInt → q.toInt + k = d.toInt / 30 + 1 → k < n → k < n' → 0 ≤ acc.toInt ∧ acc.toInt + 6 * k ≤ 1000 → ∃ v S' T', l_X0_goOn_46 h r n S d hh acc (d / 30) q = some (v, sR (sR S' r 0 d) r 1 hh) ∧ l_X6_goesOn_15 n' T d hh acc q = some (v, mA (mA T' 1 0 d) 1 1 hh) ∧ 0 ≤ v.toInt ∧ RgN h r S' (T'.2 1) d.toInt ∧ (k = 0 → S' = S ∧ T' = T) ∧ (0 < k → ∀ i', i' < M → cP S' (6 * r + i') 2 = 0) ∧ (∀ i', i' < M → T'.2 1 (9 + 1288 * i' + 6) = T.2 1 (9 + 1288 * i' + 6)) ∧ FrO r S S' ∧ FrM T T' ∧ ∀ z, z < 9 → T'.2 1 z = T.2 1 z := by
  have e30 := day30 hd.1
  intro k
  induction k with
  | zero =>
    intro n n' S T acc q hg hM h0 hk hn hn' hacc
    obtain ⟨n, rfl⟩ : ∃ z, n = z + 1 := ⟨n - 1, by omega⟩
    obtain ⟨n', rfl⟩ : ∃ z, n' = z + 1 := ⟨n' - 1, by omega⟩
    have c : d / 30 < q := by rw [i32_lt, e30]; omega
    exact ⟨acc, S, T, by rw [l_X0_goOn_46, if_pos c], by rw [l_X6_goesOn_15, if_pos c], hacc.1, hg, fun _ => ⟨rfl, rfl⟩, fun z => by omega, fun _ _ => rfl, FrO.refl r S, FrM.refl T, fun _ _ => rfl⟩
  | succ k ih =>
    intro n n' S T acc q hg hM h0 hk hn hn' hacc
    obtain ⟨n, rfl⟩ : ∃ z, n = z + 1 := ⟨n - 1, by omega⟩
    obtain ⟨n', rfl⟩ : ∃ z, n' = z + 1 := ⟨n' - 1, by omega⟩
    have c : ¬ d / 30 < q := by rw [i32_lt, e30]; omega
    obtain ⟨v, S1, T1, v1, v2, v3, v4, v5, v6, v7, v8, v9, v10⟩ := quart_l (h := h) (r := r) (q := q) (dd := d.toInt) hM6 (by omega) (by omega) M fu fu 0 S T 0 acc hg hM (by omega) (by show _ < 10000; omega) (by show _ < 10000; omega) (by show (0 : Int) ≤ 0 ∧ (0 : Int) + _ ≤ _; omega)
    have z0 : (0 : Int32).toInt = 0 := rfl
    have v1 : f_X0_beginQuarter h S r q = some (v, S1) := v1
    have ea : (acc + v).toInt = acc.toInt + v.toInt := i32_addI (by omega)
    have eq := i32_inc (x := q) (by omega)
    obtain ⟨u, S', T', u1, u2, u3, u4, u5, u6, u7, u8, u9, u10⟩ := ih n n' S1 T1 (acc + v) (q + 1) v4 (by rw [v10 2 (by omega)]; exact hM) (by omega) (by omega) (by omega) (by omega) (by omega)
    refine ⟨u, S', T', ?_, ?_, u3, u4, fun z => by omega, fun _ i' hi' => ?_, fun i' hi' => ?_, v8.trans u8, v9.trans u9, fun z hz => by rw [u10 z hz, v10 z hz]⟩
    · rw [l_X0_goOn_46, if_neg c, v1, Option.bind_some]; exact u1
    · have w := v2 (l_X6_goesOn_15 n') d hh
      rw [Int32.add_zero] at w
      rw [l_X6_goesOn_15, if_neg c]
      exact w.trans u2
    · by_cases k0 : k = 0
      · rw [(u5 k0).1]; exact v5 i' (by omega) hi'
      · exact u6 (by omega) i' hi'
    · rw [u7 i' hi', v7 i' hi']
