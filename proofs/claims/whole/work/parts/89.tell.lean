theorem row_e {h : Nat → Bool} {r i : Nat} {S : CS} (hi : i < 6) : ∃ S1 h1, f_X0_rowOf h S r (Int32.ofNat i) = some (6 * r + i, S1, h1) ∧ FrJ (6 * r + i) S S1 ∧ hle h h1 ∧ h1 (6 * r + i) = true := by
  unfold f_X0_rowOf
  rw [if_pos (on_ok hi (by omega)), on_N (by omega)]
  by_cases y : h (6 * r + i) = true
  · rw [if_pos y]
    exact ⟨S, h, rfl, FrJ.refl _ S, fun j hj => hj, y⟩
  · rw [if_neg y]
    refine ⟨_, _, rfl, ⟨rfl, rfl, rfl, fun j' hj' => zP_n S _ hj'⟩, fun j hj => ?_, va_up_self _ _ _⟩
    by_cases e : j = 6 * r + i
    · subst e; exact va_up_self _ _ _
    · rw [va_up_ne _ _ e]; exact hj
theorem cQ_sQw_s (S : CS) (j c c' : Nat) (f : Nat → Int32) : cQ (sQw S j c f) j c' = if c' = c then f else cQ S j c' := by
  show va_up S.2.2.2.2 j (va_up (S.2.2.2.2 j) c f) j c' = _
  rw [va_up_self]; rfl
theorem cQ_sQw_n (S : CS) (j c : Nat) (f : Nat → Int32) {j' : Nat} (h : j' ≠ j) : cQ (sQw S j c f) j' = cQ S j' := by
  show va_up S.2.2.2.2 j _ j' = _
  rw [va_up_ne _ _ h]; rfl
theorem FrJ.sQw {j : Nat} {S S' : CS} (h : FrJ j S S') (c : Nat) (f : Nat → Int32) : FrJ j S (sQw S' j c f) := ⟨h.1, h.2.1, h.2.2.1, fun j' hj => ⟨(h.2.2.2 j' hj).1, (cQ_sQw_n _ _ _ _ hj).trans (h.2.2.2 j' hj).2⟩⟩
theorem cpy_t (f g : Nat → Int32) {n i : Nat} (h : i < n) : va_cpy f g 0 0 n i = f i := by
  unfold va_cpy
  rw [if_pos ⟨Nat.zero_le _, by omega⟩, Nat.zero_add, Nat.sub_zero]
theorem cpy_e (S : CS) {j j2 : Nat} (hne : j2 ≠ j) : FrJ j S (f_X1_become S j j2) ∧ (∀ f, f < 7 → cP (f_X1_become S j j2) j f = cP S j2 f) ∧ (∀ c i, c < 3 → i < 60 → cQ (f_X1_become S j j2) j c i = cQ S j2 c i) ∧ ∀ i, i < 1100 → cQ (f_X1_become S j j2) j 3 i = cQ S j2 3 i := by
  have hP : ∀ X f v, cP (sP X j f v) j2 = cP X j2 := fun X f v => cP_sP_n X j f v hne
  have hQ : ∀ X c f, cQ (sQw X j c f) j2 = cQ X j2 := fun X c f => cQ_sQw_n X j c f hne
  have hPQ : ∀ X c f, cP (sQw X j c f) = cP X := fun X c f => rfl
  unfold f_X1_become j_X1_become_8 j_X1_become_16 j_X1_become_24 j_X1_become_32 j_X1_become_40 j_X1_become_48 j_X1_become_56 j_X1_become_71 j_X1_become_86 j_X1_become_101 j_X1_become_117
  simp only [hP, hQ, hPQ, cQ_sP]
  refine ⟨?_, fun f hf => ?_, fun c i hc hi => ?_, fun i hi => ?_⟩
  · exact ((((((((((FrJ.refl j S).sP _ _).sP _ _).sP _ _).sP _ _).sP _ _).sP _ _).sP _ _).sQw _ _).sQw _ _).sQw _ _ |>.sQw _ _
  · rcases (by omega : f = 0 ∨ f = 1 ∨ f = 2 ∨ f = 3 ∨ f = 4 ∨ f = 5 ∨ f = 6) with rfl | rfl | rfl | rfl | rfl | rfl | rfl <;> simp only [cP_sP_s, Nat.reduceEqDiff, if_true, if_false]
  · rcases (by omega : c = 0 ∨ c = 1 ∨ c = 2) with rfl | rfl | rfl
    · simp only [cQ_sQw_s, Nat.reduceEqDiff, if_true, if_false]
      exact cpy_t _ _ hi
    · simp only [cQ_sQw_s, Nat.reduceEqDiff, if_true, if_false]
      exact cpy_t _ _ hi
    · simp only [cQ_sQw_s, Nat.reduceEqDiff, if_true, if_false]
      exact cpy_t _ _ hi
  · simp only [cQ_sQw_s, if_true]
    exact cpy_t _ _ hi
theorem SpRel.cpy {S S' : CS} {j j2 o : Nat} {w : Nat → Int32} (hs : SpRel S j2 w o) (hP : ∀ f, f < 7 → cP S' j f = cP S j2 f) (hQ : ∀ c i, c < 3 → i < 60 → cQ S' j c i = cQ S j2 c i) (hQ3 : ∀ i, i < 1100 → cQ S' j 3 i = cQ S j2 3 i) : SpRel S' j w o := by
  obtain ⟨a, ⟨b1, b2, b3, b4, b5⟩, c, d⟩ := hs
  refine ⟨?_, ⟨b1, b2, b3, b4, b5⟩, fun k hk => ?_, fun i hi => ?_⟩
  · rw [hP 0 (by omega), hP 1 (by omega), hP 2 (by omega), hP 3 (by omega), hP 4 (by omega), hP 5 (by omega), hP 6 (by omega)]; exact a
  · have k60 : k < 60 := by rw [i32_nc] at hk; have := b5.2; omega
    rw [hQ 0 k (by omega) k60, hQ 1 k (by omega) k60, hQ 2 k (by omega) k60]; exact c k hk
  · rw [hQ3 i hi]; exact d i hi
theorem bec_l {k v M : Nat} {w : Nat → Int32} (hM6 : M ≤ 6) (hM : w 2 = Int32.ofNat M) (hne : v ≠ k) : ∀ (g n i : Nat) (S : CS) (h : Nat → Bool), RgRel h v S w → (∀ i', i' < i → i' < M → h (6 * k + i') = true ∧ SpRel S (6 * k + i') w (9 + 1288 * i')) → i + g = 6 → g < n → ∃ S' h', l_X0_become k v n S h (Int32.ofNat i) = some (S', h') ∧ RgRel h' v S' w ∧ (∀ i', i' < M → h' (6 * k + i') = true ∧ SpRel S' (6 * k + i') w (9 + 1288 * i')) ∧ cF S' = cF S ∧ cA S' = cA S ∧ cR S' = cR S ∧ hle h h' := by
  intro g
  induction g with
  | zero =>
    intro n i S h hg hI hi hn
    obtain ⟨n, rfl⟩ : ∃ z, n = z + 1 := ⟨n - 1, by omega⟩
    have e : i = 6 := by omega
    subst e
    exact ⟨S, h, by rw [l_X0_become, if_pos (by decide)], hg, fun i' hi' => hI i' (by omega) hi', rfl, rfl, rfl, hle_r h⟩
  | succ g ih =>
    intro n i S h hg hI hi hn
    obtain ⟨n, rfl⟩ : ∃ z, n = z + 1 := ⟨n - 1, by omega⟩
    have c6 : ¬ (6 : Int32) ≤ Int32.ofNat i := by rw [i32_le, on_I (by omega)]; show ¬ (6 : Int) ≤ _; omega
    have iN : (Int32.ofNat i).toNatClampNeg = i := on_N (by omega)
    have wI : (w 2).toInt = (M : Int) := by rw [hM, on_I (by omega)]
    by_cases c : i < M
    · obtain ⟨f1, -, -, -, f5⟩ := find_t (T := ((fun _ => 0), (fun _ => w))) hg (a := Int32.ofNat i) (by show _ ∧ _ < (w 2).toInt; rw [on_I (by omega), wI]; omega)
      rw [iN] at f1 f5
      have f5 : SpRel S (6 * v + i) w (9 + 1288 * i) := f5
      obtain ⟨S1, h1, r1, r2, r3, r4⟩ := row_e (h := h) (r := k) (S := S) (i := i) (by omega)
      have nj : 6 * v + i ≠ 6 * k + i := by omega
      obtain ⟨p1, p2, p3, p4⟩ := cpy_e S1 (j := 6 * k + i) (j2 := 6 * v + i) nj
      have J : FrJ (6 * k + i) S (f_X1_become S1 (6 * k + i) (6 * v + i)) := r2.trans p1
      have e2 := r2.2.2.2 (6 * v + i) nj
      have s2 : SpRel (f_X1_become S1 (6 * k + i) (6 * v + i)) (6 * k + i) w (9 + 1288 * i) := f5.cpy (fun f hf => by rw [p2 f hf, e2.1]) (fun c i' hc hi' => by rw [p3 c i' hc hi', e2.2]) (fun i' hi' => by rw [p4 i' hi', e2.2])
      obtain ⟨S', h', k1, k2, k3, k4, k5, k6, k7⟩ := ih n (i + 1) (f_X1_become S1 (6 * k + i) (6 * v + i)) h1 (hg.other (J.o (by omega)) hne r3) (fun i' a1 a2 => by
        by_cases e : i' = i
        · subst e; exact ⟨r4, s2⟩
        · obtain ⟨y1, y2⟩ := hI i' (by omega) a2
          have hj := J.2.2.2 (6 * k + i') (by omega)
          exact ⟨r3 _ y1, y2.congr hj.1 hj.2 rfl (fun _ _ => rfl)⟩) (by omega) (by omega)
      refine ⟨S', h', ?_, k2, k3, by rw [k4, J.1], by rw [k5, J.2.2.1], by rw [k6, J.2.1], fun j hj => k7 j (r3 j hj)⟩
      rw [l_X0_become, if_neg c6, f1, Option.bind_some, oC_s, r1, Option.bind_some, on_S]
      exact k1
    · obtain ⟨f1, -⟩ := find_f (T := ((fun _ => 0), (fun _ => w))) hg (a := Int32.ofNat i) (by show ¬ (_ ∧ _ < (w 2).toInt); rw [on_I (by omega), wI]; omega)
      obtain ⟨S', h', k1, k2, k3, k4, k5, k6, k7⟩ := ih n (i + 1) S h hg (fun i' a1 a2 => hI i' (by omega) a2) (by omega) (by omega)
      refine ⟨S', h', ?_, k2, k3, k4, k5, k6, k7⟩
      rw [l_X0_become, if_neg c6, f1, Option.bind_some, oC_n, on_S]
      exact k1
theorem bec_e {h : Nat → Bool} {k v : Nat} {S : CS} {w : Nat → Int32} (hg : RgRel h v S w) (hk : k < 2) (hv : v < 2) (hne : v ≠ k) : ∃ S' h', f_X0_become h S k v = some (S', h') ∧ RgRel h' v S' w ∧ RgRel h' k S' w ∧ cF S' = cF S ∧ cA S' 5 = cA S 5 := by
  obtain ⟨⟨r0, r1, r2⟩, ⟨b0, b1, b2⟩, g3, g4⟩ := id hg
  have B2 := b2.1
  have B2' := b2.2
  have hM : w 2 = Int32.ofNat (w 2).toNatClampNeg := on_of B2 (by omega)
  have hM6 : (w 2).toNatClampNeg ≤ 6 := by rw [i32_nc]; omega
  have e1 : ∀ X f x, cR (sR X k f x) v = cR X v := fun X f x => cR_sR_n X k f x hne
  have D : f_X0_become h S k v = l_X0_become k v fu (j_X0_become (sR (sR (sR S k 0 (w 0)) k 1 (w 1)) k 2 (w 2)) k v) h (Int32.ofNat 0) := by
    have e0 : (0 : Int32) = Int32.ofNat 0 := rfl
    unfold f_X0_become
    rw [e1, e1, e1, r0, r1, r2, e0]
  generalize hS0 : j_X0_become (sR (sR (sR S k 0 (w 0)) k 1 (w 1)) k 2 (w 2)) k v = S0 at *
  have aK : ∀ i, i < 6 → cA S0 k i = cA S v i := fun i hi => by
    rw [← hS0]
    unfold j_X0_become
    show va_up S.2.2.1 k (va_cpy (cA S v) (cA S k) 0 0 6) k i = _
    rw [va_up_self]
    exact cpy_t _ _ hi
  have aO : ∀ a, a ≠ k → cA S0 a = cA S a := fun a ha => by
    rw [← hS0]
    unfold j_X0_become
    show va_up S.2.2.1 k _ a = _
    rw [va_up_ne _ _ ha]; rfl
  have rV : cR S0 v = cR S v := by
    rw [← hS0]
    show cR (sR (sR (sR S k 0 (w 0)) k 1 (w 1)) k 2 (w 2)) v = _
    rw [e1, e1, e1]
  have rK : cR S0 k 0 = w 0 ∧ cR S0 k 1 = w 1 ∧ cR S0 k 2 = w 2 := by
    rw [← hS0]
    show cR (sR (sR (sR S k 0 (w 0)) k 1 (w 1)) k 2 (w 2)) k 0 = w 0 ∧ cR (sR (sR (sR S k 0 (w 0)) k 1 (w 1)) k 2 (w 2)) k 1 = w 1 ∧ cR (sR (sR (sR S k 0 (w 0)) k 1 (w 1)) k 2 (w 2)) k 2 = w 2
    rw [cR_sR_s, cR_sR_s, cR_sR_s, cR_sR_s, cR_sR_s, cR_sR_s, cR_sR_s]
    exact ⟨rfl, rfl, rfl⟩
  have fP : cP S0 = cP S := by rw [← hS0]; rfl
  have fQ : cQ S0 = cQ S := by rw [← hS0]; rfl
  have fF : cF S0 = cF S := by rw [← hS0]; rfl
  have gV : RgRel h v S0 w := ⟨by rw [rV]; exact ⟨r0, r1, r2⟩, ⟨b0, b1, b2⟩, by rw [aO v hne]; exact g3, fun i hi => ⟨(g4 i hi).1, (g4 i hi).2.congr (by rw [fP]) (by rw [fQ]) rfl (fun _ _ => rfl)⟩⟩
  obtain ⟨S', h', k1, k2, k3, k4, k5, k6, k7⟩ := bec_l (k := k) (v := v) hM6 hM hne 6 fu 0 S0 h gV (fun i' a1 a2 => by omega) (by omega) (by decide)
  refine ⟨S', h', D.trans k1, k2, ⟨by rw [k6]; exact rK, ⟨b0, b1, b2⟩, fun i hi => ?_, k3⟩, by rw [k4, fF], by rw [k5, aO 5 (by omega)]⟩
  rw [k5, aK i hi]; exact g3 i hi
/-! the reference's copies -/
theorem RgRel.w {h : Nat → Bool} {r : Nat} {S : CS} {w w' : Nat → Int32} (hg : RgRel h r S w) (hw : ∀ z, z < 7737 → w' z = w z) : RgRel h r S w' := by
  obtain ⟨g1, g2, g3, g4⟩ := hg
  refine ⟨by rw [hw 0 (by omega), hw 1 (by omega), hw 2 (by omega)]; exact g1, by rw [hw 0 (by omega), hw 1 (by omega), hw 2 (by omega)]; exact g2, fun k hk => by rw [hw _ (by omega)]; exact g3 k hk, fun i hi => ?_⟩
  rw [hw 2 (by omega)] at hi
  have i6 : i < 6 := by rw [i32_nc] at hi; have := g2.2.2.2; omega
  exact ⟨(g4 i hi).1, (g4 i hi).2.congr rfl rfl (hw 0 (by omega)) (fun d hd => hw _ (by omega))⟩
theorem keep_l : ∀ (g n i : Nat) (T : MS), i + g = 7737 → g < n → ∃ T' : MS, l_X6_tell_7 n T (Int32.ofNat i) = ((f_X6_readText T').bind fun q1 => if q1.1 = true then (some (((mS (mS q1.2 6 0) 7 ((mS q1.2 6 0).1 9)).1 12), (mS (mS q1.2 6 0) 7 ((mS q1.2 6 0).1 9)))) else (l_X6_tell_61 fu (mS (mS q1.2 6 0) 7 ((mS q1.2 6 0).1 9)) 0)) ∧ T'.1 = T.1 ∧ (∀ k, k ≠ 2 → T'.2 k = T.2 k) ∧ (∀ z, i ≤ z → z < 7737 → T'.2 2 z = T.2 1 z) ∧ ∀ z, z < i → T'.2 2 z = T.2 2 z := by
  intro g
  induction g with
  | zero =>
    intro n i T hi hn
    obtain ⟨n, rfl⟩ : ∃ z, n = z + 1 := ⟨n - 1, by omega⟩
    have e : i = 7737 := by omega
    subst e
    exact ⟨T, by rw [l_X6_tell_7, if_pos (by decide)], rfl, fun _ _ => rfl, fun z h1 h2 => by omega, fun _ _ => rfl⟩
  | succ g ih =>
    intro n i T hi hn
    obtain ⟨n, rfl⟩ : ∃ z, n = z + 1 := ⟨n - 1, by omega⟩
    have c : ¬ (7737 : Int32) ≤ Int32.ofNat i := by rw [i32_le, on_I (by omega)]; show ¬ (7737 : Int) ≤ _; omega
    have o7 : ok (Int32.ofNat i) 7737 := on_ok (by omega) (by omega)
    obtain ⟨T', t1, t2, t3, t4, t5⟩ := ih n (i + 1) (mA T 2 i (T.2 1 i)) (by omega) (by omega)
    have m1 : (mA T 2 i (T.2 1 i)).2 1 = T.2 1 := by rw [m2_mA, if_neg (by decide)]
    have m2 : (mA T 2 i (T.2 1 i)).2 2 = upd (T.2 2) i (T.2 1 i) := by rw [m2_mA, if_pos rfl]
    refine ⟨T', ?_, t2, fun k hk => by rw [t3 k hk, m2_mA, if_neg hk], fun z h1 h2 => ?_, fun z h1 => ?_⟩
    · rw [l_X6_tell_7, if_neg c, if_pos o7, if_pos o7, on_N (by omega), on_S]; exact t1
    · by_cases e : z = i
      · subst e; rw [t5 z (by omega), m2, up_s]
      · rw [t4 z (by omega) h2, m1]
    · rw [t5 z (by omega), m2, up_n _ _ (by omega)]
theorem back_l : ∀ (g n i : Nat) (T : MS), i + g = 7737 → g < n → ∃ T' : MS, l_X6_tell_61 n T (Int32.ofNat i) = some (-1, T') ∧ T'.1 = T.1 ∧ (∀ k, k ≠ 1 → T'.2 k = T.2 k) ∧ (∀ z, i ≤ z → z < 7737 → T'.2 1 z = T.2 2 z) ∧ ∀ z, z < i → T'.2 1 z = T.2 1 z := by
  intro g
  induction g with
  | zero =>
    intro n i T hi hn
    obtain ⟨n, rfl⟩ : ∃ z, n = z + 1 := ⟨n - 1, by omega⟩
    have e : i = 7737 := by omega
    subst e
    exact ⟨T, by rw [l_X6_tell_61, if_pos (by decide)], rfl, fun _ _ => rfl, fun z h1 h2 => by omega, fun _ _ => rfl⟩
  | succ g ih =>
    intro n i T hi hn
    obtain ⟨n, rfl⟩ : ∃ z, n = z + 1 := ⟨n - 1, by omega⟩
    have c : ¬ (7737 : Int32) ≤ Int32.ofNat i := by rw [i32_le, on_I (by omega)]; show ¬ (7737 : Int) ≤ _; omega
    have o7 : ok (Int32.ofNat i) 7737 := on_ok (by omega) (by omega)
    obtain ⟨T', t1, t2, t3, t4, t5⟩ := ih n (i + 1) (mA T 1 i (T.2 2 i)) (by omega) (by omega)
    have m1 : (mA T 1 i (T.2 2 i)).2 2 = T.2 2 := by rw [m2_mA, if_neg (by decide)]
    refine ⟨T', ?_, t2, fun k hk => by rw [t3 k hk, m2_mA, if_neg hk], fun z h1 h2 => ?_, fun z h1 => ?_⟩
    · rw [l_X6_tell_61, if_neg c, if_pos o7, if_pos o7, on_N (by omega), on_S]; exact t1
    · by_cases e : z = i
      · subst e; rw [t5 z (by omega), m21, up_s]
      · rw [t4 z (by omega) h2, m1]
    · rw [t5 z (by omega), m21, up_n _ _ (by omega)]
set_option maxHeartbeats 1000000 in
theorem Rel_tell : P_tell Rel := by
  intro h lk S T hr
  have hr0 : Rel h lk S (mS T 0 0) := hr
  obtain ⟨hw, hne, hg, ⟨t1, t2, t3⟩, hf, hl, hb⟩ := id hr0
  have T0 := t2.1
  have T1 := t2.2
  have en := on_of T0 (by omega)
  have n4 : ((mS T 0 0).1 6).toNatClampNeg ≤ 400 := by rw [i32_nc]; omega
  obtain ⟨S1, h1, b1, b2, b3, b4, b5⟩ := bec_e (k := lk.2) hg hw.2.1 hw.1 hne
  obtain ⟨U, uX, u2, u3, u4, -⟩ := keep_l 7737 fu 0 (mS T 0 0) (by omega) (by decide)
  have u0 : f_X6_tell T = l_X6_tell_7 fu (mS T 0 0) (Int32.ofNat 0) := by
    have e0 : (0 : Int32) = Int32.ofNat 0 := rfl
    unfold f_X6_tell
    rw [e0]
  have u1 := u0.trans uX
  clear u0 uX
  generalize mS T 0 0 = V at *
  generalize hn : (V.1 6).toNatClampNeg = n at *
  have ok := fun q (e : f_X5_tell h lk S = some q) => X5_tell_ok hw e
  have P : PR h1 lk.1 lk.2 n 0 0 (sF (sF S1 13 0) 12 0) (mS (mS (mS U 12 0) 8 0) 9 0) := by
    refine ⟨⟨hw.1, hw.2.1, fun e => hne e.symm⟩, ⟨?_, ?_, ?_, ?_⟩, ?_, ⟨n4, ?_, ?_, ?_⟩, ⟨rfl, rfl⟩, rfl, rfl, rfl, Nat.zero_le _⟩
    · exact (b3.w (w' := U.2 2) (fun z hz => u4 z (Nat.zero_le _) hz)).congr rfl rfl rfl rfl
    · intro i hi
      show cA S1 5 i &&& 255 = U.2 5 i
      rw [b5, u3 5 (by decide)]; exact t3 i hi
    · show ∀ k, k < 6 → U.2 3 k = cTab 0 k ∧ U.2 4 k = cTab 1 k
      rw [u3 3 (by decide), u3 4 (by decide)]; exact hl
    · show cF S1 14 = 0 ∨ cF S1 14 = 1
      rw [b4]; exact hb
    · show RgRel h1 lk.1 (sF (sF S1 13 0) 12 0) (U.2 1)
      rw [u3 1 (by decide)]
      exact b2.congr rfl rfl rfl rfl
    · show cF S1 8 = _
      rw [b4, t1]; exact en
    · show U.1 6 = _
      rw [u2]; exact en
    · intro i hi
      show cA S1 5 i &&& 255 = U.2 5 i
      rw [b5, u3 5 (by decide)]; exact t3 i hi
  have X := text_l n fu fu 0 0 h1 _ _ P (Nat.le_refl _) (by omega) (by show _ < 10000; omega) (by show _ < 10000; omega)
  have eP : f_X4_perform h1 S1 lk.1 = l_X4_perform lk.1 fu (sF (sF S1 13 0) 12 0) h1 (Int32.ofNat 0) := rfl
  have eR : f_X6_readText U = l_X6_readText_15 fu (mS (mS (mS U 12 0) 8 0) 9 0) := rfl
  have F : f_X5_tell h lk S = (f_X4_perform h1 S1 lk.1).bind fun q => if cF (j_X5_tell q.2.1) 0 = 0 then some (q.1, j_X5_tell q.2.1, q.2.2, lk) else some (-1, j_X5_tell q.2.1, q.2.2, (lk.2, lk.1)) := by
    unfold f_X5_tell
    rw [b1, Option.bind_some]
  rw [eP] at F
  rw [eR] at u1
  rcases X with ⟨S2, T2, h2, c', x1, x2, x3, x4, ⟨x5, x6⟩, x7⟩ | ⟨S2, T2, h2, x, x1, x2, x3, x4, x5⟩
  · rw [x1, Option.bind_some] at F
    rw [x2, Option.bind_some, if_pos rfl] at u1
    have z : cF (j_X5_tell S2) 0 = 0 := x5
    rw [if_pos z] at F
    refine ⟨_, _, F, u1, x7.symm, (ok _ F).2, hne, x4.congr rfl rfl rfl rfl, ⟨rfl, by show (0 : Int) ≤ (0 : Int32).toInt ∧ (0 : Int32).toInt ≤ 400; decide, x3.2.1⟩, ?_, x3.2.2.1, x3.2.2.2⟩
    show cF S2 13 = T2.1 9
    rw [x5, x6]
  · rw [x1, Option.bind_some] at F
    rw [x2, Option.bind_some, if_neg (show ¬ false = true by decide)] at u1
    have z : ¬ cF (j_X5_tell S2) 0 = 0 := x5
    rw [if_neg z] at F
    obtain ⟨W, w1, w2, w3, w4, -⟩ := back_l 7737 fu 0 (mS (mS T2 6 0) 7 ((mS T2 6 0).1 9)) (by omega) (by decide)
    have u9 := u1.trans w1
    refine ⟨_, _, F, u9, rfl, (ok _ F).2, fun e => hne e.symm, ?_, ⟨?_, ?_, ?_⟩, ?_, ?_, x3.2.2.2⟩
    · exact (x3.1.w (w' := W.2 1) (fun z hz => w4 z (Nat.zero_le _) hz)).congr rfl rfl rfl rfl
    · show (0 : Int32) = W.1 6
      rw [w2]; rfl
    · show bt (W.1 6) 0 400
      rw [w2]
      show (0 : Int) ≤ (0 : Int32).toInt ∧ (0 : Int32).toInt ≤ 400
      decide
    · intro i hi
      show cA S2 5 i &&& 255 = W.2 5 i
      rw [w3 5 (by decide)]; exact x3.2.1 i hi
    · show cF S2 13 = W.1 7
      rw [w2]; exact x4
    · show ∀ k, k < 6 → W.2 3 k = cTab 0 k ∧ W.2 4 k = cTab 1 k
      rw [w3 3 (by decide), w3 4 (by decide)]; exact x3.2.2.1
theorem lawOk : LawOk Rel := ⟨fun h lk S T hr => hr.1, Rel_feed, Rel_end, Rel_tell, Rel_fault, Rel_athlete, Rel_set, Rel_at, Rel_file, Rel_test, Rel_appeal, Rel_count, Rel_of, Rel_filed, Rel_failure, Rel_violation, Rel_hole, Rel_lot, Rel_chance, Rel_round, Rel_there, Rel_danger, Rel_easier, Rel_without, Rel_worst⟩
