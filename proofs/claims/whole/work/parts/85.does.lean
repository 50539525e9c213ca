theorem in_b {x a b : Int32} (h : f_X6_in x a b = true) : a.toInt ≤ x.toInt ∧ x.toInt ≤ b.toInt := by
  by_cases c : a.toInt ≤ x.toInt ∧ x.toInt ≤ b.toInt
  · exact c
  · rw [in_f c] at h; exact absurd h (by decide)
theorem RgRel.other {h h' : Nat → Bool} {r r2 : Nat} {S S' : CS} {w : Nat → Int32} (hg : RgRel h r2 S w) (hO : FrO r S S') (hne : r2 ≠ r) (hh : hle h h') : RgRel h' r2 S' w := by
  obtain ⟨g1, g2, g3, g4⟩ := hg
  refine ⟨by rw [hO.2.2.1 r2 hne]; exact g1, g2, fun k hk => by rw [hO.2.1 r2 hne]; exact g3 k hk, fun i hi => ?_⟩
  obtain ⟨y1, y2⟩ := g4 i hi
  have i6 : i < 6 := by rw [i32_nc] at hi; have := g2.2.2.2; omega
  have hj := hO.2.2.2 (6 * r2 + i) (by omega)
  exact ⟨hh _ y1, y2.congr hj.1 hj.2 rfl (fun _ _ => rfl)⟩
theorem Bs.op {h h' : Nat → Bool} {r r2 : Nat} {S S' : CS} {T T' : MS} (b : Bs h r2 S T) (hr : r < 2 ∧ r2 < 2 ∧ r2 ≠ r) (hO : FrO r S S') (hM : FrM T T') (hh : hle h h') : Bs h' r2 S' T' :=
  ⟨by rw [hM.2 2 (by omega)]; exact b.1.other hO hr.2.2 hh, by rw [hO.2.1 5 (by omega), hM.2 5 (by omega)]; exact b.2.1, by rw [hM.2 3 (by omega), hM.2 4 (by omega)]; exact b.2.2.1, by rw [hO.1]; exact b.2.2.2⟩
theorem PR.op {h h' : Nat → Bool} {r r2 n c p : Nat} {S S' : CS} {T T' : MS} (P : PR h r r2 n c p S T) (hO : FrO r S S') (hM : FrM T T') (hg : RgRel h' r S' (T'.2 1)) (hh : hle h h') : PR h' r r2 n c p S' T' := by
  obtain ⟨b1, b2, b3, b4, b5, b6, b7, b8, b9⟩ := P
  refine ⟨b1, b2.op b1 hO hM hh, hg, ⟨b4.1, by rw [hO.1]; exact b4.2.1, by rw [hM.1]; exact b4.2.2.1, by rw [hO.2.1 5 (by omega), hM.2 5 (by omega)]; exact b4.2.2.2⟩, ⟨by rw [hO.1]; exact b5.1, by rw [hM.1]; exact b5.2⟩, by rw [hM.1]; exact b6, by rw [hO.1]; exact b7, by rw [hM.1]; exact b8, b9⟩
def DoR (h : Nat → Bool) (r r2 n c p : Nat) (S : CS) (T : MS) (fm : Int32) (code : Int64) : Prop :=
  (∃ S4 T4 h4, f_X4_doForm h S r fm = some (true, S4, h4) ∧ f_X6_does T code = some (true, T4) ∧ PR h4 r r2 n c p S4 T4) ∨ ∃ S4 T4 h4, f_X4_doForm h S r fm = some (false, S4, h4) ∧ f_X6_does T code = some (false, T4) ∧ Bs h4 r2 S4 T4
theorem hle_r (h : Nat → Bool) : hle h h := fun _ hj => hj
theorem do0 {h : Nat → Bool} {r r2 n c p : Nat} {S : CS} {T : MS} (P : PR h r r2 n c p S T) (e : cA S 6 0 = T.2 13 0) (hv : f_X6_in (T.2 13 0) 1 9 = true) : DoR h r r2 n c p S T 0 678890543 := by
  have D : f_X4_doForm h S r 0 = (f_X0_enter h S r (cA S 6 0)).bind fun q2 => if q2.1 < 0 then (some (false, q2.2.1, q2.2.2)) else (some (true, q2.2.1, q2.2.2)) := rfl
  have E : f_X6_does T 678890543 = if 6 ≤ (T.2 1 2) then (some (false, T)) else ((f_X6_comes T (T.2 13 0)).bind fun q14 => if q14.1 < 0 then (some (false, q14.2)) else (some (true, q14.2))) := by
    unfold f_X6_does
    rw [if_pos (by decide)]
  unfold DoR
  rw [D, E, e]
  rcases enter_e P.2.2.1 (in_b hv) with ⟨s1, s2⟩ | ⟨S', T', h', v0, v1, v2, v3, v4, v5, v6, v7⟩
  · right
    rw [s1, s2, if_pos (by decide)]
    exact ⟨S, T, h, rfl, rfl, P.2.1⟩
  · left
    have b2 := P.2.2.1.2.1.2.2.1
    have n0 : ¬ T.2 1 2 < 0 := by rw [i32_lt]; show ¬ _ < (0 : Int); omega
    rw [if_neg (show ¬ (6 : Int32) ≤ T.2 1 2 from by rw [i32_le]; show ¬ (6 : Int) ≤ _; omega), v1, v2, Option.bind_some, Option.bind_some, if_neg n0, if_neg n0]
    exact ⟨S', T', h', rfl, rfl, P.op v4 v5 v3 v6⟩
theorem upd_id (w : Nat → Int32) (i : Nat) : upd w i (w i) = w := by
  funext k
  by_cases c : k = i
  · subst c; exact up_s _ _ _
  · exact up_n _ _ c
theorem do1 {h : Nat → Bool} {r r2 n c p : Nat} {S : CS} {T : MS} (P : PR h r r2 n c p S T) (e : cA S 6 0 = T.2 13 0) (e1 : cA S 6 1 = T.2 13 1) (hv : f_X6_in (T.2 13 0) 0 5 = true) (hv1 : f_X6_in (T.2 13 1) (cTab 0 (T.2 13 0).toNatClampNeg) (cTab 1 (T.2 13 0).toNatClampNeg) = true) : DoR h r r2 n c p S T 1 14006 := by
  have D : f_X4_doForm h S r 1 = (f_X0_change S r (cA S 6 0) (cA S 6 1)).bind fun q5 => some (true, q5.2, h) := rfl
  have E : f_X6_does T 14006 = if ok (3 + (T.2 13 0)) 7737 then some (true, (mA T 1 (3 + (T.2 13 0)).toNatClampNeg (T.2 13 1))) else none := by
    unfold f_X6_does
    rw [if_neg (by decide), if_pos (by decide)]
  unfold DoR
  rw [D, E, e, e1]
  have hr := P.1
  have bv := in_b hv
  have bv1 := in_b hv1
  generalize T.2 13 0 = k at *
  generalize T.2 13 1 = v at *
  have bv : 0 ≤ k.toInt ∧ k.toInt ≤ 5 := bv
  have k6 : k.toNatClampNeg < 6 := by rw [i32_nc]; omega
  have e3 : (3 + k).toInt = 3 + k.toInt := i32_addI (x := 3) (by show _ ≤ (3 : Int) + _ ∧ (3 : Int) + _ ≤ _; omega)
  have k3 : (3 + k).toNatClampNeg = 3 + k.toNatClampNeg := by rw [i32_nc, i32_nc]; omega
  have o1 : ok k 6 := ok_t (by omega)
  have ch : f_X5_canBeSetting S k v = some true := by
    unfold f_X5_canBeSetting
    rw [if_pos (set_t (by omega)), if_pos o1, if_pos o1, if_neg (by rw [i32_lt]; omega), if_neg (by rw [i32_lt]; omega)]
  left
  rw [if_pos (ok_t (by omega)), k3]
  have hs := P.2.2.1.set k6 (v := v) bv1
  have M : FrM T (mA T 1 (3 + k.toNatClampNeg) v) := (FrM.refl T).mA _ _
  unfold f_X0_change
  rw [ch, Option.bind_some, if_pos rfl, if_pos o1, if_pos o1]
  by_cases q : cA S r k.toNatClampNeg = v
  · rw [if_pos q]
    refine ⟨S, _, h, rfl, rfl, P.op (FrO.refl r S) M ?_ (hle_r h)⟩
    rw [m21]
    have ew : T.2 1 (3 + k.toNatClampNeg) = v := by rw [← (P.2.2.1.2.2.1 _ k6).1]; exact q
    rw [← ew, upd_id]
    exact P.2.2.1
  · rw [if_neg q]
    refine ⟨_, _, h, rfl, rfl, P.op ⟨rfl, fun k' hk' => by rw [cA_sA, if_neg hk'], fun _ _ => rfl, fun _ _ => ⟨rfl, rfl⟩⟩ M hs (hle_r h)⟩
theorem nm1 {v : Int32} (h : 0 ≤ v.toInt) : ¬ v = -1 ∧ ¬ v < 0 := ⟨fun e => by rw [e] at h; exact absurd h (by decide), by rw [i32_lt]; show ¬ _ < (0 : Int); omega⟩
theorem do2 {h : Nat → Bool} {r r2 n c p : Nat} {S : CS} {T : MS} (P : PR h r r2 n c p S T) (e : cA S 6 0 = T.2 13 0) (e1 : cA S 6 1 = T.2 13 1) (hv : f_X6_in (T.2 13 0) 0 999 = true) (hv1 : f_X6_in (T.2 13 1) 0 23 = true) : DoR h r r2 n c p S T 2 47 := by
  have D : f_X4_doForm h S r 2 = (f_X0_goOn h S r (cA S 6 0) (cA S 6 1)).bind fun q8 => if q8.1 = (-1) then (some (false, q8.2, h)) else (some (true, q8.2, h)) := rfl
  have E : f_X6_does T 47 = if (f_X6_isBehind T (T.2 13 0) (T.2 13 1)) = true then ((f_X6_goesOn T (T.2 13 0) (T.2 13 1)).bind fun q11 => if q11.1 < 0 then (some (false, q11.2)) else (some (true, q11.2))) else (some (false, T)) := by
    unfold f_X6_does
    rw [if_neg (by decide), if_neg (by decide), if_pos (by decide)]
  unfold DoR
  rw [D, E, e, e1]
  rcases goOn_e P.2.2.1 (in_b hv) (in_b hv1) with ⟨s1, s2⟩ | ⟨v, S', T', v1, v2, v3, v4, v5, v6, v7⟩
  · right
    rw [s1, s2]
    exact ⟨S, T, h, rfl, rfl, P.2.1⟩
  · left
    rw [v1, v2, v3, if_pos rfl, Option.bind_some, Option.bind_some, if_neg (nm1 v4).1, if_neg (nm1 v4).2]
    exact ⟨S', T', h, rfl, rfl, P.op v6 v7 v5 (hle_r h)⟩
theorem do3 {h : Nat → Bool} {r r2 n c p : Nat} {S : CS} {T : MS} (P : PR h r r2 n c p S T) (e : ∀ k, k < 5 → cA S 6 k = T.2 13 k) (hv : 0 ≤ (T.2 13 0).toInt ∧ (T.2 13 0).toInt < (T.2 1 2).toInt) (hs : SpanOk (T.2 13 1) (T.2 13 2) (T.2 13 3) (T.2 13 4)) : DoR h r r2 n c p S T 3 124988 := by
  have D : f_X4_doForm h S r 3 = (f_X0_enterSpan h S r (cA S 6 0) (cA S 6 1) (cA S 6 2) (cA S 6 3) (cA S 6 4)).bind fun q11 => if q11.1 = (-1) then (some (false, q11.2, h)) else (some (true, q11.2, h)) := rfl
  have E : f_X6_does T 124988 = (f_X6_mayFile T (T.2 13 0) (T.2 13 1) (T.2 13 3)).bind fun q7 => if q7 = true then ((f_X6_files T (T.2 13 0) (T.2 13 1) (T.2 13 2) (T.2 13 3) (T.2 13 4)).bind fun q9 => if q9.1 < 0 then (some (false, q9.2)) else (some (true, q9.2))) else (some (false, T)) := by
    unfold f_X6_does
    rw [if_neg (by decide), if_neg (by decide), if_neg (by decide), if_pos (by decide)]
  unfold DoR
  rw [D, E, e 0 (by omega), e 1 (by omega), e 2 (by omega), e 3 (by omega), e 4 (by omega)]
  rcases span_e P.2.2.1 hv hs with ⟨s1, s2⟩ | ⟨v, S', T', v1, v2, v3, v4, v5, v6, v7⟩
  · right
    rw [s1, s2]
    exact ⟨S, T, h, rfl, rfl, P.2.1⟩
  · left
    rw [v1, v2, v3, Option.bind_some, Option.bind_some, if_pos rfl, Option.bind_some, if_neg (nm1 v4).1, if_neg (nm1 v4).2]
    exact ⟨S', T', h, rfl, rfl, P.op v6 v7 v5 (hle_r h)⟩
theorem do4 {h : Nat → Bool} {r r2 n c p : Nat} {S : CS} {T : MS} (P : PR h r r2 n c p S T) (e : ∀ k, k < 2 → cA S 6 k = T.2 13 k) (hv : 0 ≤ (T.2 13 0).toInt ∧ (T.2 13 0).toInt < (T.2 1 2).toInt) (hp : f_X6_in (T.2 13 1) 0 9 = true) (h14 : cF S 14 = T.2 13 2) : DoR h r r2 n c p S T 4 397838 := by
  have D : f_X4_doForm h S r 4 = (bOf (cF S 14)).bind fun b14 => (f_X0_visit h S r (cA S 6 0) (cA S 6 1) b14).bind fun q16 => if q16.1 = (-1) then (some (false, q16.2, h)) else (some (true, q16.2, h)) := rfl
  have E : f_X6_does T 397838 = if (T.2 13 2) = 1 then ((f_X6_tests T (T.2 13 0) (T.2 13 1) true).bind fun q5 => if q5.1 < 0 then (some (false, q5.2)) else (some (true, q5.2))) else ((f_X6_tests T (T.2 13 0) (T.2 13 1) false).bind fun q3 => if q3.1 < 0 then (some (false, q3.2)) else (some (true, q3.2))) := by
    unfold f_X6_does
    rw [if_neg (by decide), if_neg (by decide), if_neg (by decide), if_neg (by decide), if_pos (by decide)]
  unfold DoR
  rw [D, E, e 0 (by omega), e 1 (by omega), ← h14]
  left
  rcases P.2.1.2.2.2 with z | z
  · obtain ⟨v, S', T', v1, v2, v3, v4, v5, v6⟩ := visit_e P.2.2.1 hv (in_b hp) false
    rw [z, show bOf 0 = some false from rfl, Option.bind_some, v1, v2, if_neg (by decide), Option.bind_some, Option.bind_some, if_neg (nm1 v3).1, if_neg (nm1 v3).2]
    exact ⟨S', T', h, rfl, rfl, P.op v5 v6 v4 (hle_r h)⟩
  · obtain ⟨v, S', T', v1, v2, v3, v4, v5, v6⟩ := visit_e P.2.2.1 hv (in_b hp) true
    rw [z, show bOf 1 = some true from rfl, Option.bind_some, v1, v2, if_pos rfl, Option.bind_some, Option.bind_some, if_neg (nm1 v3).1, if_neg (nm1 v3).2]
    exact ⟨S', T', h, rfl, rfl, P.op v5 v6 v4 (hle_r h)⟩
/-- an appeal, on both sides -/
theorem strike_e {h : Nat → Bool} {r : Nat} {S : CS} {T : MS} {a k : Int32} (hg : RgRel h r S (T.2 1)) (ca : 0 ≤ a.toInt ∧ a.toInt < (T.2 1 2).toInt) (ck : 0 ≤ k.toInt ∧ k.toInt < (T.2 1 (9 + 1288 * a.toNatClampNeg + 7)).toInt) : ∃ b S' T', f_X0_strike h S r a k = some (b, S') ∧ f_X6_strikes T a k = some (b, T') ∧ RgRel h r S' (T'.2 1) ∧ FrO r S S' ∧ FrM T T' := by
  obtain ⟨f1, f2, f3, f4, f5⟩ := find_t hg ca
  have hA : 0 ≤ a.toInt ∧ a.toInt < 6 := ⟨ca.1, f3⟩
  have a6 : a.toNatClampNeg < 6 := by rw [i32_nc]; omega
  have b := f5.2.1.2.2.2.2
  have b2 := b.2
  have p6 : cP S (6 * r + a.toNatClampNeg) 6 = T.2 1 (9 + 1288 * a.toNatClampNeg + 7) := f5.1.2.2.2.2.2.1
  have hf : f_X1_hasFailure S (6 * r + a.toNatClampNeg) k = true := by
    unfold f_X1_hasFailure
    rw [if_neg (by rw [i32_lt]; show ¬ _ < (0 : Int); omega), p6, if_neg (by rw [i32_le]; omega), if_neg (by rw [i32_le]; show ¬ (60 : Int) ≤ _; omega)]
  have k3 := k3_e (a := k) (by omega)
  have c8 := cell_e (a := a) (k := 8 + 3 * k) hA (by omega)
  have c10 := cell_e (a := a) (k := 8 + 3 * k + 2) hA (by omega)
  have hk : k.toNatClampNeg < (T.2 1 (9 + 1288 * a.toNatClampNeg + 7)).toNatClampNeg := by rw [i32_nc, i32_nc]; omega
  have hk60 : k.toNatClampNeg < 60 := by rw [i32_nc]; omega
  obtain ⟨q0, q1, q2, q3, q4⟩ := f5.2.2.1 _ hk
  have n8 : 9 + 1288 * a.toNatClampNeg + (8 + 3 * k : Int32).toNatClampNeg = 9 + 1288 * a.toNatClampNeg + 8 + 3 * k.toNatClampNeg := by rw [i32_nc (x := 8 + 3 * k), i32_nc (x := k)]; omega
  have n10 : 9 + 1288 * a.toNatClampNeg + (8 + 3 * k + 2 : Int32).toNatClampNeg = 9 + 1288 * a.toNatClampNeg + 10 + 3 * k.toNatClampNeg := by rw [i32_nc (x := 8 + 3 * k + 2), i32_nc (x := k)]; omega
  have s5 : cA S r 5 = T.2 1 8 := (hg.2.2.1 5 (by decide)).1
  have ok6 : ok k 60 := ok_t (by omega)
  have hop : ∀ {S' : CS} {T' : MS}, FrJ (6 * r + a.toNatClampNeg) S S' → FrW (9 + 1288 * a.toNatClampNeg) T T' → SpRel S' (6 * r + a.toNatClampNeg) (T'.2 1) (9 + 1288 * a.toNatClampNeg) → RgRel h r S' (T'.2 1) ∧ FrO r S S' ∧ FrM T T' := fun hJ hW hs => ⟨hg.op hJ hW hs, hJ.o a6, hW.m⟩
  unfold f_X0_strike f_X6_strikes
  rw [f1, Option.bind_some, oC_s, if_pos hf, if_pos ok6, if_pos ok6, if_pos ok6, if_pos c10.2.1, if_pos c8.2.1, if_pos c10.2.1, c8.2.2, c10.2.2, n8, n10, q2, q0, s5, hg.1.1]
  by_cases d1 : T.2 1 (9 + 1288 * a.toNatClampNeg + 10 + 3 * k.toNatClampNeg) = 1
  · rw [if_pos d1, if_pos d1]
    exact ⟨false, S, T, rfl, rfl, hg, FrO.refl r S, FrM.refl T⟩
  · rw [if_neg d1, if_neg d1]
    by_cases d2 : T.2 1 0 ≤ T.2 1 (9 + 1288 * a.toNatClampNeg + 8 + 3 * k.toNatClampNeg) + T.2 1 8
    · rw [if_pos d2, if_pos d2]
      have hJ : FrJ (6 * r + a.toNatClampNeg) S (sQ S (6 * r + a.toNatClampNeg) 2 k.toNatClampNeg 1) := (FrJ.refl _ S).sQ 2 _ _
      have hW : FrW (9 + 1288 * a.toNatClampNeg) T (mA T 1 (9 + 1288 * a.toNatClampNeg + 10 + 3 * k.toNatClampNeg) 1) := (FrW.refl _ T).mA (by omega) _
      obtain ⟨sn, sl, lt⟩ := f5.n
      generalize 9 + 1288 * a.toNatClampNeg = o at *
      generalize 6 * r + a.toNatClampNeg = j at *
      have o9 : 0 < o ∨ o = 0 := by omega
      have hu : ∀ z, z ≠ o + 10 + 3 * k.toNatClampNeg → (mA T 1 (o + 10 + 3 * k.toNatClampNeg) 1).2 1 z = T.2 1 z := fun z hz => by rw [m21, up_n _ _ hz]
      have e0 : (mA T 1 (o + 10 + 3 * k.toNatClampNeg) 1).2 1 0 = T.2 1 0 := hu 0 (by omega)
      have R := hop hJ hW ?_
      · exact ⟨true, _, _, rfl, rfl, R.1, R.2.1, R.2.2⟩
      · refine SpN.r ?_ ?_ ?_
        · rw [e0]
          obtain ⟨⟨p0, p1, p2, p3, p4, p5⟩, ⟨b1, b2, b3, b4, b5⟩, cc⟩ := id sn
          refine ⟨?_, ?_, fun z hz => ?_⟩
          · rw [hu o (by omega), hu (o + 1) (by omega), hu (o + 2) (by omega), hu (o + 3) (by omega), hu (o + 4) (by omega), hu (o + 7) (by omega)]
            exact ⟨p0, p1, p2, p3, p4, p5⟩
          · rw [hu o (by omega), hu (o + 1) (by omega), hu (o + 4) (by omega), hu (o + 6) (by omega), hu (o + 7) (by omega)]
            exact ⟨b1, b2, b3, b4, b5⟩
          · rw [hu (o + 7) (by omega)] at hz
            obtain ⟨y0, y1, y2, y3, y4⟩ := cc z hz
            rw [hu (o + 8 + 3 * z) (by omega), hu (o + 9 + 3 * z) (by omega), cQ_sQ_s, if_neg (by decide), cQ_sQ_s, if_neg (by decide), cQ_sQ_s, if_pos rfl]
            by_cases ez : z = k.toNatClampNeg
            · subst ez
              rw [up_s, m21, up_s]
              exact ⟨y0, y1, rfl, y3, by decide, by decide⟩
            · rw [up_n _ _ ez, hu _ (by omega)]
              exact ⟨y0, y1, y2, y3, y4⟩
        · exact sl.sc (by rw [cQ_sQ_s, if_neg (by decide)]) (fun e h1 h2 => hu _ (by omega))
        · exact lt.w rfl e0 (hu _ (by omega)) (hu _ (by omega))
    · rw [if_neg d2, if_neg d2]
      exact ⟨false, S, T, rfl, rfl, hg, FrO.refl r S, FrM.refl T⟩
theorem do5 {h : Nat → Bool} {r r2 n c p : Nat} {S : CS} {T : MS} (P : PR h r r2 n c p S T) (e : ∀ k, k < 2 → cA S 6 k = T.2 13 k) (hv : 0 ≤ (T.2 13 0).toInt ∧ (T.2 13 0).toInt < (T.2 1 2).toInt) (hk : 0 ≤ (T.2 13 1).toInt ∧ (T.2 13 1).toInt < (T.2 1 (9 + 1288 * (T.2 13 0).toNatClampNeg + 7)).toInt) : DoR h r r2 n c p S T 5 23170575 := by
  have D : f_X4_doForm h S r 5 = (f_X0_strike h S r (cA S 6 0) (cA S 6 1)).bind fun q18 => some (q18.1, q18.2, h) := rfl
  have E : f_X6_does T 23170575 = (f_X6_strikes T (T.2 13 0) (T.2 13 1)).bind fun q1 => some (q1.1, q1.2) := by
    unfold f_X6_does
    rw [if_neg (by decide), if_neg (by decide), if_neg (by decide), if_neg (by decide), if_neg (by decide)]
  unfold DoR
  rw [D, E, e 0 (by omega), e 1 (by omega)]
  obtain ⟨b, S', T', v1, v2, v3, v4, v5⟩ := strike_e P.2.2.1 hv hk
  rw [v1, v2]
  have P2 := P.op v4 v5 v3 (hle_r h)
  cases b with
  | true => left; exact ⟨S', T', h, rfl, rfl, P2⟩
  | false => right; exact ⟨S', T', h, rfl, rfl, P2.2.1⟩
