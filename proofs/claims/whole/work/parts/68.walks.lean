def dyF (T : MS) (o i : Nat) : Int32 := if i = (T.2 1 (o + 7)).toNatClampNeg then T.2 1 0 else T.2 1 (o + 8 + 3 * i)
def g0 (S : CS) (r : Nat) : CS := sF (sF (sF (sF (sF (sF (sF S 2 (cA S r 0)) 3 (cA S r 1)) 4 (cA S r 2)) 1 0) 5 0) 6 0) 7 (-1)
theorem k3_e {a : Int32} (h : 0 ≤ a.toInt ∧ a.toInt < 100) : (8 + 3 * a : Int32).toInt = 8 + 3 * a.toInt ∧ (8 + 3 * a + 2 : Int32).toInt = 10 + 3 * a.toInt ∧ (8 + 3 * a + 1 : Int32).toInt = 9 + 3 * a.toInt := by
  have k3 : (3 * a : Int32).toInt = 3 * a.toInt := by
    rw [Int32.toInt_mul, show (3 : Int32).toInt = 3 from rfl, Int.bmod_eq_of_le (by omega) (by omega)]
  have k8 : (8 + 3 * a : Int32).toInt = 8 + 3 * a.toInt := by
    rw [i32_addI (by rw [k3]; show _ ≤ (8 : Int) + _ ∧ (8 : Int) + _ ≤ _; omega), k3]; rfl
  refine ⟨k8, ?_, ?_⟩
  · rw [i32_addI (by rw [k8]; show _ ≤ _ + (2 : Int) ∧ _ + (2 : Int) ≤ _; omega), k8]
    show _ + (2 : Int) = _
    omega
  · rw [i32_addI (by rw [k8]; show _ ≤ _ + (1 : Int) ∧ _ + (1 : Int) ≤ _; omega), k8]
    show _ + (1 : Int) = _
    omega
theorem dayOf_e {S : CS} {T : MS} {j o : Nat} {a : Int32} (hs : SpRel S j (T.2 1) o) (h0 : bt (T.2 1 0) 0 999) (ho : o = 9 + 1288 * a.toNatClampNeg) (ha : 0 ≤ a.toInt ∧ a.toInt < 6) : ∀ i, i ≤ (T.2 1 (o + 7)).toNatClampNeg → (0 ≤ (dyF T o i).toInt ∧ (dyF T o i).toInt ≤ 999) ∧ ∀ T', FrT T T' → f_X6_dayOf T' a (Int32.ofNat i) = some (dyF T o i) := by
  intro i hi
  have b7 := hs.2.1.2.2.2.2
  have m60 : (T.2 1 (o + 7)).toNatClampNeg ≤ 60 := by rw [i32_nc]; have := b7.2; omega
  have e7 := on_of b7.1 (by have := b7.2; omega)
  constructor
  · unfold dyF
    by_cases c : i = (T.2 1 (o + 7)).toNatClampNeg
    · rw [if_pos c]; exact h0
    · rw [if_neg c]
      have := (hs.2.2.1 i (by omega)).2.2.2.1
      have h9 := h0.2
      exact ⟨this.1, by have := this.2; omega⟩
  · intro T' ft
    have t1 : T'.2 1 = T.2 1 := ft.2 1 (by omega)
    unfold f_X6_dayOf dyF
    rw [its_e (k := 7) ha (by decide), Option.bind_some, t1]
    rw [show 9 + 1288 * a.toNatClampNeg + Int32.toNatClampNeg 7 = o + 7 from by rw [ho]; rfl]
    by_cases c : i = (T.2 1 (o + 7)).toNatClampNeg
    · rw [if_pos c, c, ← e7, if_pos rfl]
    · have n1 : ¬ Int32.ofNat i = T.2 1 (o + 7) := fun e => c (by rw [← e, on_N (by omega)])
      have k := k3_e (a := Int32.ofNat i) (by rw [on_I (by omega)]; omega)
      rw [on_I (by omega)] at k
      have ce := cell_e (a := a) (k := 8 + 3 * Int32.ofNat i) ha (by omega)
      rw [if_neg c, if_neg n1, if_pos ce.2.1, ce.2.2]
      have e8 : 9 + 1288 * a.toNatClampNeg + (8 + 3 * Int32.ofNat i : Int32).toNatClampNeg = o + 8 + 3 * i := by rw [i32_nc (x := 8 + 3 * Int32.ofNat i), ho]; omega
      rw [e8]
set_option maxHeartbeats 1000000 in
theorem walk_l {h : Nat → Bool} {S : CS} {T : MS} {j o r : Nat} {a : Int32} (hr2 : r < 2) (hg : RgRel h r S (T.2 1)) (hs : SpRel S j (T.2 1) o) (ho : o = 9 + 1288 * a.toNatClampNeg) (ha : 0 ≤ a.toInt ∧ a.toInt < 6) (x3 : Int32) : ∀ k, k ≤ (T.2 1 (o + 7)).toNatClampNeg → ∃ S' T' x4', (∀ n, l_X2_goThrough_44 j r (n + k) (g0 S r) x3 0 = l_X2_goThrough_44 j r n S' x3 (Int32.ofNat k)) ∧ (∀ n x2, (k : Int) ≤ x2.toInt → l_X6_walksBy_11 (n + k) (mS T 17 0) a x2 x3 (-1) 0 = l_X6_walksBy_11 n T' a x2 x3 x4' (Int32.ofNat k)) ∧ TW S' T' x4' k (dyF T o) ∧ FrS S S' ∧ FrT T T' := by
  have h0 := hg.2.1.1
  have b7 := hs.2.1.2.2.2.2
  have m60 : (T.2 1 (o + 7)).toNatClampNeg ≤ 60 := by rw [i32_nc]; have := b7.2; omega
  have s0 := hg.2.2.1 0 (by omega)
  have s1 := hg.2.2.1 1 (by omega)
  have s2 := hg.2.2.1 2 (by omega)
  intro k
  induction k with
  | zero =>
    intro _
    refine ⟨g0 S r, mS T 17 0, -1, fun _ => rfl, fun _ _ _ => rfl, ⟨⟨rfl, s0.1, s1.1, s2.1⟩, fun i hi => by omega, ⟨by show (0 : Int) ≤ (0 : Int32).toInt; decide, by show (0 : Int32).toInt ≤ (0 : Int); decide⟩, ⟨rfl, by show (0 : Int) ≤ (0 : Int32).toInt; decide, by show (0 : Int32).toInt ≤ (0 : Int); decide⟩, fun i hi => absurd hi (by show ¬ i < 0; omega), Or.inl ⟨rfl, rfl⟩⟩, ?_, (FrT.refl T).mS 0⟩
    exact (((((((FrS.refl S).sF (by omega) _).sF (by omega) _).sF (by omega) _).sF (by omega) _).sF (by omega) _).sF (by omega) _).sF (by omega) _
  | succ k ih =>
    intro hk
    obtain ⟨S', T', x4', h1, h2, h3, h4, h5⟩ := ih (by omega)
    have t1 : T'.2 1 = T.2 1 := h5.2 1 (by omega)
    have hde := dayOf_e hs h0 ho ha
    have hkm : k < (T.2 1 (o + 7)).toNatClampNeg := by omega
    have fk := hs.2.2.1 k hkm
    have dk : dyF T o k = T.2 1 (o + 8 + 3 * k) := by unfold dyF; rw [if_neg (by omega)]
    have st : ∀ b, ∃ S2 T2 x5, f_X2_add S' (dyF T o k) b = some S2 ∧ (∀ (r11 : MS → Int32 → Int32 → Int32 → Int32 → Int32 → Option MS) (x2 x3 : Int32), j_X6_walksBy_62 r11 T' a x2 x3 x4' (Int32.ofNat k) (bI b) = r11 T2 a x2 x3 x5 (Int32.ofNat (k + 1))) ∧ TW S2 T2 x5 (k + 1) (dyF T o) ∧ FrS S' S2 ∧ FrT T' T2 := fun b =>
      walk_s (a := a) (by omega) h3 (by rw [t1]; exact s0.2) (by rw [t1]; exact s2.2) (fun i hi => ⟨(hde i (by omega)).1, fun T2 ft => (hde i (by omega)).2 T2 (h5.trans ft)⟩) b
    -- the class's turn
    have cp : cP S' j 6 = T.2 1 (o + 7) := by rw [h4.2.1]; exact hs.1.2.2.2.2.2.1
    have c1 : ¬ T.2 1 (o + 7) ≤ Int32.ofNat k := by rw [i32_le, on_I (by omega)]; rw [i32_nc] at hkm; omega
    have c2 : ¬ (60 : Int32) ≤ Int32.ofNat k := by rw [i32_le, on_I (by omega)]; show ¬ (60 : Int) ≤ _; omega
    have c3 : ok (Int32.ofNat k) 60 := on_ok (by omega) (by omega)
    have q0 : cQ S' j 0 k = dyF T o k := by rw [h4.2.2.1, dk]; exact fk.1
    have q2 : cQ S' j 2 k = T.2 1 (o + 10 + 3 * k) := by rw [h4.2.2.1]; exact fk.2.2.1
    have L1 : ∀ n, l_X2_goThrough_44 j r (n + (k + 1)) (g0 S r) x3 0 = if T.2 1 (o + 10 + 3 * k) = 1 then ((f_X2_add S' (dyF T o k) true).bind fun q3 => l_X2_goThrough_44 j r n q3 x3 (Int32.ofNat (k + 1))) else (if Int32.ofNat k = x3 then ((f_X2_add S' (dyF T o k) true).bind fun q3 => l_X2_goThrough_44 j r n q3 x3 (Int32.ofNat (k + 1))) else ((f_X2_add S' (dyF T o k) false).bind fun q3 => l_X2_goThrough_44 j r n q3 x3 (Int32.ofNat (k + 1)))) := fun n => by
      rw [show n + (k + 1) = n + 1 + k from by omega, h1, l_X2_goThrough_44, cp, if_neg c1, if_neg c2, if_pos c3, if_pos c3, on_N (by omega), q0, q2, on_S]
    -- the reference's turn
    have k3 := k3_e (a := Int32.ofNat k) (by rw [on_I (by omega)]; omega)
    rw [on_I (by omega)] at k3
    have ce := cell_e (a := a) (k := 8 + 3 * Int32.ofNat k + 2) ha (by omega)
    have e10 : 9 + 1288 * a.toNatClampNeg + (8 + 3 * Int32.ofNat k + 2 : Int32).toNatClampNeg = o + 10 + 3 * k := by rw [i32_nc (x := 8 + 3 * Int32.ofNat k + 2), ho]; omega
    have i7 : f_X6_its T' a 7 = some (T.2 1 (o + 7)) := by
      rw [its_e (k := 7) ha (by decide), t1]
      rw [show 9 + 1288 * a.toNatClampNeg + Int32.toNatClampNeg 7 = o + 7 from by rw [ho]; rfl]
    have L2 : ∀ n x2, ((k + 1 : Nat) : Int) ≤ x2.toInt → l_X6_walksBy_11 (n + (k + 1)) (mS T 17 0) a x2 x3 (-1) 0 = if Int32.ofNat k = x3 then j_X6_walksBy_62 (l_X6_walksBy_11 n) T' a x2 x3 x4' (Int32.ofNat k) (bI true) else (if T.2 1 (o + 10 + 3 * k) = 1 then j_X6_walksBy_62 (l_X6_walksBy_11 n) T' a x2 x3 x4' (Int32.ofNat k) (bI true) else j_X6_walksBy_62 (l_X6_walksBy_11 n) T' a x2 x3 x4' (Int32.ofNat k) (bI false)) := fun n x2 hx => by
      have d1 : ¬ x2 ≤ Int32.ofNat k := by rw [i32_le, on_I (by omega)]; omega
      rw [show n + (k + 1) = n + 1 + k from by omega, h2 _ x2 (by omega), l_X6_walksBy_11, if_neg d1, i7, Option.bind_some, if_neg c1, if_pos ce.2.1, ce.2.2, e10, t1]
      rfl
    by_cases e3 : Int32.ofNat k = x3
    · obtain ⟨S2, T2, x5, g1, g2, g3, g4, g5⟩ := st true
      refine ⟨S2, T2, x5, fun n => ?_, fun n x2 hx => ?_, g3, h4.trans g4, h5.trans g5⟩
      · rw [L1, if_pos e3, g1, Option.bind_some, ite_self]
      · rw [L2 n x2 hx, if_pos e3, g2]
    · by_cases e4 : T.2 1 (o + 10 + 3 * k) = 1
      · obtain ⟨S2, T2, x5, g1, g2, g3, g4, g5⟩ := st true
        refine ⟨S2, T2, x5, fun n => ?_, fun n x2 hx => ?_, g3, h4.trans g4, h5.trans g5⟩
        · rw [L1, if_pos e4, g1, Option.bind_some]
        · rw [L2 n x2 hx, if_neg e3, if_pos e4, g2]
      · obtain ⟨S2, T2, x5, g1, g2, g3, g4, g5⟩ := st false
        refine ⟨S2, T2, x5, fun n => ?_, fun n x2 hx => ?_, g3, h4.trans g4, h5.trans g5⟩
        · rw [L1, if_neg e4, if_neg e3, g1, Option.bind_some]
        · rw [L2 n x2 hx, if_neg e3, if_neg e4, g2]
theorem walk_e {h : Nat → Bool} {S : CS} {T : MS} {j o r : Nat} {a : Int32} (hr2 : r < 2) (hg : RgRel h r S (T.2 1)) (hs : SpRel S j (T.2 1) o) (ho : o = 9 + 1288 * a.toNatClampNeg) (ha : 0 ≤ a.toInt ∧ a.toInt < 6) (x3 : Int32) : ∃ S' T' x4', f_X2_goThrough S j r x3 = some S' ∧ f_X6_walksBy T a (T.2 1 (o + 7)) x3 = some T' ∧ TW S' T' x4' (T.2 1 (o + 7)).toNatClampNeg (dyF T o) ∧ FrS S S' ∧ FrT T T' := by
  obtain ⟨S', T', x4', h1, h2, h3, h4, h5⟩ := walk_l hr2 hg hs ho ha x3 _ (Nat.le_refl _)
  have b7 := hs.2.1.2.2.2.2
  have m60 : (T.2 1 (o + 7)).toNatClampNeg ≤ 60 := by rw [i32_nc]; have := b7.2; omega
  have e7 := on_of b7.1 (by have := b7.2; omega)
  have cp : cP S' j 6 = T.2 1 (o + 7) := by rw [h4.2.1]; exact hs.1.2.2.2.2.2.1
  generalize hm : (T.2 1 (o + 7)).toNatClampNeg = m at *
  refine ⟨S', T', x4', ?_, ?_, h3, h4, h5⟩
  · show l_X2_goThrough_44 j r fu (g0 S r) x3 0 = some S'
    rw [show fu = (9999 - m + 1) + m from by show 10000 = _; omega, h1, l_X2_goThrough_44, cp, e7, if_pos (by rw [i32_le]; omega)]
  · show l_X6_walksBy_11 fu (mS T 17 0) a (T.2 1 (o + 7)) x3 (-1) 0 = some T'
    rw [show fu = (9999 - m + 1) + m from by show 10000 = _; omega, h2 _ _ (by rw [e7, on_I (by omega)]; omega), l_X6_walksBy_11, e7, if_pos (by rw [i32_le]; omega)]
theorem walk_d {h : Nat → Bool} {S : CS} {T : MS} {j o r : Nat} {a : Int32} (hr2 : r < 2) (hg : RgRel h r S (T.2 1)) (hs : SpRel S j (T.2 1) o) (ho : o = 9 + 1288 * a.toNatClampNeg) (ha : 0 ≤ a.toInt ∧ a.toInt < 6) : ∃ S' S2 T2, f_X2_goThrough S j r (-1) = some S' ∧ f_X2_add S' (T.2 1 0) false = some S2 ∧ f_X6_walksBy T a (T.2 1 (o + 7) + 1) (-1) = some T2 ∧ cF S2 1 = T2.1 17 ∧ FrS S S' ∧ FrS S S2 ∧ FrT T T2 := by
  obtain ⟨S', T', x4', h1, h2, h3, h4, h5⟩ := walk_l hr2 hg hs ho ha (-1) _ (Nat.le_refl _)
  have h0 := hg.2.1.1
  have s0 := hg.2.2.1 0 (by omega)
  have s2 := hg.2.2.1 2 (by omega)
  have hde := dayOf_e hs h0 ho ha
  have b7 := hs.2.1.2.2.2.2
  have m60 : (T.2 1 (o + 7)).toNatClampNeg ≤ 60 := by rw [i32_nc]; have := b7.2; omega
  have e7 := on_of b7.1 (by have := b7.2; omega)
  have cp : cP S' j 6 = T.2 1 (o + 7) := by rw [h4.2.1]; exact hs.1.2.2.2.2.2.1
  have t1 : T'.2 1 = T.2 1 := h5.2 1 (by omega)
  have dm : dyF T o (T.2 1 (o + 7)).toNatClampNeg = T.2 1 0 := by unfold dyF; rw [if_pos rfl]
  have i7 : f_X6_its T' a 7 = some (T.2 1 (o + 7)) := by
    rw [its_e (k := 7) ha (by decide), t1]
    rw [show 9 + 1288 * a.toNatClampNeg + Int32.toNatClampNeg 7 = o + 7 from by rw [ho]; rfl]
  generalize hm : (T.2 1 (o + 7)).toNatClampNeg = m at *
  obtain ⟨S2, T2, x5, g1, g2, g3, g4, g5⟩ := walk_s (a := a) (by omega) h3 (by rw [t1]; exact s0.2) (by rw [t1]; exact s2.2) (fun i hi => ⟨(hde i (by omega)).1, fun T2 ft => (hde i (by omega)).2 T2 (h5.trans ft)⟩) false
  rw [dm] at g1
  refine ⟨S', S2, T2, ?_, g1, ?_, g3.2.2.2.1.1, h4, h4.trans g4, h5.trans g5⟩
  · show l_X2_goThrough_44 j r fu (g0 S r) (-1) 0 = some S'
    rw [show fu = (9999 - m + 1) + m from by show 10000 = _; omega, h1, l_X2_goThrough_44, cp, e7, if_pos (by rw [i32_le]; omega)]
  · show l_X6_walksBy_11 fu (mS T 17 0) a (T.2 1 (o + 7) + 1) (-1) (-1) 0 = some T2
    have n1 : ¬ Int32.ofNat m = -1 := fun e => by
      have := on_I (k := m) (by omega)
      rw [e] at this
      have z : (-1 : Int32).toInt = -1 := rfl
      omega
    rw [e7, on_S]
    rw [show fu = (9998 - m + 1 + 1) + m from by show 10000 = _; omega, h2 _ _ (by rw [on_I (by omega)]; omega), l_X6_walksBy_11, if_neg (by rw [i32_le, on_I (by omega), on_I (by omega)]; omega), if_neg n1, i7, Option.bind_some, e7, if_pos (by rw [i32_le]; omega)]
    rw [show (0 : Int32) = bI false from rfl, g2, l_X6_walksBy_11, if_pos (by rw [i32_le]; omega)]
