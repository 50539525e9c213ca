/-! numbers -/
theorem on_I {k : Nat} (h : k < 1000000) : (Int32.ofNat k).toInt = (k : Int) := by
  rw [Int32.toInt_ofNat_of_lt (by omega)]
theorem on_N {k : Nat} (h : k < 1000000) : (Int32.ofNat k).toNatClampNeg = k := by
  rw [i32_nc, on_I h]; omega
theorem on_S (k : Nat) : Int32.ofNat k + 1 = Int32.ofNat (k + 1) := by
  rw [Int32.ofNat_add]; rfl
theorem on_ok {k n : Nat} (h : k < n) (hn : n < 1000000) : ok (Int32.ofNat k) n := ok_t (by rw [on_I (by omega)]; omega)
theorem on_le {k : Nat} {x : Int32} (h : k < 1000000) : x ≤ Int32.ofNat k ↔ x.toInt ≤ k := by rw [i32_le, on_I h]
theorem on_lt {k : Nat} {x : Int32} (h : k < 1000000) : Int32.ofNat k < x ↔ (k : Int) < x.toInt := by rw [i32_lt, on_I h]
theorem on_of {x : Int32} (h : 0 ≤ x.toInt) (h2 : x.toInt < 1000000) : x = Int32.ofNat x.toNatClampNeg := by
  apply i32_ext
  rw [on_I (by rw [i32_nc]; omega), i32_nc]; omega
theorem up_s (f : Nat → Int32) (k : Nat) (v : Int32) : upd f k v k = v := by simp [upd]
theorem up_n (f : Nat → Int32) {k j : Nat} (v : Int32) (h : j ≠ k) : upd f k v j = f j := by simp [upd, h]
/-! cells of the two states -/
theorem cF_sF (S : CS) (k k' : Nat) (v : Int32) : cF (sF S k v) k' = if k' = k then v else cF S k' := rfl
theorem cA_sF (S : CS) (k : Nat) (v : Int32) : cA (sF S k v) = cA S := rfl
theorem cF_sA (S : CS) (k i : Nat) (v : Int32) : cF (sA S k i v) = cF S := rfl
theorem cA_sA (S : CS) (k i k' : Nat) (v : Int32) : cA (sA S k i v) k' = if k' = k then upd (cA S k) i v else cA S k' := rfl
theorem m1_mS (T : MS) (k k' : Nat) (v : Int32) : (mS T k v).1 k' = if k' = k then v else T.1 k' := rfl
theorem m2_mS (T : MS) (k : Nat) (v : Int32) : (mS T k v).2 = T.2 := rfl
theorem m1_mA (T : MS) (k i : Nat) (v : Int32) : (mA T k i v).1 = T.1 := rfl
theorem m2_mA (T : MS) (k i k' : Nat) (v : Int32) : (mA T k i v).2 k' = if k' = k then upd (T.2 k) i v else T.2 k' := rfl
/-! what a walk leaves as it was -/
def FrS (S S' : CS) : Prop := cR S' = cR S ∧ cP S' = cP S ∧ cQ S' = cQ S ∧ (∀ k, k < 2 ∨ 5 ≤ k → cA S' k = cA S k) ∧ ∀ k, k = 0 ∨ 8 ≤ k → cF S' k = cF S k
def FrT (T T' : MS) : Prop := (∀ k, k ≠ 17 → T'.1 k = T.1 k) ∧ ∀ k, k < 14 → T'.2 k = T.2 k
theorem FrS.refl (S : CS) : FrS S S := ⟨rfl, rfl, rfl, fun _ _ => rfl, fun _ _ => rfl⟩
theorem FrT.refl (T : MS) : FrT T T := ⟨fun _ _ => rfl, fun _ _ => rfl⟩
theorem FrS.trans {S S' S2 : CS} (h : FrS S S') (g : FrS S' S2) : FrS S S2 := ⟨g.1.trans h.1, g.2.1.trans h.2.1, g.2.2.1.trans h.2.2.1, fun k hk => (g.2.2.2.1 k hk).trans (h.2.2.2.1 k hk), fun k hk => (g.2.2.2.2 k hk).trans (h.2.2.2.2 k hk)⟩
theorem FrT.trans {T T' T2 : MS} (h : FrT T T') (g : FrT T' T2) : FrT T T2 := ⟨fun k hk => (g.1 k hk).trans (h.1 k hk), fun k hk => (g.2 k hk).trans (h.2 k hk)⟩
theorem FrS.sF {S S' : CS} (h : FrS S S') {k : Nat} (hk : 1 ≤ k ∧ k < 8) (v : Int32) : FrS S (sF S' k v) := ⟨h.1, h.2.1, h.2.2.1, h.2.2.2.1, fun k' hk' => by rw [cF_sF, if_neg (by omega)]; exact h.2.2.2.2 k' hk'⟩
theorem FrS.sA {S S' : CS} (h : FrS S S') {k : Nat} (hk : 2 ≤ k ∧ k < 5) (i : Nat) (v : Int32) : FrS S (sA S' k i v) := ⟨h.1, h.2.1, h.2.2.1, fun k' hk' => by rw [cA_sA, if_neg (by omega)]; exact h.2.2.2.1 k' hk', h.2.2.2.2⟩
theorem FrT.mS {T T' : MS} (h : FrT T T') (v : Int32) : FrT T (mS T' 17 v) := ⟨fun k hk => by rw [m1_mS, if_neg hk]; exact h.1 k hk, h.2⟩
theorem FrT.mA {T T' : MS} (h : FrT T T') {k : Nat} (hk : 14 ≤ k) (i : Nat) (v : Int32) : FrT T (mA T' k i v) := ⟨h.1, fun k' hk' => by rw [m2_mA, if_neg (by omega)]; exact h.2 k' hk'⟩
theorem Rel.fr {h : Nat → Bool} {lk : Nat × Nat} {S S' : CS} {T T' : MS} (hr : Rel h lk S T) (hs : FrS S S') (ht : FrT T T') : Rel h lk S' T' := by
  obtain ⟨s1, s2, s3, s4, s5⟩ := hs
  refine hr.reg hr.1 (s4 5 (by omega)) (fun k hk => s5 k (by omega)) ⟨ht.1 6 (by omega), ht.1 7 (by omega)⟩ (fun k hk => ht.2 k (by omega)) ?_
  rw [ht.2 1 (by omega)]
  exact hr.2.2.1.congr s1 (s4 _ (by have := hr.1.1; omega)) s2 s3
/-! the walk: the class's tally S beside the reference's marks T after k failures of days dy -/
def TW (S : CS) (T : MS) (x4 : Int32) (k : Nat) (dy : Nat → Int32) : Prop :=
  (cF S 5 = Int32.ofNat k ∧ cF S 2 = T.2 1 3 ∧ cF S 3 = T.2 1 4 ∧ cF S 4 = T.2 1 5) ∧
  (∀ i, i < k → cA S 2 i = dy i ∧ cA S 3 i = T.2 14 i ∧ (T.2 14 i = 0 ∨ T.2 14 i = 1) ∧ T.2 15 i = if (cF S 6).toInt ≤ (i : Int) then T.2 14 i else 0) ∧
  (0 ≤ (cF S 6).toInt ∧ (cF S 6).toInt ≤ k) ∧ (cF S 1 = T.1 17 ∧ 0 ≤ (T.1 17).toInt ∧ (T.1 17).toInt ≤ k) ∧ (∀ i, i < (T.1 17).toNatClampNeg → cA S 4 i = T.2 16 i) ∧
  ((cF S 7 = -1 ∧ x4 = -1) ∨ (0 ≤ (cF S 7).toInt ∧ (cF S 7).toInt < k ∧ x4 = dy (cF S 7).toNatClampNeg))
theorem pts_l {S : CS} {T : MS} {a d b : Int32} {m : Nat} {dy : Nat → Int32} (hm : m ≤ 61) (h5 : cF S 5 = Int32.ofNat m) (hb : d - cF S 2 = b) (hd : ∀ i, i < m → f_X6_dayOf T a (Int32.ofNat i) = some (dy i)) (hi : ∀ i, i < m → cA S 2 i = dy i ∧ cA S 3 i = T.2 14 i ∧ T.2 15 i = if (cF S 6).toInt ≤ (i : Int) then T.2 14 i else 0) : ∀ (k n n' x : Nat) (acc : Int32), (cF S 6).toInt ≤ (x : Int) → x + k = m → k < n → k < n' → ∃ v, l_X2_pointsOn_7 S n d acc (Int32.ofNat x) = some v ∧ l_X6_openBehind_6 T n' a (Int32.ofNat m) b acc (Int32.ofNat x) = some v ∧ (acc.toInt ≤ v.toInt ∨ ¬ (acc.toInt ≤ 1000 - k)) ∧ (v.toInt ≤ acc.toInt + k ∨ ¬ (0 ≤ acc.toInt ∧ acc.toInt ≤ 1000 - k)) := by
  intro k
  induction k with
  | zero =>
    intro n n' x acc h6 hx hn hn'
    obtain ⟨n, rfl⟩ : ∃ z, n = z + 1 := ⟨n - 1, by omega⟩
    obtain ⟨n', rfl⟩ : ∃ z, n' = z + 1 := ⟨n' - 1, by omega⟩
    have e : x = m := by omega
    subst e
    refine ⟨acc, ?_, ?_, by omega, by omega⟩
    · rw [l_X2_pointsOn_7, h5, if_pos (by rw [i32_le]; omega)]
    · rw [l_X6_openBehind_6, if_pos (by rw [i32_le]; omega)]
  | succ k ih =>
    intro n n' x acc h6 hx hn hn'
    obtain ⟨n, rfl⟩ : ∃ z, n = z + 1 := ⟨n - 1, by omega⟩
    obtain ⟨n', rfl⟩ : ∃ z, n' = z + 1 := ⟨n' - 1, by omega⟩
    have hxm : x < m := by omega
    obtain ⟨i1, i2, i3⟩ := hi x hxm
    rw [if_pos h6] at i3
    have c : ¬ Int32.ofNat m ≤ Int32.ofNat x := by rw [i32_le, on_I (by omega), on_I (by omega)]; omega
    have o1 : ok (Int32.ofNat x) 61 := on_ok (by omega) (by omega)
    rw [l_X2_pointsOn_7, h5, if_neg c, if_pos o1, if_pos o1, on_N (by omega), i1, i2, hb, l_X6_openBehind_6, if_neg c, if_pos o1, on_N (by omega), i3, hd x hxm, Option.bind_some, on_S]
    have e0 : acc + 0 = acc := by simp
    by_cases z : T.2 14 x = 0
    · rw [if_pos z, if_pos z, e0]
      obtain ⟨v, v1, v2, v3, v4⟩ := ih n n' (x + 1) acc (by omega) (by omega) (by omega) (by omega)
      exact ⟨v, v1, v2, by omega, by omega⟩
    · rw [if_neg z, if_neg z]
      by_cases y : dy x ≤ b
      · rw [if_pos y, if_pos y, e0]
        obtain ⟨v, v1, v2, v3, v4⟩ := ih n n' (x + 1) acc (by omega) (by omega) (by omega) (by omega)
        exact ⟨v, v1, v2, by omega, by omega⟩
      · rw [if_neg y, if_neg y]
        obtain ⟨v, v1, v2, v3, v4⟩ := ih n n' (x + 1) (acc + 1) (by omega) (by omega) (by omega) (by omega)
        refine ⟨v, v1, v2, ?_, ?_⟩
        · by_cases q : acc.toInt ≤ 1000 - (k + 1 : Nat)
          · by_cases q2 : 0 ≤ acc.toInt
            · rw [i32_inc ⟨q2, by omega⟩] at v3 v4; omega
            · have : (acc + 1).toInt = acc.toInt + 1 := by
                have := Int32.le_toInt acc
                rw [Int32.toInt_add, show (1 : Int32).toInt = 1 from rfl, Int.bmod_eq_of_le (by omega) (by omega)]
              omega
          · omega
        · by_cases q : 0 ≤ acc.toInt ∧ acc.toInt ≤ 1000 - (k + 1 : Nat)
          · rw [i32_inc ⟨q.1, by omega⟩] at v4; omega
          · omega
/-- the reference passes over what is closed -/
theorem skip_l {T : MS} {a b : Int32} {m f : Nat} (hm : m ≤ 61) (hf : f ≤ m) (hi : ∀ i, i < f → T.2 15 i = 0) : ∀ (k n x : Nat) (acc : Int32), x + k = f → l_X6_openBehind_6 T (n + k) a (Int32.ofNat m) b acc (Int32.ofNat x) = l_X6_openBehind_6 T n a (Int32.ofNat m) b acc (Int32.ofNat f) := by
  intro k
  induction k with
  | zero => intro n x acc hx; have e : x = f := by omega
            subst e; rfl
  | succ k ih =>
    intro n x acc hx
    have c : ¬ Int32.ofNat m ≤ Int32.ofNat x := by rw [i32_le, on_I (by omega), on_I (by omega)]; omega
    have e0 : acc + 0 = acc := by simp
    rw [← Nat.add_assoc, l_X6_openBehind_6, if_neg c, if_pos (on_ok (by omega) (by omega)), on_N (by omega), hi x (by omega), if_pos rfl, e0, on_S]
    exact ih n (x + 1) acc (by omega)
theorem pts_e {S : CS} {T : MS} {a d b : Int32} {m : Nat} {dy : Nat → Int32} (hm : m ≤ 61) (h5 : cF S 5 = Int32.ofNat m) (hb : d - cF S 2 = b) (h6 : 0 ≤ (cF S 6).toInt ∧ (cF S 6).toInt ≤ m) (hd : ∀ i, i < m → f_X6_dayOf T a (Int32.ofNat i) = some (dy i)) (hi : ∀ i, i < m → cA S 2 i = dy i ∧ cA S 3 i = T.2 14 i ∧ T.2 15 i = if (cF S 6).toInt ≤ (i : Int) then T.2 14 i else 0) : ∃ v, f_X2_pointsOn S d = some v ∧ f_X6_openBehind T a (Int32.ofNat m) b = some v ∧ 0 ≤ v.toInt ∧ v.toInt ≤ m := by
  have e6 := on_of h6.1 (by omega)
  have k6 : (cF S 6).toNatClampNeg ≤ m := by rw [i32_nc]; omega
  obtain ⟨v, v1, v2, v3, v4⟩ := pts_l hm h5 hb hd hi (m - (cF S 6).toNatClampNeg) fu (fu - (cF S 6).toNatClampNeg) (cF S 6).toNatClampNeg 0 (by rw [i32_nc]; omega) (by omega) (by show _ < 10000; omega) (by show _ < 10000 - _; omega)
  have z0 : (0 : Int32).toInt = 0 := rfl
  refine ⟨v, ?_, ?_, by omega, by omega⟩
  · unfold f_X2_pointsOn
    rw [e6]
    exact v1
  · unfold f_X6_openBehind
    have hz : ∀ i, i < (cF S 6).toNatClampNeg → T.2 15 i = 0 := fun i hlt => by
      rw [(hi i (by omega)).2.2, if_neg (by rw [i32_nc] at hlt; omega)]
    have s := skip_l (a := a) (b := b) hm k6 hz (cF S 6).toNatClampNeg (fu - (cF S 6).toNatClampNeg) 0 0 (by omega)
    rw [Nat.sub_add_cancel (by show _ ≤ 10000; omega)] at s
    rw [show (0 : Int32) = Int32.ofNat 0 from rfl] at *
    rw [s]
    exact v2
