theorem in_t {x a b : Int32} (h : a.toInt ≤ x.toInt ∧ x.toInt ≤ b.toInt) : f_X6_in x a b = true := by
  unfold f_X6_in
  rw [if_neg (by rw [i32_lt]; omega), if_neg (by rw [i32_lt]; omega)]
theorem in_f {x a b : Int32} (h : ¬ (a.toInt ≤ x.toInt ∧ x.toInt ≤ b.toInt)) : f_X6_in x a b = false := by
  unfold f_X6_in
  by_cases c : x < a
  · rw [if_pos c]
  · rw [if_neg c, if_pos (by rw [i32_lt] at *; omega)]
theorem ok_t {x : Int32} {n : Nat} (h : 0 ≤ x.toInt ∧ x.toInt < n) : ok x n := fun hh => hh.elim (fun hh => by rw [i32_lt] at hh; have : (0 : Int32).toInt = 0 := rfl; omega) (fun hh => by rw [i32_nc] at hh; omega)
theorem i32_addI {x y : Int32} (h : -2000000000 ≤ x.toInt + y.toInt ∧ x.toInt + y.toInt ≤ 2000000000) : (x + y).toInt = x.toInt + y.toInt := by
  rw [Int32.toInt_add, Int.bmod_eq_of_le (by omega) (by omega)]
theorem i32_subI {x y : Int32} (h : -2000000000 ≤ x.toInt - y.toInt ∧ x.toInt - y.toInt ≤ 2000000000) : (x - y).toInt = x.toInt - y.toInt := by
  rw [Int32.toInt_sub, Int.bmod_eq_of_le (by omega) (by omega)]
theorem i32_ext {x y : Int32} (h : x.toInt = y.toInt) : x = y := Int32.toInt_inj.mp h
theorem Rel_count : P_count Rel := by
  intro h lk S T a1 hr
  have hr0 : Rel h lk S (mS T 0 0) := hr
  obtain ⟨hw, hne, ⟨⟨g1, g2, g3⟩, ⟨b1, b2, b3⟩, gs, -⟩, ⟨t1, t2, t3⟩, hf, hl, hb⟩ := hr
  have z0 : (0 : Int32).toInt = 0 := rfl
  have z1 : (1 : Int32).toInt = 1 := rfl
  have z2 : (2 : Int32).toInt = 2 := rfl
  have z3 : (3 : Int32).toInt = 3 := rfl
  have z5 : (5 : Int32).toInt = 5 := rfl
  have z10 : (10 : Int32).toInt = 10 := rfl
  have z15 : (15 : Int32).toInt = 15 := rfl
  have zm : (-1 : Int32).toInt = -1 := rfl
  have hx := Int32.toInt_lt a1
  have hx2 := Int32.le_toInt a1
  unfold f_X5_count f_X6_count
  by_cases c : 10 ≤ a1.toInt ∧ a1.toInt ≤ 15
  · have n0 : ¬ a1 = 0 := fun e => by rw [e] at c; omega
    have n1 : ¬ a1 = 1 := fun e => by rw [e] at c; omega
    have n2 : ¬ a1 = 2 := fun e => by rw [e] at c; omega
    have n3 : ¬ a1 = 3 := fun e => by rw [e] at c; omega
    have p10 : (10 : Int32) ≤ a1 := by rw [i32_le]; omega
    have e1 : (a1 - 10).toInt = a1.toInt - 10 := i32_subI (by omega)
    have e2 : (3 + a1).toInt = 3 + a1.toInt := i32_addI (by omega)
    have e3 : ((3 + a1) - 10).toInt = a1.toInt - 7 := by rw [i32_subI (by omega)]; omega
    have s1 : f_X5_isSetting (a1 - 10) = true := by unfold f_X5_isSetting; rw [if_neg (by rw [i32_lt]; omega), if_neg (by rw [i32_le]; have z6 : (6 : Int32).toInt = 6 := rfl; omega)]
    refine ⟨cA S lk.1 (a1 - 10).toNatClampNeg, ((T.2 1 ((3 + a1) - 10).toNatClampNeg), mS T 0 0), ?_, ?_, ?_, hr0⟩
    · rw [if_neg n0, if_neg n1, if_neg n2, if_neg n3, if_pos p10]
      unfold f_X0_settingOrNone
      rw [if_pos s1, if_pos (ok_t (by omega))]
      rfl
    · rw [if_pos (in_t (by omega)), if_pos (ok_t (by omega))]
      rfl
    · have k6 : (a1 - 10).toNatClampNeg < 6 := by rw [i32_nc]; omega
      have k3 : ((3 + a1) - 10).toNatClampNeg = 3 + (a1 - 10).toNatClampNeg := by rw [i32_nc, i32_nc]; omega
      rw [(gs _ k6).1, k3]
  · have ni : ¬ f_X6_in a1 10 15 = true := by rw [in_f (by omega)]; decide
    rw [if_neg ni]
    by_cases n0 : a1 = 0
    · rw [if_pos n0, if_pos n0]; exact ⟨_, _, rfl, rfl, g3, hr0⟩
    rw [if_neg n0, if_neg n0]
    by_cases n1 : a1 = 1
    · rw [if_pos n1, if_pos n1]; exact ⟨_, _, rfl, rfl, g1, hr0⟩
    rw [if_neg n1, if_neg n1]
    by_cases n2 : a1 = 2
    · rw [if_pos n2, if_pos n2]; exact ⟨_, _, rfl, rfl, g2, hr0⟩
    rw [if_neg n2, if_neg n2]
    by_cases n3 : a1 = 3
    · rw [if_pos n3, if_pos n3]; exact ⟨_, _, rfl, rfl, t1, hr0⟩
    rw [if_neg n3, if_neg n3]
    refine ⟨-1, (-1, mS T 0 0), ?_, rfl, rfl, hr0⟩
    by_cases p10 : (10 : Int32) ≤ a1
    · rw [if_pos p10]
      rw [i32_le] at p10
      have e1 : (a1 - 10).toInt = a1.toInt - 10 := by
        rw [Int32.toInt_sub, z10, Int.bmod_eq_of_le (by omega) (by omega)]
      have s1 : f_X5_isSetting (a1 - 10) = false := by unfold f_X5_isSetting; rw [if_neg (by rw [i32_lt]; omega), if_pos (by rw [i32_le]; have z6 : (6 : Int32).toInt = 6 := rfl; omega)]
      unfold f_X0_settingOrNone
      rw [if_neg (by rw [s1]; decide)]
      rfl
    · rw [if_neg p10]
      rfl
theorem set_t {x : Int32} (h : 0 ≤ x.toInt ∧ x.toInt < 6) : f_X5_isSetting x = true := by
  unfold f_X5_isSetting
  rw [if_neg (by rw [i32_lt]; show ¬ _ < (0 : Int); omega), if_neg (by rw [i32_le]; show ¬ (6 : Int) ≤ _; omega)]
theorem set_f {x : Int32} (h : ¬ (0 ≤ x.toInt ∧ x.toInt < 6)) : f_X5_isSetting x = false := by
  unfold f_X5_isSetting
  by_cases c : x < 0
  · rw [if_pos c]
  · rw [if_neg c, if_pos (by rw [i32_lt] at c; have c : ¬ x.toInt < 0 := c; rw [i32_le]; show (6 : Int) ≤ _; omega)]
/-- a register after one setting has changed -/
theorem RgRel.set {h : Nat → Bool} {r : Nat} {S : CS} {w : Nat → Int32} (hr : RgRel h r S w) {k : Nat} (hk : k < 6) {v : Int32} (hv : bt v (cTab 0 k).toInt (cTab 1 k).toInt) : RgRel h r (sA S r k v) (upd w (3 + k) v) := by
  have hn : ∀ n, n ≠ 3 + k → upd w (3 + k) v n = w n := fun n hn => by simp [upd, hn]
  obtain ⟨a1, a2, a3, a4⟩ := hr
  refine ⟨?_, ?_, fun k' hk' => ?_, fun i hi => ?_⟩
  · rw [hn 0 (by omega), hn 1 (by omega), hn 2 (by omega)]; exact a1
  · rw [hn 0 (by omega), hn 1 (by omega), hn 2 (by omega)]; exact a2
  · have e : cA (sA S r k v) r = upd (cA S r) k v := by
      show va_up S.2.2.1 r _ r = _
      rw [va_up_self]
    rw [e]
    by_cases ek : k' = k
    · subst ek
      have e1 : upd w (3 + k') v (3 + k') = v := by simp [upd]
      have e2 : upd (cA S r) k' v k' = v := by simp [upd]
      rw [e1, e2]; exact ⟨rfl, hv⟩
    · have e2 : upd (cA S r) k v k' = cA S r k' := by simp [upd, ek]
      rw [hn _ (by omega), e2]; exact a3 k' hk'
  · rw [hn 2 (by omega)] at hi
    obtain ⟨b1, b2⟩ := a4 i hi
    refine ⟨b1, ?_⟩
    unfold SpRel at *
    have hm : ∀ d, upd w (3 + k) v (9 + 1288 * i + d) = w (9 + 1288 * i + d) := fun d => hn _ (by omega)
    have hm0 : upd w (3 + k) v (9 + 1288 * i) = w (9 + 1288 * i) := hn _ (by omega)
    simp only [hm, hm0, hn 0 (by omega)]
    have e8 : ∀ d, upd w (3 + k) v (9 + 1288 * i + 8 + 3 * d) = w (9 + 1288 * i + 8 + 3 * d) := fun d => hn _ (by omega)
    have e9 : ∀ d, upd w (3 + k) v (9 + 1288 * i + 9 + 3 * d) = w (9 + 1288 * i + 9 + 3 * d) := fun d => hn _ (by omega)
    have e10 : ∀ d, upd w (3 + k) v (9 + 1288 * i + 10 + 3 * d) = w (9 + 1288 * i + 10 + 3 * d) := fun d => hn _ (by omega)
    have e188 : ∀ d, upd w (3 + k) v (9 + 1288 * i + 188 + d) = w (9 + 1288 * i + 188 + d) := fun d => hn _ (by omega)
    simp only [e8, e9, e10, e188]
    exact b2
theorem Rel_set : P_set Rel := by
  intro h lk S T a1 a2 hr
  have hr0 : Rel h lk S (mS T 0 0) := hr
  obtain ⟨hw, hne, hg, ⟨t1, t2, t3⟩, hf, hl, hb⟩ := hr
  have z0 : (0 : Int32).toInt = 0 := rfl
  have z5 : (5 : Int32).toInt = 5 := rfl
  have z3 : (3 : Int32).toInt = 3 := rfl
  unfold f_X5_set f_X0_change f_X5_canBeSetting f_X6_set
  by_cases c : 0 ≤ a1.toInt ∧ a1.toInt < 6
  · have i1 : f_X6_in a1 0 5 = true := in_t (by omega)
    have o1 : ok a1 6 := ok_t (by omega)
    have k6 : a1.toNatClampNeg < 6 := by rw [i32_nc]; omega
    have e3 : (3 + a1).toInt = 3 + a1.toInt := i32_addI (by omega)
    have o3 : ok (3 + a1) 7737 := ok_t (by omega)
    have k3 : (3 + a1).toNatClampNeg = 3 + a1.toNatClampNeg := by rw [i32_nc, i32_nc]; omega
    have l3 : (mS T 0 0).2 3 a1.toNatClampNeg = cTab 0 a1.toNatClampNeg := (hl _ k6).1
    have l4 : (mS T 0 0).2 4 a1.toNatClampNeg = cTab 1 a1.toNatClampNeg := (hl _ k6).2
    have gk : (mS T 0 0).2 1 (3 + a1).toNatClampNeg = cA S lk.1 a1.toNatClampNeg := by rw [k3]; exact (hg.2.2.1 _ k6).1.symm
    rw [if_pos (set_t c), if_pos o1, if_pos o1, if_pos i1, if_pos o1, if_pos o1, l3, l4, if_pos o3, if_pos o3, gk]
    by_cases d : (cTab 0 a1.toNatClampNeg).toInt ≤ a2.toInt ∧ a2.toInt ≤ (cTab 1 a1.toNatClampNeg).toInt
    · have n1 : ¬ a2 < cTab 0 a1.toNatClampNeg := by rw [i32_lt]; omega
      have n2 : ¬ cTab 1 a1.toNatClampNeg < a2 := by rw [i32_lt]; omega
      rw [if_neg n1, if_neg n2, if_pos (in_t d)]
      simp only [Option.bind_some, if_true, if_pos o1]
      by_cases e : cA S lk.1 a1.toNatClampNeg = a2
      · rw [if_pos e, if_pos e]
        exact ⟨_, _, rfl, rfl, rfl, hr0⟩
      · rw [if_neg e, if_neg e]
        refine ⟨_, _, rfl, rfl, rfl, hw, hne, ?_, ⟨t1, t2, fun i hi => ?_⟩, hf, hl, hb⟩
        · rw [k3]
          have hs := hg.set k6 (v := a2) d
          exact hs
        · have e5 : cA (sA S lk.1 a1.toNatClampNeg a2) 5 = cA S 5 := by
            show va_up S.2.2.1 lk.1 _ 5 = _
            rw [va_up_ne _ _ (by have := hw.1; omega)]
            rfl
          show cA (sA S lk.1 a1.toNatClampNeg a2) 5 i &&& 255 = _
          rw [e5]
          exact t3 i hi
    · have ni : ¬ f_X6_in a2 (cTab 0 a1.toNatClampNeg) (cTab 1 a1.toNatClampNeg) = true := by rw [in_f d]; decide
      rw [if_neg ni]
      refine ⟨(false, S), (false, mS T 0 0), ?_, by simp only [if_pos o1], rfl, hr0⟩
      by_cases n1 : a2 < cTab 0 a1.toNatClampNeg
      · rw [if_pos n1]; rfl
      · have n2 : cTab 1 a1.toNatClampNeg < a2 := by rw [i32_lt] at *; omega
        rw [if_neg n1, if_pos n2]; rfl
  · have ni : ¬ f_X6_in a1 0 5 = true := by rw [in_f (by omega)]; decide
    have ns : ¬ f_X5_isSetting a1 = true := by rw [set_f c]; decide
    rw [if_neg ni, if_neg ns]
    exact ⟨(false, S), (false, mS T 0 0), rfl, rfl, rfl, hr0⟩
