def sumW (W : Nat → Int32) : Nat → Int
  | 0 => 0
  | n + 1 => sumW W n + (W n).toInt
def nz (W : Nat → Int32) : Nat → Nat
  | 0 => 0
  | n + 1 => nz W n + if W n = 0 then 0 else 1
theorem sumW_b {W : Nat → Int32} : ∀ n, (∀ i, i < n → 0 ≤ (W i).toInt ∧ (W i).toInt ≤ 549000) → 0 ≤ sumW W n ∧ sumW W n ≤ 549000 * n ∧ (nz W n : Int) ≤ sumW W n := by
  intro n
  induction n with
  | zero => intro _; exact ⟨by show (0 : Int) ≤ 0; omega, by show (0 : Int) ≤ _; omega, by show ((0 : Nat) : Int) ≤ (0 : Int); omega⟩
  | succ n ih =>
    intro hh
    have h1 := ih (fun i hi => hh i (by omega))
    have h2 := hh n (by omega)
    have e1 : sumW W (n + 1) = sumW W n + (W n).toInt := rfl
    have e2 : nz W (n + 1) = nz W n + if W n = 0 then 0 else 1 := rfl
    refine ⟨by omega, by omega, ?_⟩
    rw [e2, e1]
    by_cases c : W n = 0
    · rw [if_pos c]; omega
    · rw [if_neg c]
      have : (W n).toInt ≠ 0 := fun e => c (i32_ext (y := 0) e)
      omega
theorem sumW_congr {W W' : Nat → Int32} : ∀ n, (∀ i, i < n → W i = W' i) → sumW W n = sumW W' n := by
  intro n
  induction n with
  | zero => intro _; rfl
  | succ n ih =>
    intro hh
    show sumW W n + _ = sumW W' n + _
    rw [ih (fun i hi => hh i (by omega)), hh n (by omega)]
theorem sumW_tail {W : Nat → Int32} {m : Nat} : ∀ n, m ≤ n → (∀ i, m ≤ i → i < n → W i = 0) → sumW W n = sumW W m := by
  intro n
  induction n with
  | zero => intro hm _; have e : m = 0 := by omega
            rw [e]
  | succ n ih =>
    intro hm hh
    by_cases c : m = n + 1
    · rw [c]
    · show sumW W n + _ = _
      rw [ih (by omega) (fun i h1 h2 => hh i h1 (by omega)), hh n (by omega) (by omega)]
      show _ + (0 : Int) = _
      omega
theorem sumW_upd {W : Nat → Int32} {d : Nat} : ∀ n, (n ≤ d → sumW (upd W d 0) n = sumW W n ∧ nz (upd W d 0) n = nz W n) ∧ (d < n → sumW (upd W d 0) n = sumW W n - (W d).toInt ∧ (¬ W d = 0 → nz (upd W d 0) n + 1 = nz W n)) := by
  intro n
  induction n with
  | zero => exact ⟨fun _ => ⟨rfl, rfl⟩, fun hh => by omega⟩
  | succ n ih =>
    have e1 : sumW W (n + 1) = sumW W n + (W n).toInt := rfl
    have e2 : nz W (n + 1) = nz W n + if W n = 0 then 0 else 1 := rfl
    have e3 : sumW (upd W d 0) (n + 1) = sumW (upd W d 0) n + (upd W d 0 n).toInt := rfl
    have e4 : nz (upd W d 0) (n + 1) = nz (upd W d 0) n + if upd W d 0 n = 0 then 0 else 1 := rfl
    refine ⟨fun hh => ?_, fun hh => ?_⟩
    · have g := ih.1 (by omega)
      rw [e1, e2, e3, e4, up_n _ _ (by omega), g.1, g.2]
      exact ⟨rfl, rfl⟩
    · by_cases c : d = n
      · subst c
        have g := ih.1 (Nat.le_refl _)
        rw [e1, e2, e3, e4, up_s, g.1, g.2, if_pos rfl]
        refine ⟨by show _ + (0 : Int) = _; omega, fun hn => by rw [if_neg hn]⟩
      · have g := ih.2 (by omega)
        rw [e1, e2, e3, e4, up_n _ _ (by omega), g.1]
        refine ⟨by omega, fun hn => ?_⟩
        have := g.2 hn
        omega
theorem rem32 {a b : Int32} (ha : 0 ≤ a.toInt) (hb : 0 < b.toInt) : (a - a / b * b).toInt = a.toInt % b.toInt := by
  have a2 := Int32.toInt_lt a
  have q0 : 0 ≤ a.toInt / b.toInt := Int.ediv_nonneg ha (by omega)
  have q1 : a.toInt / b.toInt ≤ a.toInt := Int.ediv_le_self _ ha
  have e1 : (a / b).toInt = a.toInt / b.toInt := by
    rw [Int32.toInt_div, Int.tdiv_eq_ediv_of_nonneg ha, Int.bmod_eq_of_le (by omega) (by omega)]
  have e2 := Int.mul_ediv_add_emod a.toInt b.toInt
  have m0 := Int.emod_nonneg a.toInt (b := b.toInt) (by omega)
  have m1 := Int.emod_lt_of_pos a.toInt hb
  have p0 : 0 ≤ a.toInt / b.toInt * b.toInt := Int.mul_nonneg q0 (by omega)
  have p1 : b.toInt * (a.toInt / b.toInt) = a.toInt / b.toInt * b.toInt := Int.mul_comm _ _
  have e3 : (a / b * b).toInt = a.toInt / b.toInt * b.toInt := by
    rw [Int32.toInt_mul, e1, Int.bmod_eq_of_le (by omega) (by omega)]
  rw [Int32.toInt_sub, e3, Int.bmod_eq_of_le (by omega) (by omega)]
  omega
theorem rem64 {a b : Int64} (ha : 0 ≤ a.toInt) (hb : 0 < b.toInt) : (a - a / b * b).toInt = a.toInt % b.toInt := by
  have a2 := Int64.toInt_lt a
  have q0 : 0 ≤ a.toInt / b.toInt := Int.ediv_nonneg ha (by omega)
  have q1 : a.toInt / b.toInt ≤ a.toInt := Int.ediv_le_self _ ha
  have e1 : (a / b).toInt = a.toInt / b.toInt := by
    rw [Int64.toInt_div, Int.tdiv_eq_ediv_of_nonneg ha, Int.bmod_eq_of_le (by omega) (by omega)]
  have e2 := Int.mul_ediv_add_emod a.toInt b.toInt
  have m0 := Int.emod_nonneg a.toInt (b := b.toInt) (by omega)
  have m1 := Int.emod_lt_of_pos a.toInt hb
  have p0 : 0 ≤ a.toInt / b.toInt * b.toInt := Int.mul_nonneg q0 (by omega)
  have p1 : b.toInt * (a.toInt / b.toInt) = a.toInt / b.toInt * b.toInt := Int.mul_comm _ _
  have e3 : (a / b * b).toInt = a.toInt / b.toInt * b.toInt := by
    rw [Int64.toInt_mul, e1, Int.bmod_eq_of_le (by omega) (by omega)]
  rw [Int64.toInt_sub, e3, Int.bmod_eq_of_le (by omega) (by omega)]
  omega
/-- the divisor, on both sides -/
theorem div_l : ∀ (g f f' x : Nat) (a b : Int32), 0 < a.toInt → 0 ≤ b.toInt → b.toInt < 2 ^ g → x + 2 * g + 1 ≤ 64 → 2 * g + 1 ≤ f → 2 * g + 1 ≤ f' → ∃ v, l_X5_greatestDivisor_7 f a b (Int32.ofNat x) = some v ∧ l_X6_divisor_4 f' a b = some v ∧ 1 ≤ v.toInt := by
  have c64 : ∀ x : Nat, x < 64 → ¬ (64 : Int32) ≤ Int32.ofNat x := fun x hx => by rw [i32_le, on_I (by omega)]; show ¬ (64 : Int) ≤ _; omega
  have base : ∀ (f f' x : Nat) (a : Int32), 0 < a.toInt → x < 64 → ∃ v, l_X5_greatestDivisor_7 (f + 1) a 0 (Int32.ofNat x) = some v ∧ l_X6_divisor_4 (f' + 1) a 0 = some v ∧ 1 ≤ v.toInt := fun f f' x a ha hx => ⟨a, by rw [l_X5_greatestDivisor_7, if_neg (c64 x hx), if_pos rfl], by rw [l_X6_divisor_4, if_pos rfl], ha⟩
  intro g
  induction g with
  | zero =>
    intro f f' x a b ha hb h2 hx hf hf'
    obtain ⟨f, rfl⟩ : ∃ z, f = z + 1 := ⟨f - 1, by omega⟩
    obtain ⟨f', rfl⟩ : ∃ z, f' = z + 1 := ⟨f' - 1, by omega⟩
    have e : b = 0 := i32_ext (y := 0) (by show _ = (0 : Int); have : (2 : Int) ^ 0 = 1 := rfl; omega)
    rw [e]
    exact base f f' x a ha (by omega)
  | succ g ih =>
    intro f f' x a b ha hb h2 hx hf hf'
    obtain ⟨f, rfl⟩ : ∃ z, f = z + 1 + 1 := ⟨f - 2, by omega⟩
    obtain ⟨f', rfl⟩ : ∃ z, f' = z + 1 + 1 := ⟨f' - 2, by omega⟩
    by_cases c : b = 0
    · rw [c]; exact base _ _ x a ha (by omega)
    · have hb1 : 0 < b.toInt := by
        by_cases e : b.toInt = 0
        · exact absurd (i32_ext (y := 0) e) c
        · omega
      have r1 := rem32 (a := a) (b := b) (by omega) hb1
      have m0 := Int.emod_nonneg a.toInt (b := b.toInt) (by omega)
      have m1 := Int.emod_lt_of_pos a.toInt hb1
      rw [l_X5_greatestDivisor_7, if_neg (c64 x (by omega)), if_neg c, if_pos c, l_X6_divisor_4, if_neg c, if_pos c, on_S]
      generalize a - a / b * b = d at *
      by_cases c2 : d = 0
      · rw [c2]; exact base _ _ (x + 1) b hb1 (by omega)
      · have hd1 : 0 < d.toInt := by
          by_cases e : d.toInt = 0
          · exact absurd (i32_ext (y := 0) e) c2
          · omega
        have r2 := rem32 (a := b) (b := d) (by omega) hd1
        have n0 := Int.emod_nonneg b.toInt (b := d.toInt) (by omega)
        have n1 := Int.emod_lt_of_pos b.toInt hd1
        have n2 := Int.mul_ediv_add_emod b.toInt d.toInt
        have q1 : 1 ≤ b.toInt / d.toInt := by
          rw [Int.le_ediv_iff_mul_le hd1]; omega
        have q2 : d.toInt * 1 ≤ d.toInt * (b.toInt / d.toInt) := Int.mul_le_mul_of_nonneg_left q1 (by omega)
        rw [l_X5_greatestDivisor_7, if_neg (c64 (x + 1) (by omega)), if_neg c2, if_pos c2, l_X6_divisor_4, if_neg c2, if_pos c2, on_S]
        have e2 : (2 : Int) ^ (g + 1) = 2 * 2 ^ g := by rw [Int.pow_succ]; omega
        exact ih f f' (x + 1 + 1) d (b - b / d * d) hd1 (by omega) (by omega) (by omega) (by omega) (by omega)
/-! the weights -/
def WtOk (U : MS) (i : Nat) (v : Int32) : Prop := (1 ≤ v.toInt ∧ v.toInt ≤ 549000) ∧ ∀ U', FrT U U' → ∃ U2, f_X6_weightOf U' (Int32.ofNat i) = some (v, U2) ∧ FrT U' U2
theorem Rel.w7 {h : Nat → Bool} {lk : Nat × Nat} {S : CS} {U : MS} (hr : Rel h lk S U) (i : Nat) (v : Int32) : Rel h lk (sA S 7 i v) U := by
  refine hr.reg hr.1 rfl (fun _ _ => rfl) ⟨rfl, rfl⟩ (fun _ _ => rfl) (RgRel.congr (S := S) rfl ?_ rfl rfl hr.2.2.1)
  rw [cA_sA, if_neg (by have := hr.1.1; omega)]
theorem many {h : Nat → Bool} {lk : Nat × Nat} {S : CS} {U : MS} (hr : Rel h lk S U) : ∃ M : Nat, M ≤ 6 ∧ U.2 1 2 = Int32.ofNat M ∧ (U.2 1 2).toInt = (M : Int) := by
  have b := hr.2.2.1.2.1.2.2
  have b1 := b.1
  have b2 := b.2
  refine ⟨(U.2 1 2).toNatClampNeg, by rw [i32_nc]; omega, on_of b1 (by omega), by rw [i32_nc]; omega⟩
theorem wall_l {h : Nat → Bool} {lk : Nat × Nat} {U : MS} {M : Nat} (hM : (U.2 1 2).toInt = (M : Int)) : ∀ (k n x : Nat) (S : CS) (acc : Int32), Rel h lk S U → x + k = 6 → k < n → acc.toInt = sumW (cA S 7) x → (∀ i, i < x → (i < M → WtOk U i (cA S 7 i)) ∧ (M ≤ i → cA S 7 i = 0)) → ∃ s S', l_X5_weighAll_4 h lk n S acc (Int32.ofNat x) = some (s, S') ∧ Rel h lk S' U ∧ s.toInt = sumW (cA S' 7) 6 ∧ ∀ i, i < 6 → (i < M → WtOk U i (cA S' 7 i)) ∧ (M ≤ i → cA S' 7 i = 0) := by
  intro k
  induction k with
  | zero =>
    intro n x S acc hr hx hn ha hw
    obtain ⟨n, rfl⟩ : ∃ z, n = z + 1 := ⟨n - 1, by omega⟩
    have e : x = 6 := by omega
    subst e
    exact ⟨acc, S, by rw [l_X5_weighAll_4, if_pos (by decide)], hr, ha, hw⟩
  | succ k ih =>
    intro n x S acc hr hx hn ha hw
    obtain ⟨n, rfl⟩ : ∃ z, n = z + 1 := ⟨n - 1, by omega⟩
    have c6 : ¬ (6 : Int32) ≤ Int32.ofNat x := by rw [i32_le, on_I (by omega)]; show ¬ (6 : Int) ≤ _; omega
    have o6 : ok (Int32.ofNat x) 6 := on_ok (by omega) (by omega)
    have bs := sumW_b (W := cA S 7) x (fun i hi => by
      by_cases c : i < M
      · have := ((hw i hi).1 c).1; omega
      · rw [(hw i hi).2 (by omega)]; decide)
    rw [l_X5_weighAll_4, if_neg c6]
    have put : ∀ (S' : CS) (v : Int32), Rel h lk S' U → cA S' 7 = cA S 7 → 0 ≤ v.toInt ∧ v.toInt ≤ 549000 → ((x < M → WtOk U x v) ∧ (M ≤ x → v = 0)) → ∃ s S2, j_X5_weighAll_37 h lk (l_X5_weighAll_4 h lk n) S' acc (Int32.ofNat x) v (Int32.ofNat x) = some (s, S2) ∧ Rel h lk S2 U ∧ s.toInt = sumW (cA S2 7) 6 ∧ ∀ i, i < 6 → (i < M → WtOk U i (cA S2 7 i)) ∧ (M ≤ i → cA S2 7 i = 0) := by
      intro S' v hr' h7 hv hx'
      unfold j_X5_weighAll_37
      rw [if_pos o6, if_pos o6, on_N (by omega), on_S]
      have e7 : cA (sA S' 7 x v) 7 = upd (cA S 7) x v := by rw [cA_sA, if_pos rfl, h7]
      rw [e7, up_s]
      refine ih n (x + 1) (sA S' 7 x v) (acc + v) (hr'.w7 x v) (by omega) (by omega) ?_ (fun i hi => ?_)
      · rw [i32_addI (by omega), ha, e7]
        show _ = sumW (upd (cA S 7) x v) x + (upd (cA S 7) x v x).toInt
        rw [up_s, sumW_congr x (W := upd (cA S 7) x v) (W' := cA S 7) (fun i hi => up_n _ _ (by omega))]
      · rw [e7]
        by_cases c : i = x
        · subst c; rw [up_s]; exact hx'
        · rw [up_n _ _ c]; exact hw i (by omega)
    by_cases c : x < M
    · have ca : 0 ≤ (Int32.ofNat x).toInt ∧ (Int32.ofNat x).toInt < (U.2 1 2).toInt := by rw [on_I (by omega), hM]; omega
      obtain ⟨f1, -, -, -, -⟩ := find_t hr.2.2.1 ca
      obtain ⟨v, bv, V5, V6⟩ := uni wgt_w hr ca
      obtain ⟨S1, s1, s2⟩ := V5 S hr
      rw [f1, Option.bind_some, oC_s, s1, Option.bind_some]
      exact put S1 v (hr.fr s2 (FrT.refl U)) (s2.2.2.2.1 7 (by omega)) (by omega) ⟨fun _ => ⟨bv, V6⟩, fun hh => by omega⟩
    · have ca : ¬ (0 ≤ (Int32.ofNat x).toInt ∧ (Int32.ofNat x).toInt < (U.2 1 2).toInt) := by rw [on_I (by omega), hM]; omega
      obtain ⟨f1, -⟩ := find_f hr.2.2.1 ca
      rw [f1, Option.bind_some, oC_n]
      exact put S 0 hr rfl (by decide) ⟨fun hh => by omega, fun _ => rfl⟩
/-- who is not drawn yet, by the reference's bits -/
def bitb (m : Int32) (i : Nat) : Prop := ((m >>> (Int32.ofNat i &&& 31)) &&& 1) = 1
def MK (U : MS) (M : Nat) (m : Int32) (W : Nat → Int32) : Prop := ∀ i, i < M → (bitb m i ∧ W i = 0) ∨ (¬ bitb m i ∧ WtOk U i (W i))
theorem MK.b {U : MS} {M : Nat} {m : Int32} {W : Nat → Int32} (hk : MK U M m W) : ∀ i, i < M → 0 ≤ (W i).toInt ∧ (W i).toInt ≤ 549000 := fun i hi => by
  rcases hk i hi with ⟨-, e⟩ | ⟨-, e⟩
  · rw [e]; decide
  · have := e.1; omega
theorem but_l {U : MS} {M : Nat} (hM6 : M ≤ 6) (hM : U.2 1 2 = Int32.ofNat M) {m : Int32} {W : Nat → Int32} (hk : MK U M m W) : ∀ (k n x : Nat) (U' : MS) (acc : Int32), FrT U U' → x + k = M → k < n → acc.toInt = sumW W x → ∃ s U2, l_X6_sumBut_4 n U' m acc (Int32.ofNat x) = some (s, U2) ∧ FrT U U2 ∧ s.toInt = sumW W M := by
  intro k
  induction k with
  | zero =>
    intro n x U' acc hu hx hn ha
    obtain ⟨n, rfl⟩ : ∃ z, n = z + 1 := ⟨n - 1, by omega⟩
    have e : x = M := by omega
    subst e
    exact ⟨acc, U', by rw [l_X6_sumBut_4, hu.2 1 (by omega), hM, if_pos (by rw [i32_le]; omega)], hu, ha⟩
  | succ k ih =>
    intro n x U' acc hu hx hn ha
    obtain ⟨n, rfl⟩ : ∃ z, n = z + 1 := ⟨n - 1, by omega⟩
    have c : ¬ Int32.ofNat M ≤ Int32.ofNat x := by rw [i32_le, on_I (by omega), on_I (by omega)]; omega
    have bs := sumW_b (W := W) x (fun i hi => hk.b i (by omega))
    have bx := hk.b x (by omega)
    rw [l_X6_sumBut_4, hu.2 1 (by omega), hM, if_neg c, on_S]
    have es : sumW W (x + 1) = sumW W x + (W x).toInt := rfl
    rcases hk x (by omega) with ⟨e1, e2⟩ | ⟨e1, e2⟩
    · have e1 : ((m >>> (Int32.ofNat x &&& 31)) &&& 1) = 1 := e1
      rw [if_pos e1, Int32.add_zero]
      exact ih n (x + 1) U' acc hu (by omega) (by omega) (by rw [es, ha, e2]; show _ = _ + (0 : Int); omega)
    · have e1 : ¬ ((m >>> (Int32.ofNat x &&& 31)) &&& 1) = 1 := e1
      obtain ⟨U2, u1, u2⟩ := e2.2 U' hu
      rw [if_neg e1, u1, Option.bind_some]
      exact ih n (x + 1) U2 (acc + W x) (hu.trans u2) (by omega) (by omega) (by rw [i32_addI (by omega), ha, es])
theorem bit0 : ∀ i, i < 6 → ¬ bitb 0 i := by
  unfold bitb
  decide
theorem Rel_chance : P_chance Rel := by
  intro h lk S T a1 a2 hr
  have hr0 : Rel h lk S (mS T 0 0) := hr
  unfold f_X5_chance f_X6_chance
  generalize mS T 0 0 = U at *
  obtain ⟨M, hM6, hM, hMI⟩ := many hr0
  have g2 : cR S lk.1 2 = U.2 1 2 := hr0.2.2.1.1.2.2
  by_cases ca : 0 ≤ a1.toInt ∧ a1.toInt < (U.2 1 2).toInt
  · obtain ⟨f1, f2, f3, f4, f5⟩ := find_t hr0.2.2.1 ca
    rw [if_neg (by rw [i32_lt]; show ¬ _ < (0 : Int); omega), g2, if_neg (by rw [i32_le]; omega), if_pos (by rw [i32_lt]; exact f3), f2, if_pos rfl]
    obtain ⟨s, S', s1, s2, s3, s4⟩ := wall_l hMI 6 fu 0 S 0 hr0 (by omega) (by decide) rfl (fun i hi => by omega)
    have s1 : f_X5_weighAll h lk S = some (s, S') := s1
    have e1 : a1 = Int32.ofNat a1.toNatClampNeg := on_of ca.1 (by omega)
    have ha : a1.toNatClampNeg < M := by rw [i32_nc]; omega
    obtain ⟨U1, u1, u2⟩ := ((s4 _ (by omega)).1 ha).2 U (FrT.refl U)
    rw [← e1] at u1
    have hk : MK U M 0 (cA S' 7) := fun i hi => Or.inr ⟨bit0 i (by omega), (s4 i (by omega)).1 hi⟩
    obtain ⟨s', U2, b1, b2, b3⟩ := but_l hM6 hM hk M fu 0 U1 0 u2 (by omega) (by show _ < 10000; omega) rfl
    have b1 : f_X6_sumBut U1 0 = some (s', U2) := b1
    have es : s' = s := i32_ext (by rw [b3, s3, sumW_tail (m := M) 6 hM6 (fun i h1 h2 => (s4 i h2).2 h1)])
    subst es
    have bw := ((s4 _ (by omega)).1 ha).1
    have sb := sumW_b (W := cA S' 7) M hk.b
    obtain ⟨v, v1, v2, v3⟩ := div_l 22 fu fu 0 (cA S' 7 a1.toNatClampNeg) s' (by omega) (by omega) (by rw [b3]; have : (2 : Int) ^ 22 = 4194304 := rfl; omega) (by decide) (by decide) (by decide)
    have v1 : f_X5_greatestDivisor (cA S' 7 a1.toNatClampNeg) s' = some v := v1
    have v2 : f_X6_divisor (cA S' 7 a1.toNatClampNeg) s' = some v := v2
    have nv : ¬ v = 0 := fun e => by rw [e] at v3; exact absurd v3 (by decide)
    rw [s1, u1]
    simp only [Option.bind_some]
    rw [if_pos (ok_t ⟨ca.1, f3⟩), v1, b1]
    simp only [Option.bind_some]
    rw [v2, Option.bind_some, if_pos (show (1 : Int32) ≤ v from by rw [i32_le]; exact v3)]
    have hf : Rel h lk S' U2 := s2.fr (FrS.refl S') b2
    cases a2 with
    | true => rw [if_pos rfl, if_pos rfl, if_pos nv, if_pos nv]; exact ⟨_, _, rfl, rfl, rfl, hf⟩
    | false => rw [if_neg (show ¬ false = true by decide), if_neg (show ¬ false = true by decide), if_pos nv, if_pos nv]; exact ⟨_, _, rfl, rfl, rfl, hf⟩
  · obtain ⟨f1, f2, f3⟩ := noF (k := 0) hr0 ca
    rw [f2, if_neg (show ¬ false = true by decide)]
    refine ⟨(-1, S), (-1, U), ?_, rfl, rfl, hr0⟩
    by_cases c : a1 < 0
    · rw [if_pos c]
    · rw [if_neg c, g2, if_pos (by rw [i32_lt] at c; have c : ¬ a1.toInt < 0 := c; rw [i32_le]; omega)]
