/-! reading a text: what reading tokens leaves as it was -/
def FrK (S S' : CS) : Prop := cR S' = cR S ∧ cA S' = cA S ∧ cP S' = cP S ∧ cQ S' = cQ S ∧ ∀ k, k < 9 ∨ 13 ≤ k → cF S' k = cF S k
def FrL (T T' : MS) : Prop := T'.2 = T.2 ∧ ∀ k, k ≠ 8 → k ≠ 10 → k ≠ 11 → T'.1 k = T.1 k
theorem FrK.refl (S : CS) : FrK S S := ⟨rfl, rfl, rfl, rfl, fun _ _ => rfl⟩
theorem FrL.refl (T : MS) : FrL T T := ⟨rfl, fun _ _ _ _ => rfl⟩
theorem FrK.trans {S S' S2 : CS} (h : FrK S S') (g : FrK S' S2) : FrK S S2 := ⟨g.1.trans h.1, g.2.1.trans h.2.1, g.2.2.1.trans h.2.2.1, g.2.2.2.1.trans h.2.2.2.1, fun k hk => (g.2.2.2.2 k hk).trans (h.2.2.2.2 k hk)⟩
theorem FrL.trans {T T' T2 : MS} (h : FrL T T') (g : FrL T' T2) : FrL T T2 := ⟨g.1.trans h.1, fun k h1 h2 h3 => (g.2 k h1 h2 h3).trans (h.2 k h1 h2 h3)⟩
theorem FrK.sF {S S' : CS} (h : FrK S S') {k : Nat} (hk : 9 ≤ k ∧ k < 13) (v : Int32) : FrK S (sF S' k v) := ⟨h.1, h.2.1, h.2.2.1, h.2.2.2.1, fun k' hk' => by rw [cF_sF, if_neg (by omega)]; exact h.2.2.2.2 k' hk'⟩
theorem FrL.mS {T T' : MS} (h : FrL T T') {k : Nat} (hk : k = 8 ∨ k = 10 ∨ k = 11) (v : Int32) : FrL T (mS T' k v) := ⟨h.1, fun k' h1 h2 h3 => by rw [m1_mS, if_neg (by omega)]; exact h.2 k' h1 h2 h3⟩
/-- the tape of both sides -/
def By (S : CS) (T : MS) (n : Nat) : Prop := n ≤ 400 ∧ cF S 8 = Int32.ofNat n ∧ T.1 6 = Int32.ofNat n ∧ ∀ i, i < 400 → cA S 5 i &&& 255 = T.2 5 i
theorem By.fr {S S' : CS} {T T' : MS} {n : Nat} (h : By S T n) (hS : FrK S S') (hT : FrL T T') : By S' T' n := by
  unfold By
  rw [hS.2.2.2.2 8 (by omega), hS.2.1, hT.1, hT.2 6 (by omega) (by omega) (by omega)]
  exact h
theorem byte_b (x : Int32) : 0 ≤ (x &&& 255).toInt ∧ (x &&& 255).toInt ≤ 255 := by
  have e : (x &&& 255).toBitVec.toNat ≤ 255 := by
    rw [Int32.toBitVec_and, BitVec.toNat_and]
    exact Nat.and_le_right
  have e2 : (x &&& 255).toInt = (x &&& 255).toBitVec.toInt := rfl
  rw [e2, BitVec.toInt_eq_toNat_cond, if_pos (by omega)]
  omega
theorem By.b {S : CS} {T : MS} {n : Nat} (h : By S T n) {i : Nat} (hi : i < 400) : 0 ≤ (T.2 5 i).toInt ∧ (T.2 5 i).toInt ≤ 255 := by
  rw [← h.2.2.2 i hi]; exact byte_b _
theorem byteAt_t {S : CS} {T : MS} {n p : Nat} (h : By S T n) (hp : p < n) : f_X3_byteAt S (Int32.ofNat p) = some (T.2 5 p) := by
  have n4 := h.1
  unfold f_X3_byteAt
  rw [h.2.1, if_neg (by rw [i32_lt, on_I (by omega)]; show ¬ _ < (0 : Int); omega), if_neg (by rw [i32_le, on_I (by omega), on_I (by omega)]; omega), if_neg (by rw [i32_le, on_I (by omega)]; show ¬ (400 : Int) ≤ _; omega), if_pos (on_ok (by omega) (by omega)), on_N (by omega), h.2.2.2 p (by omega)]
theorem byteAt_f {S : CS} {T : MS} {n p : Nat} (h : By S T n) (hp : n ≤ p) (hp2 : p < 1000) : f_X3_byteAt S (Int32.ofNat p) = some (-1) := by
  have n4 := h.1
  unfold f_X3_byteAt
  rw [h.2.1, if_neg (by rw [i32_lt, on_I (by omega)]; show ¬ _ < (0 : Int); omega), if_pos (by rw [i32_le, on_I (by omega), on_I (by omega)]; omega)]
theorem blank_e {x : Int32} : f_X3_isBlank x = true ↔ (x = 32 ∨ x = 10) := by
  unfold f_X3_isBlank
  by_cases c1 : x = 32
  · rw [if_pos c1]; exact ⟨fun _ => Or.inl c1, fun _ => rfl⟩
  · rw [if_neg c1]
    by_cases c2 : x = 10
    · rw [if_pos c2]; exact ⟨fun _ => Or.inr c2, fun _ => rfl⟩
    · rw [if_neg c2]; exact ⟨fun hh => absurd hh (by decide), fun hh => hh.elim (fun e => absurd e c1) (fun e => absurd e c2)⟩
theorem letter_e {x : Int32} : f_X3_isLetter x = f_X6_in x 97 122 := rfl
theorem digit_e {x : Int32} : f_X3_isDigit x = f_X6_in x 48 57 := rfl
theorem here_at {S : CS} {T : MS} {n p f : Nat} (h : By S T n) (hp : T.1 8 = Int32.ofNat p) (hpn : p ≤ n) (hb : p < n → ¬ (T.2 5 p = 32 ∨ T.2 5 p = 10)) : l_X6_here_0 (f + 1) T = some (if p < n then T.2 5 p else -1, T) := by
  have n4 := h.1
  rw [l_X6_here_0, h.2.2.1, hp]
  by_cases c : p < n
  · have c1 : ¬ Int32.ofNat n ≤ Int32.ofNat p := by rw [i32_le, on_I (by omega), on_I (by omega)]; omega
    have o4 : ok (Int32.ofNat p) 400 := on_ok (by omega) (by omega)
    have nb := hb c
    rw [if_neg c1, if_pos o4, if_pos o4, if_neg c1, if_pos o4, on_N (by omega), if_neg (fun e => nb (Or.inl e)), if_neg (fun e => nb (Or.inr e)), if_pos c]
  · have c1 : Int32.ofNat n ≤ Int32.ofNat p := by rw [i32_le, on_I (by omega), on_I (by omega)]; omega
    rw [if_pos c1, if_pos c1, if_neg c]
theorem skip_e {n : Nat} : ∀ (k f f' p : Nat) (S : CS) (T : MS), By S T n → cF S 12 = Int32.ofNat p → T.1 8 = Int32.ofNat p → p + k = n → k < f → k < f' → ∃ p' S' T', p ≤ p' ∧ p' ≤ n ∧ (p' < n → ¬ (T.2 5 p' = 32 ∨ T.2 5 p' = 10)) ∧ l_X3_readToken_0 f S = j_X3_readToken_38 S' ∧ l_X6_here_0 f' T = some (if p' < n then T.2 5 p' else -1, T') ∧ cF S' 12 = Int32.ofNat p' ∧ T'.1 8 = Int32.ofNat p' ∧ FrK S S' ∧ FrL T T' := by
  intro k
  induction k with
  | zero =>
    intro f f' p S T hB hS hT hp hf hf'
    obtain ⟨f, rfl⟩ : ∃ z, f = z + 1 := ⟨f - 1, by omega⟩
    obtain ⟨f', rfl⟩ : ∃ z, f' = z + 1 := ⟨f' - 1, by omega⟩
    have n4 := hB.1
    have e : p = n := by omega
    subst e
    refine ⟨p, S, T, Nat.le_refl _, Nat.le_refl _, fun hh => by omega, ?_, here_at hB hT (Nat.le_refl _) (fun hh => by omega), hS, hT, FrK.refl S, FrL.refl T⟩
    rw [l_X3_readToken_0, hB.2.1, hS, if_pos (by rw [i32_le]; omega)]
  | succ k ih =>
    intro f f' p S T hB hS hT hp hf hf'
    obtain ⟨f, rfl⟩ : ∃ z, f = z + 1 := ⟨f - 1, by omega⟩
    obtain ⟨f', rfl⟩ : ∃ z, f' = z + 1 := ⟨f' - 1, by omega⟩
    have n4 := hB.1
    have c1 : ¬ Int32.ofNat n ≤ Int32.ofNat p := by rw [i32_le, on_I (by omega), on_I (by omega)]; omega
    have o4 : ok (Int32.ofNat p) 400 := on_ok (by omega) (by omega)
    by_cases b : T.2 5 p = 32 ∨ T.2 5 p = 10
    · have K1 : FrK S (sF S 12 (Int32.ofNat (p + 1))) := (FrK.refl S).sF (by omega) _
      have L1 : FrL T (mS T 8 (Int32.ofNat (p + 1))) := (FrL.refl T).mS (by omega) _
      obtain ⟨p', S', T', g1, g2, g3, g4, g5, g6, g7, g8, g9⟩ := ih f f' (p + 1) _ _ (hB.fr K1 L1) rfl rfl (by omega) (by omega) (by omega)
      refine ⟨p', S', T', by omega, g2, g3, ?_, ?_, g6, g7, K1.trans g8, L1.trans g9⟩
      · rw [l_X3_readToken_0, hB.2.1, hS, if_neg c1, byteAt_t hB (by omega), Option.bind_some, if_pos (blank_e.2 b), on_S]
        exact g4
      · rw [l_X6_here_0, hB.2.2.1, hT, if_neg c1, if_pos o4, if_pos o4, if_neg c1, if_pos o4, on_N (by omega), on_S]
        rcases b with b | b
        · rw [if_pos b]; exact g5
        · by_cases b2 : T.2 5 p = 32
          · rw [if_pos b2]; exact g5
          · rw [if_neg b2, if_pos b]; exact g5
    · refine ⟨p, S, T, Nat.le_refl _, by omega, fun _ => b, ?_, here_at hB hT (by omega) (fun _ => b), hS, hT, FrK.refl S, FrL.refl T⟩
      rw [l_X3_readToken_0, hB.2.1, hS, if_neg c1, byteAt_t hB (by omega), Option.bind_some, if_neg (fun hh => b (blank_e.1 hh))]
/-! words as numbers to the base 27 -/
def cdI (f : Nat → Int) : Nat → Int
  | 0 => 0
  | k + 1 => cdI f k * 27 + f k
theorem cdI_b {f : Nat → Int} : ∀ k, (∀ i, i < k → 1 ≤ f i ∧ f i ≤ 26) → 0 ≤ cdI f k ∧ cdI f k < 27 ^ k ∧ (0 < k → 0 < cdI f k) := by
  intro k
  induction k with
  | zero => intro _; exact ⟨Int.le_refl _, by show (0 : Int) < 1; omega, fun hh => by omega⟩
  | succ k ih =>
    intro hh
    have h1 := ih (fun i hi => hh i (by omega))
    have h2 := hh k (by omega)
    have e : cdI f (k + 1) = cdI f k * 27 + f k := rfl
    have e2 : (27 : Int) ^ (k + 1) = 27 ^ k * 27 := by rw [Int.pow_succ]
    refine ⟨by omega, by omega, fun _ => by omega⟩
theorem cdI_inj {f g : Nat → Int} : ∀ k l, (∀ i, i < k → 1 ≤ f i ∧ f i ≤ 26) → (∀ i, i < l → 1 ≤ g i ∧ g i ≤ 26) → cdI f k = cdI g l → k = l ∧ ∀ i, i < k → f i = g i := by
  intro k
  induction k with
  | zero =>
    intro l hf hg e
    have := (cdI_b l hg).2.2
    have e0 : cdI f 0 = 0 := rfl
    refine ⟨?_, fun i hi => by omega⟩
    rcases Nat.eq_zero_or_pos l with z | z
    · exact z.symm
    · have := this z; omega
  | succ k ih =>
    intro l hf hg e
    rcases Nat.eq_zero_or_pos l with z | z
    · subst z
      have := (cdI_b (k + 1) hf).2.2 (by omega)
      have e0 : cdI g 0 = 0 := rfl
      omega
    · obtain ⟨l, rfl⟩ : ∃ z, l = z + 1 := ⟨l - 1, by omega⟩
      have e1 : cdI f (k + 1) = cdI f k * 27 + f k := rfl
      have e2 : cdI g (l + 1) = cdI g l * 27 + g l := rfl
      have b1 := hf k (by omega)
      have b2 := hg l (by omega)
      obtain ⟨q1, q2⟩ := ih l (fun i hi => hf i (by omega)) (fun i hi => hg i (by omega)) (by omega)
      subst q1
      refine ⟨rfl, fun i hi => ?_⟩
      by_cases c : i = k
      · subst c; omega
      · exact q2 i (by omega)
theorem cdI_congr {f g : Nat → Int} : ∀ k, (∀ i, i < k → f i = g i) → cdI f k = cdI g k := by
  intro k
  induction k with
  | zero => intro _; rfl
  | succ k ih =>
    intro hh
    show cdI f k * 27 + f k = cdI g k * 27 + g k
    rw [ih (fun i hi => hh i (by omega)), hh k (by omega)]
theorem p27 : ∀ k : Fin 7, (27 : Int) ^ k.1 ≤ 387420489 := by decide
def wf (T : MS) (s : Nat) (i : Nat) : Int := (T.2 5 (s + i)).toInt - 96
theorem word_l {n s : Nat} : ∀ (k f f' p : Nat) (S : CS) (T : MS) (x1 : Int64), By S T n → cF S 12 = Int32.ofNat p → T.1 8 = Int32.ofNat p → s ≤ p → p + k = n → k < f → k < f' → (∀ i, s ≤ i → i < p → 97 ≤ (T.2 5 i).toInt ∧ (T.2 5 i).toInt ≤ 122) → (p - s ≤ 7 → x1.toInt = cdI (wf T s) (p - s)) → (7 < p - s → x1 = -1) → ∃ q S' T' code, p ≤ q ∧ q ≤ n ∧ l_X3_readWord_5 f S = some S' ∧ l_X6_readWord_12 f' T x1 (Int32.ofNat (p - s)) = some (code, T') ∧ cF S' 12 = Int32.ofNat q ∧ cF S' 10 = cF S 10 ∧ cF S' 9 = cF S 9 ∧ T'.1 8 = Int32.ofNat q ∧ T'.1 11 = T.1 11 ∧ FrK S S' ∧ FrL T T' ∧ (∀ i, s ≤ i → i < q → 97 ≤ (T.2 5 i).toInt ∧ (T.2 5 i).toInt ≤ 122) ∧ (q - s ≤ 7 → code.toInt = cdI (wf T s) (q - s)) ∧ (7 < q - s → code = -1) ∧ (p < n → f_X6_in (T.2 5 p) 97 122 = true → p < q) := by
  intro k
  induction k with
  | zero =>
    intro f f' p S T x1 hB hS hT hs hp hf hf' hl h7 h8
    obtain ⟨f, rfl⟩ : ∃ z, f = z + 1 := ⟨f - 1, by omega⟩
    obtain ⟨f', rfl⟩ : ∃ z, f' = z + 1 := ⟨f' - 1, by omega⟩
    have n4 := hB.1
    have e : p = n := by omega
    subst e
    refine ⟨p, S, T, x1, Nat.le_refl _, Nat.le_refl _, ?_, ?_, hS, rfl, rfl, hT, rfl, FrK.refl S, FrL.refl T, hl, h7, h8, fun hh => by omega⟩
    · rw [l_X3_readWord_5, hB.2.1, hS, if_pos (by rw [i32_le]; omega)]
    · rw [l_X6_readWord_12, hB.2.2.1, hT, if_pos (by rw [i32_le]; omega)]
  | succ k ih =>
    intro f f' p S T x1 hB hS hT hs hp hf hf' hl h7 h8
    obtain ⟨f, rfl⟩ : ∃ z, f = z + 1 := ⟨f - 1, by omega⟩
    obtain ⟨f', rfl⟩ : ∃ z, f' = z + 1 := ⟨f' - 1, by omega⟩
    have n4 := hB.1
    have c1 : ¬ Int32.ofNat n ≤ Int32.ofNat p := by rw [i32_le, on_I (by omega), on_I (by omega)]; omega
    have o4 : ok (Int32.ofNat p) 400 := on_ok (by omega) (by omega)
    rw [l_X3_readWord_5, hB.2.1, hS, if_neg c1, byteAt_t hB (by omega), Option.bind_some, letter_e, on_S, l_X6_readWord_12, hB.2.2.1, hT, if_neg c1, if_pos o4, if_pos o4, on_N (by omega), on_S, on_S]
    by_cases b : 97 ≤ (T.2 5 p).toInt ∧ (T.2 5 p).toInt ≤ 122
    · have bi : f_X6_in (T.2 5 p) 97 122 = true := in_t (a := 97) (b := 122) b
      rw [if_pos bi, if_pos bi]
      have K1 : FrK S (sF S 12 (Int32.ofNat (p + 1))) := (FrK.refl S).sF (by omega) _
      have L1 : FrL T (mS T 8 (Int32.ofNat (p + 1))) := (FrL.refl T).mS (by omega) _
      have hl2 : ∀ i, s ≤ i → i < p + 1 → 97 ≤ (T.2 5 i).toInt ∧ (T.2 5 i).toInt ≤ 122 := fun i h1 h2 => by
        by_cases c : i = p
        · subst c; exact b
        · exact hl i h1 (by omega)
      have ps : p + 1 - s = (p - s) + 1 := by omega
      have key : ∃ x', (if (7 : Int32) ≤ Int32.ofNat (p - s) then l_X6_readWord_12 f' (mS T 8 (Int32.ofNat (p + 1))) (-1) (Int32.ofNat (p - s + 1)) else l_X6_readWord_12 f' (mS T 8 (Int32.ofNat (p + 1))) (((x1 * 27) + (T.2 5 p).toInt64) - 96) (Int32.ofNat (p - s + 1))) = l_X6_readWord_12 f' (mS T 8 (Int32.ofNat (p + 1))) x' (Int32.ofNat (p + 1 - s)) ∧ (p + 1 - s ≤ 7 → x'.toInt = cdI (wf T s) (p + 1 - s)) ∧ (7 < p + 1 - s → x' = -1) := by
        rw [ps]
        by_cases c7 : 7 ≤ p - s
        · rw [if_pos (by rw [i32_le, on_I (by omega)]; show (7 : Int) ≤ _; omega)]
          exact ⟨-1, rfl, fun hh => by omega, fun _ => rfl⟩
        · rw [if_neg (by rw [i32_le, on_I (by omega)]; show ¬ (7 : Int) ≤ _; omega)]
          refine ⟨_, rfl, fun _ => ?_, fun hh => by omega⟩
          have hx := h7 (by omega)
          have bb := cdI_b (f := wf T s) (p - s) (fun i hi => by unfold wf; have := hl (s + i) (by omega) (by omega); omega)
          have pw := p27 ⟨p - s, by omega⟩
          have pw : (27 : Int) ^ (p - s) ≤ 387420489 := pw
          have e1 : (x1 * 27).toInt = x1.toInt * 27 := by
            rw [Int64.toInt_mul, show (27 : Int64).toInt = 27 from rfl, Int.bmod_eq_of_le (by omega) (by omega)]
          have e2 : (x1 * 27 + (T.2 5 p).toInt64).toInt = x1.toInt * 27 + (T.2 5 p).toInt := by
            rw [l64_addI (by rw [e1, to64]; omega), e1, to64]
          rw [l64_subI (by rw [e2]; show _ ≤ _ - (96 : Int) ∧ _ - (96 : Int) ≤ _; omega), e2, hx]
          show _ - (96 : Int) = cdI (wf T s) (p - s) * 27 + wf T s (p - s)
          unfold wf
          rw [show s + (p - s) = p from by omega]
          omega
      obtain ⟨x', k1, k2, k3⟩ := key
      obtain ⟨q, S', T', code, g1, g2, g3, g4, g5, g6, g7, g8, g9, g10, g11, g12, g13, g14, g15⟩ := ih f f' (p + 1) _ _ x' (hB.fr K1 L1) rfl rfl (by omega) (by omega) (by omega) (by omega) hl2 k2 k3
      refine ⟨q, S', T', code, by omega, g2, g3, ?_, g5, g6, g7, g8, g9, K1.trans g10, L1.trans g11, g12, g13, g14, fun _ _ => by omega⟩
      exact k1.trans g4
    · have bi : ¬ f_X6_in (T.2 5 p) 97 122 = true := by rw [in_f (a := 97) (b := 122) b]; decide
      rw [if_neg bi, if_neg bi]
      exact ⟨p, S, T, x1, Nat.le_refl _, by omega, rfl, rfl, hS, rfl, rfl, hT, rfl, FrK.refl S, FrL.refl T, hl, h7, h8, fun _ hh => absurd hh bi⟩
