theorem num_l {n s : Nat} : ∀ (k f f' p : Nat) (S : CS) (T : MS), By S T n → cF S 12 = Int32.ofNat p → T.1 8 = Int32.ofNat p → cF S 10 = Int32.ofNat s → cF S 11 = T.1 10 → p + k = n → k < f → k < f' → ∃ q S' T', p ≤ q ∧ q ≤ n ∧ l_X3_readNumber_5 f S = j_X3_readNumber_79 S' ∧ (∀ x1 x2 x3, l_X6_number_35 f' T x1 x2 x3 (Int32.ofNat s) = j_X6_number_120 T' x1 x2 x3 (Int32.ofNat s)) ∧ cF S' 12 = Int32.ofNat q ∧ cF S' 10 = Int32.ofNat s ∧ T'.1 8 = Int32.ofNat q ∧ cF S' 11 = T'.1 10 ∧ FrK S S' ∧ FrL T T' ∧ (p < n → f_X6_in (T.2 5 p) 48 57 = true → p < q) := by
  intro k
  induction k with
  | zero =>
    intro f f' p S T hB hS hT h10 h11 hp hf hf'
    obtain ⟨f, rfl⟩ : ∃ z, f = z + 1 := ⟨f - 1, by omega⟩
    obtain ⟨f', rfl⟩ : ∃ z, f' = z + 1 := ⟨f' - 1, by omega⟩
    have n4 := hB.1
    have e : p = n := by omega
    subst e
    refine ⟨p, S, T, Nat.le_refl _, Nat.le_refl _, ?_, fun x1 x2 x3 => ?_, hS, h10, hT, h11, FrK.refl S, FrL.refl T, fun hh => by omega⟩
    · rw [l_X3_readNumber_5, hB.2.1, hS, if_pos (by rw [i32_le]; omega)]
    · rw [l_X6_number_35, hB.2.2.1, hT, if_pos (by rw [i32_le]; omega)]
  | succ k ih =>
    intro f f' p S T hB hS hT h10 h11 hp hf hf'
    obtain ⟨f, rfl⟩ : ∃ z, f = z + 1 := ⟨f - 1, by omega⟩
    obtain ⟨f', rfl⟩ : ∃ z, f' = z + 1 := ⟨f' - 1, by omega⟩
    have n4 := hB.1
    have c1 : ¬ Int32.ofNat n ≤ Int32.ofNat p := by rw [i32_le, on_I (by omega), on_I (by omega)]; omega
    have o4 : ok (Int32.ofNat p) 400 := on_ok (by omega) (by omega)
    have L0 : l_X3_readNumber_5 (f + 1) S = if f_X6_in (T.2 5 p) 48 57 = true then (if 4 ≤ Int32.ofNat p - Int32.ofNat s then l_X3_readNumber_5 f (sF S 12 (Int32.ofNat (p + 1))) else l_X3_readNumber_5 f (sF (sF S 11 (((cF S 11 * 10) + T.2 5 p) - 48)) 12 (Int32.ofNat (p + 1)))) else j_X3_readNumber_79 S := by
      have e12 : ∀ x, cF (sF S 11 x) 12 = Int32.ofNat p := fun x => hS
      rw [l_X3_readNumber_5, hB.2.1, hS, if_neg c1, byteAt_t hB (by omega), Option.bind_some, Option.bind_some, digit_e, h10, e12, on_S]
    have M0 : ∀ x1 x2 x3, l_X6_number_35 (f' + 1) T x1 x2 x3 (Int32.ofNat s) = if f_X6_in (T.2 5 p) 48 57 = true then (if 4 ≤ Int32.ofNat p - Int32.ofNat s then l_X6_number_35 f' (mS (mS T 10 (T.1 10)) 8 (Int32.ofNat (p + 1))) x1 x2 x3 (Int32.ofNat s) else l_X6_number_35 f' (mS (mS T 10 (((10 * T.1 10) + T.2 5 p) - 48)) 8 (Int32.ofNat (p + 1))) x1 x2 x3 (Int32.ofNat s)) else j_X6_number_120 T x1 x2 x3 (Int32.ofNat s) := fun x1 x2 x3 => by
      have e8 : ∀ x, (mS T 10 x).1 8 = Int32.ofNat p := fun x => hT
      rw [l_X6_number_35, hB.2.2.1, hT, if_neg c1, if_pos o4, if_pos o4, on_N (by omega), e8, e8, on_S]
    by_cases b : f_X6_in (T.2 5 p) 48 57 = true
    · rw [if_pos b] at L0
      by_cases c4 : 4 ≤ Int32.ofNat p - Int32.ofNat s
      · rw [if_pos c4] at L0
        have K1 : FrK S (sF S 12 (Int32.ofNat (p + 1))) := (FrK.refl S).sF (by omega) _
        have L1 : FrL T (mS (mS T 10 (T.1 10)) 8 (Int32.ofNat (p + 1))) := ((FrL.refl T).mS (by omega) _).mS (by omega) _
        obtain ⟨q, S', T', g1, g2, g3, g4, g5, g6, g7, g8, g9, g10, g11⟩ := ih f f' (p + 1) _ _ (hB.fr K1 L1) rfl rfl h10 h11 (by omega) (by omega) (by omega)
        refine ⟨q, S', T', by omega, g2, L0.trans g3, fun x1 x2 x3 => ?_, g5, g6, g7, g8, K1.trans g9, L1.trans g10, fun _ _ => by omega⟩
        rw [M0, if_pos b, if_pos c4]; exact g4 x1 x2 x3
      · rw [if_neg c4] at L0
        have K1 : FrK S (sF (sF S 11 (((cF S 11 * 10) + T.2 5 p) - 48)) 12 (Int32.ofNat (p + 1))) := ((FrK.refl S).sF (by omega) _).sF (by omega) _
        have L1 : FrL T (mS (mS T 10 (((10 * T.1 10) + T.2 5 p) - 48)) 8 (Int32.ofNat (p + 1))) := ((FrL.refl T).mS (by omega) _).mS (by omega) _
        have ev : ((cF S 11 * 10) + T.2 5 p) - 48 = ((10 * T.1 10) + T.2 5 p) - 48 := by rw [h11, Int32.mul_comm]
        obtain ⟨q, S', T', g1, g2, g3, g4, g5, g6, g7, g8, g9, g10, g11⟩ := ih f f' (p + 1) _ _ (hB.fr K1 L1) rfl rfl h10 ev (by omega) (by omega) (by omega)
        refine ⟨q, S', T', by omega, g2, L0.trans g3, fun x1 x2 x3 => ?_, g5, g6, g7, g8, K1.trans g9, L1.trans g10, fun _ _ => by omega⟩
        rw [M0, if_pos b, if_neg c4]; exact g4 x1 x2 x3
    · rw [if_neg b] at L0
      exact ⟨p, S, T, Nat.le_refl _, by omega, L0, fun x1 x2 x3 => by rw [M0, if_neg b], hS, h10, hT, h11, FrK.refl S, FrL.refl T, fun _ hh => absurd hh b⟩
set_option maxHeartbeats 1000000 in
theorem tok_e {S : CS} {T : MS} {n p : Nat} (hB : By S T n) (hS : cF S 12 = Int32.ofNat p) (hT : T.1 8 = Int32.ofNat p) (hp : p ≤ n) : ∃ p' S' T', p ≤ p' ∧ p' ≤ n ∧ f_X3_readToken S = some S' ∧ f_X6_here T = some (if p' < n then T.2 5 p' else -1, T') ∧ f_X6_here T' = some (if p' < n then T.2 5 p' else -1, T') ∧ FrK S S' ∧ FrL T T' ∧ T'.1 8 = Int32.ofNat p' ∧ cF S' 10 = Int32.ofNat p' ∧ (
    (p' = n ∧ cF S' 9 = 0) ∨
    (p' < n ∧ f_X6_in (T.2 5 p') 97 122 = true ∧ cF S' 9 = 1 ∧ ∃ q code T2, p' < q ∧ q ≤ n ∧ cF S' 12 = Int32.ofNat q ∧ f_X6_readWord T' = some (code, T2) ∧ T2.1 8 = Int32.ofNat q ∧ T2.1 11 = Int32.ofNat p' ∧ FrL T' T2 ∧ (∀ i, p' ≤ i → i < q → 97 ≤ (T.2 5 i).toInt ∧ (T.2 5 i).toInt ≤ 122) ∧ (q - p' ≤ 7 → code.toInt = cdI (wf T p') (q - p')) ∧ (7 < q - p' → code = -1)) ∨
    (p' < n ∧ f_X6_in (T.2 5 p') 97 122 = false ∧ f_X6_in (T.2 5 p') 48 57 = true ∧ ∃ q T2, p' < q ∧ q ≤ n ∧ cF S' 12 = Int32.ofNat q ∧ cF S' 11 = T2.1 10 ∧ T2.1 8 = Int32.ofNat q ∧ FrL T' T2 ∧ (∀ x1 x2 x3, l_X6_number_35 fu (mS T' 10 0) x1 x2 x3 (Int32.ofNat p') = j_X6_number_120 T2 x1 x2 x3 (Int32.ofNat p')) ∧ cF S' 9 = if Int32.ofNat q - Int32.ofNat p' ≤ 4 then 2 else 4) ∨
    (p' < n ∧ f_X6_in (T.2 5 p') 97 122 = false ∧ f_X6_in (T.2 5 p') 48 57 = false ∧ T.2 5 p' = 59 ∧ cF S' 9 = 3 ∧ cF S' 12 = Int32.ofNat (p' + 1)) ∨
    (p' < n ∧ f_X6_in (T.2 5 p') 97 122 = false ∧ f_X6_in (T.2 5 p') 48 57 = false ∧ ¬ T.2 5 p' = 59 ∧ cF S' 9 = 4)) := by
  have n4 := hB.1
  obtain ⟨p', S1, T1, g1, g2, g3, g4, g5, g6, g7, g8, g9⟩ := skip_e (n - p) fu fu p S T hB hS hT (by omega) (by show _ < 10000; omega) (by show _ < 10000; omega)
  have g4 : f_X3_readToken S = j_X3_readToken_38 S1 := g4
  have g5 : f_X6_here T = some (if p' < n then T.2 5 p' else -1, T1) := g5
  have B1 := hB.fr g8 g9
  have t2 : T1.2 = T.2 := g9.1
  have h2 : f_X6_here T1 = some (if p' < n then T.2 5 p' else -1, T1) := by
    rw [← t2]
    exact here_at (f := 9999) B1 g7 g2 (by rw [t2]; exact g3)
  have K2 : FrK S1 (sF S1 10 (Int32.ofNat p')) := (FrK.refl S1).sF (by omega) _
  have B2 : By (sF S1 10 (Int32.ofNat p')) T1 n := B1.fr K2 (FrL.refl T1)
  have J : j_X3_readToken_38 S1 = (f_X3_byteAt (sF S1 10 (Int32.ofNat p')) (Int32.ofNat p')).bind fun q1 => if q1 = (-1) then (some (sF (sF S1 10 (Int32.ofNat p')) 9 0)) else (if (f_X6_in q1 97 122) = true then ((f_X3_readWord (sF S1 10 (Int32.ofNat p'))).bind fun q5 => some q5) else (if (f_X6_in q1 48 57) = true then ((f_X3_readNumber (sF S1 10 (Int32.ofNat p'))).bind fun q3 => some q3) else (if q1 = 59 then (some (sF (sF (sF S1 10 (Int32.ofNat p')) 9 3) 12 (Int32.ofNat (p' + 1)))) else (some (sF (sF (sF S1 10 (Int32.ofNat p')) 9 4) 12 (Int32.ofNat (p' + 1))))))) := by
    unfold j_X3_readToken_38
    have e12 : cF (sF S1 10 (Int32.ofNat p')) 12 = Int32.ofNat p' := g6
    have e13 : cF (sF (sF S1 10 (Int32.ofNat p')) 9 3) 12 = Int32.ofNat p' := g6
    have e14 : cF (sF (sF S1 10 (Int32.ofNat p')) 9 4) 12 = Int32.ofNat p' := g6
    rw [g6, e12, e13, e14, on_S]
    rfl
  rw [J] at g4
  by_cases c : p' < n
  · rw [byteAt_t B2 c, Option.bind_some, t2] at g4
    have bb := hB.b (i := p') (by omega)
    have n1 : ¬ T.2 5 p' = -1 := fun e => by rw [e] at bb; exact absurd bb.1 (by decide)
    rw [if_neg n1] at g4
    by_cases l : f_X6_in (T.2 5 p') 97 122 = true
    · rw [if_pos l] at g4
      have K3 : FrK S1 (sF (sF S1 10 (Int32.ofNat p')) 9 1) := K2.sF (by omega) _
      have L3 : FrL T1 (mS T1 11 (Int32.ofNat p')) := (FrL.refl T1).mS (by omega) _
      obtain ⟨q, S', T', code, w1, w2, w3, w4, w5, w6, w7, w8, w9, w10, w11, w12, w13, w14, w15⟩ := word_l (s := p') (n - p') fu fu p' (sF (sF S1 10 (Int32.ofNat p')) 9 1) (mS T1 11 (Int32.ofNat p')) 0 (B1.fr K3 L3) g6 g7 (Nat.le_refl _) (by omega) (by show _ < 10000; omega) (by show _ < 10000; omega) (fun i h1 h2 => by omega) (fun _ => by rw [Nat.sub_self]; rfl) (fun hh => by omega)
      rw [Nat.sub_self] at w4
      have tt : (mS T1 11 (Int32.ofNat p')).2 = T.2 := t2
      have ew : wf (mS T1 11 (Int32.ofNat p')) p' = wf T p' := by unfold wf; rw [tt]
      rw [ew] at w13
      rw [tt] at w12 w15
      have w3 : f_X3_readWord (sF S1 10 (Int32.ofNat p')) = some S' := w3
      rw [w3] at g4
      refine ⟨p', S', T1, g1, g2, g4, g5, h2, (g8.trans K3).trans w10, g9, g7, w6, Or.inr (Or.inl ⟨c, l, w7, q, code, T', w15 c l, w2, w5, ?_, w8, w9, L3.trans w11, w12, w13, w14⟩)⟩
      unfold f_X6_readWord
      rw [g7]; exact w4
    · have l' : f_X6_in (T.2 5 p') 97 122 = false := by rw [Bool.not_eq_true] at l; exact l
      rw [if_neg l] at g4
      by_cases d : f_X6_in (T.2 5 p') 48 57 = true
      · rw [if_pos d] at g4
        have K3 : FrK S1 (sF (sF S1 10 (Int32.ofNat p')) 11 0) := K2.sF (by omega) _
        have L3 : FrL T1 (mS T1 10 0) := (FrL.refl T1).mS (by omega) _
        obtain ⟨q, S', T', w1, w2, w3, w4, w5, w6, w7, w8, w9, w10, w11⟩ := num_l (s := p') (n - p') fu fu p' (sF (sF S1 10 (Int32.ofNat p')) 11 0) (mS T1 10 0) (B1.fr K3 L3) g6 g7 rfl rfl (by omega) (by show _ < 10000; omega) (by show _ < 10000; omega)
        have tt : (mS T1 10 0).2 = T.2 := t2
        rw [tt] at w11
        have w3 : f_X3_readNumber (sF S1 10 (Int32.ofNat p')) = j_X3_readNumber_79 S' := w3
        have j7 : j_X3_readNumber_79 S' = some (sF S' 9 (if Int32.ofNat q - Int32.ofNat p' ≤ 4 then 2 else 4)) := by
          unfold j_X3_readNumber_79
          rw [w5, w6]
          by_cases y : Int32.ofNat q - Int32.ofNat p' ≤ 4
          · rw [if_pos y, if_pos y]
          · rw [if_neg y, if_neg y]
        rw [w3, j7] at g4
        exact ⟨p', _, T1, g1, g2, g4, g5, h2, ((g8.trans K3).trans w9).sF (by omega) _, g9, g7, w6, Or.inr (Or.inr (Or.inl ⟨c, l', d, q, T', w11 c d, w2, w5, w8, w7, L3.trans w10, w4, rfl⟩))⟩
      · have d' : f_X6_in (T.2 5 p') 48 57 = false := by rw [Bool.not_eq_true] at d; exact d
        rw [if_neg d] at g4
        by_cases s : T.2 5 p' = 59
        · rw [if_pos s] at g4
          exact ⟨p', _, T1, g1, g2, g4, g5, h2, ((g8.trans K2).sF (by omega) _).sF (by omega) _, g9, g7, rfl, Or.inr (Or.inr (Or.inr (Or.inl ⟨c, l', d', s, rfl, rfl⟩)))⟩
        · rw [if_neg s] at g4
          exact ⟨p', _, T1, g1, g2, g4, g5, h2, ((g8.trans K2).sF (by omega) _).sF (by omega) _, g9, g7, rfl, Or.inr (Or.inr (Or.inr (Or.inr ⟨c, l', d', s, rfl⟩)))⟩
  · rw [byteAt_f B2 (by omega) (by omega), Option.bind_some, if_pos rfl] at g4
    exact ⟨p', _, T1, g1, g2, g4, g5, h2, (g8.trans K2).sF (by omega) _, g9, g7, rfl, Or.inl ⟨by omega, rfl⟩⟩
/-! which word it is -/
theorem wlen : ∀ i : Fin 8, f_J0_length_8abf5 i.1 = Int32.ofNat (cLen.getD i.1 0) ∧ 1 ≤ cLen.getD i.1 0 ∧ cLen.getD i.1 0 ≤ 7 := by decide
theorem wchr : ∀ i : Fin 8, ∀ t : Fin 7, t.1 < cLen.getD i.1 0 → (if (f_J0_isLatin1_aae02 i.1) = true then (((f_J0_checkIndex_df160 (Int32.ofNat t.1) (Int32.ofNat (cLen.getD i.1 0))).bind fun _ => if ok (Int32.ofNat t.1) (cLen.getD i.1 0) then some (((((cByt.getD i.1 []).getD (Int32.ofNat t.1).toNatClampNeg 0) &&& 255).toUInt32 % 65536).toInt32) else none).bind fun q1 => some q1) else none) = some ((cByt.getD i.1 []).getD t.1 0) ∧ 97 ≤ ((cByt.getD i.1 []).getD t.1 0).toInt ∧ ((cByt.getD i.1 []).getD t.1 0).toInt ≤ 122 := by decide +kernel
def Cw (i : Nat) : Int64 := [678890543, 14006, 47, 124988, 397838, 23170575, 3499582, 191706727].getD i 0
theorem wcode : ∀ i : Fin 8, (Cw i.1).toInt = cdI (fun t => ((cByt.getD i.1 []).getD t 0).toInt - 96) (cLen.getD i.1 0) ∧ ¬ Cw i.1 = -1 := by decide +kernel
theorem isw_l {S : CS} {T : MS} {n p i : Nat} (hi : i < 8) (hB : By S T n) (h10 : cF S 10 = Int32.ofNat p) (hp : p + cLen.getD i 0 ≤ n) : ∀ (k f t : Nat), t + k = cLen.getD i 0 → k < f → ∃ b, l_X3_isWord_28 i S f (Int32.ofNat t) = some b ∧ (b = true ↔ ∀ u, t ≤ u → u < cLen.getD i 0 → T.2 5 (p + u) = (cByt.getD i []).getD u 0) := by
  have n4 := hB.1
  obtain ⟨L1, L2, L3⟩ := wlen ⟨i, hi⟩
  have L1 : f_J0_length_8abf5 i = Int32.ofNat (cLen.getD i 0) := L1
  have L3 : cLen.getD i 0 ≤ 7 := L3
  intro k
  induction k with
  | zero =>
    intro f t ht hf
    obtain ⟨f, rfl⟩ : ∃ z, f = z + 1 := ⟨f - 1, by omega⟩
    refine ⟨true, ?_, fun _ u h1 h2 => by omega, fun _ => rfl⟩
    rw [l_X3_isWord_28, L1, if_pos (by rw [i32_le, on_I (by omega), on_I (by omega)]; omega)]
  | succ k ih =>
    intro f t ht hf
    obtain ⟨f, rfl⟩ : ∃ z, f = z + 1 := ⟨f - 1, by omega⟩
    have ch : f_J0_charAt_5068e S i (Int32.ofNat t) = some ((cByt.getD i []).getD t 0) := (wchr ⟨i, hi⟩ ⟨t, by omega⟩ (by show t < cLen.getD i 0; omega)).1
    have ba : f_X3_byteAt S (cF S 10 + Int32.ofNat t) = some (T.2 5 (p + t)) := by
      rw [h10, ← Int32.ofNat_add]
      exact byteAt_t hB (by omega)
    rw [l_X3_isWord_28, L1, if_neg (by rw [i32_le, on_I (by omega), on_I (by omega)]; omega), ba, Option.bind_some, ch, Option.bind_some, on_S]
    by_cases e : T.2 5 (p + t) = (cByt.getD i []).getD t 0
    · rw [if_pos e]
      obtain ⟨b, b1, b2⟩ := ih f (t + 1) (by omega) (by omega)
      refine ⟨b, b1, fun hb u h1 h2 => ?_, fun hh => b2.2 (fun u h1 h2 => hh u (by omega) h2)⟩
      by_cases c : u = t
      · subst c; exact e
      · exact b2.1 hb u (by omega) h2
    · rw [if_neg e]
      exact ⟨false, rfl, fun hh => absurd hh (by decide), fun hh => absurd (hh t (Nat.le_refl _) (by omega)) e⟩
theorem isw_e {S : CS} {T : MS} {n p q i : Nat} {code : Int64} (hi : i < 8) (hB : By S T n) (h9 : cF S 9 = 1) (h10 : cF S 10 = Int32.ofNat p) (h12 : cF S 12 = Int32.ofNat q) (hpq : p < q) (hq : q ≤ n) (hl : ∀ i, p ≤ i → i < q → 97 ≤ (T.2 5 i).toInt ∧ (T.2 5 i).toInt ≤ 122) (hc : q - p ≤ 7 → code.toInt = cdI (wf T p) (q - p)) (hc2 : 7 < q - p → code = -1) : ∃ b, f_X3_isWord S i = some b ∧ (b = true ↔ code = Cw i) := by
  have n4 := hB.1
  obtain ⟨L1, L2, L3⟩ := wlen ⟨i, hi⟩
  have L1 : f_J0_length_8abf5 i = Int32.ofNat (cLen.getD i 0) := L1
  have L3 : cLen.getD i 0 ≤ 7 := L3
  obtain ⟨W1, W2⟩ := wcode ⟨i, hi⟩
  have W1 : (Cw i).toInt = cdI (fun t => ((cByt.getD i []).getD t 0).toInt - 96) (cLen.getD i 0) := W1
  have W2 : ¬ Cw i = -1 := W2
  have hL : ∀ t, t < cLen.getD i 0 → 1 ≤ ((cByt.getD i []).getD t 0).toInt - 96 ∧ ((cByt.getD i []).getD t 0).toInt - 96 ≤ 26 := fun t ht => by
    have := (wchr ⟨i, hi⟩ ⟨t, by omega⟩ ht).2
    have h1 : 97 ≤ ((cByt.getD i []).getD t 0).toInt := this.1
    have h2 : ((cByt.getD i []).getD t 0).toInt ≤ 122 := this.2
    omega
  have hW : ∀ t, t < q - p → 1 ≤ wf T p t ∧ wf T p t ≤ 26 := fun t ht => by
    unfold wf; have := hl (p + t) (by omega) (by omega); omega
  have en : (Int32.ofNat q - Int32.ofNat p).toInt = (q : Int) - p := by rw [i32_subI (by rw [on_I (by omega), on_I (by omega)]; omega), on_I (by omega), on_I (by omega)]
  unfold f_X3_isWord
  rw [h9, if_pos rfl, h10, h12, L1]
  by_cases c : q - p = cLen.getD i 0
  · have c' : Int32.ofNat q - Int32.ofNat p = Int32.ofNat (cLen.getD i 0) := i32_ext (by rw [en, on_I (by omega)]; omega)
    rw [if_pos c']
    obtain ⟨b, b1, b2⟩ := isw_l hi hB h10 (by omega) (cLen.getD i 0) fu 0 (by omega) (by show _ < 10000; omega)
    refine ⟨b, b1, fun hb => ?_, fun hb => b2.2 (fun u h1 h2 => ?_)⟩
    · apply l64_ext
      rw [hc (by omega), W1, c]
      refine cdI_congr _ (fun t ht => ?_)
      unfold wf
      rw [b2.1 hb t (by omega) ht]
    · have e := hc (by omega)
      rw [hb, W1] at e
      have := (cdI_inj _ _ hL hW e).2 u h2
      unfold wf at this
      exact i32_ext (by omega)
  · have c' : ¬ Int32.ofNat q - Int32.ofNat p = Int32.ofNat (cLen.getD i 0) := fun e => c (by have := en; rw [e, on_I (by omega)] at this; omega)
    rw [if_neg c']
    refine ⟨false, rfl, fun hb => absurd hb (by decide), fun hb => ?_⟩
    by_cases c7 : q - p ≤ 7
    · have e := hc c7
      rw [hb, W1] at e
      exact absurd (cdI_inj _ _ hL hW e).1.symm c
    · exact absurd (hb.symm.trans (hc2 (by omega))) W2
theorem isw_n {S : CS} {i : Nat} (h9 : ¬ cF S 9 = 1) : f_X3_isWord S i = some false := by
  unfold f_X3_isWord
  rw [if_neg h9]
