/-! the relation while a text is read: r is live, r2 is kept; n bytes, c statements done, place p -/
def Bs (h : Nat → Bool) (r2 : Nat) (S : CS) (T : MS) : Prop := RgRel h r2 S (T.2 2) ∧ (∀ i, i < 400 → cA S 5 i &&& 255 = T.2 5 i) ∧ (∀ k, k < 6 → T.2 3 k = cTab 0 k ∧ T.2 4 k = cTab 1 k) ∧ (cF S 14 = 0 ∨ cF S 14 = 1)
def PR (h : Nat → Bool) (r r2 n c p : Nat) (S : CS) (T : MS) : Prop := (r < 2 ∧ r2 < 2 ∧ r2 ≠ r) ∧ Bs h r2 S T ∧ RgRel h r S (T.2 1) ∧ By S T n ∧ (cF S 13 = 0 ∧ T.1 9 = 0) ∧ T.1 12 = Int32.ofNat c ∧ cF S 12 = Int32.ofNat p ∧ T.1 8 = Int32.ofNat p ∧ p ≤ n
def Bad (h : Nat → Bool) (r2 : Nat) (S : CS) (T : MS) : Prop := Bs h r2 S T ∧ cF S 13 = T.1 9 ∧ ¬ cF S 13 = 0
theorem RgRel.k {h : Nat → Bool} {r : Nat} {S S' : CS} {w : Nat → Int32} (hg : RgRel h r S w) (hk : FrK S S') : RgRel h r S' w := hg.congr hk.1 (congrFun hk.2.1 r) hk.2.2.1 hk.2.2.2.1
theorem Bs.fr {h : Nat → Bool} {r2 : Nat} {S S' : CS} {T T' : MS} (b : Bs h r2 S T) (hS : FrK S S') (hT : FrL T T') : Bs h r2 S' T' := by
  obtain ⟨b1, b2, b3, b4⟩ := b
  refine ⟨by rw [hT.1]; exact b1.k hS, by rw [hS.2.1, hT.1]; exact b2, by rw [hT.1]; exact b3, by rw [hS.2.2.2.2 14 (by omega)]; exact b4⟩
theorem PR.fr {h : Nat → Bool} {r r2 n c p q : Nat} {S S' : CS} {T T' : MS} (b : PR h r r2 n c p S T) (hS : FrK S S') (hT : FrL T T') (h1 : cF S' 12 = Int32.ofNat q) (h2 : T'.1 8 = Int32.ofNat q) (h3 : q ≤ n) : PR h r r2 n c q S' T' := by
  obtain ⟨b1, b2, b3, b4, b5, b6, -⟩ := b
  refine ⟨b1, b2.fr hS hT, by rw [hT.1]; exact b3.k hS, b4.fr hS hT, ⟨by rw [hS.2.2.2.2 13 (by omega)]; exact b5.1, by rw [hT.2 9 (by omega) (by omega) (by omega)]; exact b5.2⟩, by rw [hT.2 12 (by omega) (by omega) (by omega)]; exact b6, h1, h2, h3⟩
theorem bad_e {h : Nat → Bool} {r2 p : Nat} {S : CS} {T : MS} {k : Int32} (b : Bs h r2 S T) (hk : 1 ≤ k.toInt ∧ k.toInt ≤ 3) (hp : p ≤ 400) : Bad h r2 (sF S 13 (k + 8 * Int32.ofNat p)) (mS T 9 (k + 8 * Int32.ofNat p)) := by
  have e1 : (8 * Int32.ofNat p).toInt = 8 * (p : Int) := by
    rw [i32_mulI (x := 8) (by rw [on_I (by omega)]; show _ ≤ (8 : Int) * _ ∧ (8 : Int) * _ ≤ _; omega), on_I (by omega)]; rfl
  have e2 : (k + 8 * Int32.ofNat p).toInt = k.toInt + 8 * (p : Int) := by rw [i32_addI (by rw [e1]; omega), e1]
  refine ⟨⟨b.1.congr rfl rfl rfl rfl, b.2.1, b.2.2.1, b.2.2.2⟩, rfl, fun e => ?_⟩
  have e : k + 8 * Int32.ofNat p = 0 := e
  rw [e] at e2
  have z : (0 : Int32).toInt = 0 := rfl
  omega
theorem let_dig {x : Int32} (h : f_X6_in x 97 122 = true) : f_X6_in x 48 57 = false ∧ ¬ x = 59 := by
  have b : 97 ≤ x.toInt := by
    by_cases c : 97 ≤ x.toInt ∧ x.toInt ≤ 122
    · exact c.1
    · rw [in_f (a := 97) (b := 122) c] at h; exact absurd h (by decide)
  refine ⟨in_f (a := 48) (b := 57) (by show ¬ ((48 : Int) ≤ _ ∧ _ ≤ (57 : Int)); omega), fun e => ?_⟩
  rw [e] at b; exact absurd b (by decide)
/-- one number of a statement, on both sides -/
theorem num1 {h : Nat → Bool} {r r2 n c p k f : Nat} {S : CS} {T : MS} {fm mm lo hi : Int32} (P : PR h r r2 n c p S T) (hk : k < 5) (hm : (k : Int) < mm.toInt) (hcan : ∀ S1, FrK S S1 → ∀ v, f_X4_canBeNumber h S1 r fm (Int32.ofNat k) v = some (f_X6_in v lo hi)) : (∃ S2 T2, l_X4_readNumbers_9 h r (f + 1) S fm mm (Int32.ofNat k) = some (false, S2) ∧ f_X6_number T (Int32.ofNat k) lo hi = some (false, T2) ∧ Bad h r2 S2 T2) ∨ ∃ S2 T2 q v, l_X4_readNumbers_9 h r (f + 1) S fm mm (Int32.ofNat k) = l_X4_readNumbers_9 h r f S2 fm mm (Int32.ofNat (k + 1)) ∧ f_X6_number T (Int32.ofNat k) lo hi = some (true, T2) ∧ PR h r r2 n c q S2 T2 ∧ p ≤ q ∧ f_X6_in v lo hi = true ∧ cA S2 6 = upd (cA S 6) k v ∧ T2.2 13 = upd (T.2 13) k v ∧ T2.2 1 = T.2 1 ∧ T2.2 3 = T.2 3 ∧ T2.2 4 = T.2 4 ∧ cF S2 14 = cF S 14 := by
  obtain ⟨b1, b2, b3, b4, b5, b6, b7, b8, b9⟩ := id P
  have n4 := b4.1
  obtain ⟨p', S', T', g1, g2, g3, g4, g5, g6, g7, g8, g9, g10⟩ := tok_e b4 b7 b8 b9
  have c1 : ¬ mm ≤ Int32.ofNat k := by rw [i32_le, on_I (by omega)]; omega
  have c2 : ¬ (5 : Int32) ≤ Int32.ofNat k := by rw [i32_le, on_I (by omega)]; show ¬ (5 : Int) ≤ _; omega
  have L : l_X4_readNumbers_9 h r (f + 1) S fm mm (Int32.ofNat k) = if cF S' 9 = 2 then (if f_X6_in (cF S' 11) lo hi = true then l_X4_readNumbers_9 h r f (sA S' 6 k (cF S' 11)) fm mm (Int32.ofNat (k + 1)) else some (false, sF S' 13 (2 + 8 * Int32.ofNat p'))) else some (false, sF S' 13 (1 + 8 * Int32.ofNat p')) := by
    rw [l_X4_readNumbers_9, if_neg c1, if_neg c2, g3, Option.bind_some, hcan S' g6, Option.bind_some, if_pos (on_ok hk (by omega)), on_N (by omega), on_S, g9]
    rfl
  have N : f_X6_number T (Int32.ofNat k) lo hi = if f_X6_in (if p' < n then T.2 5 p' else -1) 48 57 = true then l_X6_number_35 fu (mS T' 10 0) (Int32.ofNat k) lo hi (Int32.ofNat p') else some (false, mS T' 9 (1 + 8 * Int32.ofNat p')) := by
    unfold f_X6_number
    rw [g4, Option.bind_some]
    show (if f_X6_in (if p' < n then T.2 5 p' else -1) 48 57 = true then l_X6_number_35 fu (mS T' 10 0) (Int32.ofNat k) lo hi (T'.1 8) else some ((f_X6_wrong T' 1 (T'.1 8)).1, (f_X6_wrong T' 1 (T'.1 8)).2)) = _
    rw [g8]
    rfl
  have Bs' : Bs h r2 S' T' := b2.fr g6 g7
  have no : ¬ cF S' 9 = 2 → f_X6_in (if p' < n then T.2 5 p' else -1) 48 57 = false → (∃ S2 T2, l_X4_readNumbers_9 h r (f + 1) S fm mm (Int32.ofNat k) = some (false, S2) ∧ f_X6_number T (Int32.ofNat k) lo hi = some (false, T2) ∧ Bad h r2 S2 T2) := fun k1 k2 => by
    refine ⟨_, _, by rw [L, if_neg k1], by rw [N, k2, if_neg (show ¬ false = true by decide)], bad_e Bs' (by decide) (by omega)⟩
  rcases g10 with ⟨e1, e2⟩ | ⟨e1, e2, e3, -⟩ | ⟨e1, e2, e3, q, T2, q1, q2, q3, q4, q5, q6, q7, q8⟩ | ⟨e1, e2, e3, e4, e5, e6⟩ | ⟨e1, e2, e3, e4, e5⟩
  · left
    exact no (by rw [e2]; decide) (by rw [if_neg (by omega)]; decide)
  · left
    exact no (by rw [e3]; decide) (by rw [if_pos e1]; exact (let_dig e2).1)
  · rw [if_pos e1, e3, if_pos rfl, q7] at N
    have J : j_X6_number_120 T2 (Int32.ofNat k) lo hi (Int32.ofNat p') = if Int32.ofNat q - Int32.ofNat p' ≤ 4 then (if f_X6_in (T2.1 10) lo hi = true then some (true, mA T2 13 k (T2.1 10)) else some (false, mS (mA T2 13 k (T2.1 10)) 9 (2 + 8 * Int32.ofNat p'))) else some (false, mS T2 9 (1 + 8 * Int32.ofNat p')) := by
      unfold j_X6_number_120
      rw [q5, if_pos (on_ok (by omega) (by omega)), on_N (by omega)]
      rfl
    rw [J] at N
    have FT : FrL T T2 := g7.trans q6
    by_cases y : Int32.ofNat q - Int32.ofNat p' ≤ 4
    · rw [if_pos y] at N q8
      rw [q8, if_pos rfl, q4] at L
      by_cases z : f_X6_in (T2.1 10) lo hi = true
      · right
        rw [if_pos z] at N L
        have P2 := P.fr (q := q) g6 FT q3 q5 q2
        obtain ⟨d1, d2, d3, d4, d5, d6, d7, d8, d9⟩ := P2
        have A : ∀ i, i ≠ 6 → cA (sA S' 6 k (T2.1 10)) i = cA S' i := fun i hi => by rw [cA_sA, if_neg hi]
        have M : ∀ i, i ≠ 13 → (mA T2 13 k (T2.1 10)).2 i = T2.2 i := fun i hi => by rw [m2_mA, if_neg hi]
        refine ⟨_, _, q, T2.1 10, L, N, ⟨d1, ⟨?_, ?_, ?_, d2.2.2.2⟩, ?_, ⟨d4.1, d4.2.1, d4.2.2.1, ?_⟩, d5, d6, d7, d8, d9⟩, by omega, z, ?_, ?_, ?_, ?_, ?_, ?_⟩
        · rw [M 2 (by omega)]; exact RgRel.congr (S := S') rfl (A r2 (by omega)) rfl rfl d2.1
        · rw [M 5 (by omega), A 5 (by omega)]; exact d2.2.1
        · rw [M 3 (by omega), M 4 (by omega)]; exact d2.2.2.1
        · rw [M 1 (by omega)]; exact RgRel.congr (S := S') rfl (A r (by omega)) rfl rfl d3
        · rw [M 5 (by omega), A 5 (by omega)]; exact d4.2.2.2
        · rw [cA_sA, if_pos rfl, g6.2.1]
        · rw [m2_mA, if_pos rfl, FT.1]
        · rw [M 1 (by omega), FT.1]
        · rw [M 3 (by omega), FT.1]
        · rw [M 4 (by omega), FT.1]
        · exact g6.2.2.2.2 14 (by omega)
      · left
        rw [if_neg z] at N L
        have B3 : Bs h r2 S' (mA T2 13 k (T2.1 10)) := by
          have B4 := b2.fr g6 FT
          refine ⟨?_, ?_, ?_, B4.2.2.2⟩
          · rw [m2_mA, if_neg (by decide)]; exact B4.1
          · rw [m2_mA, if_neg (by decide)]; exact B4.2.1
          · rw [m2_mA, if_neg (by decide), m2_mA, if_neg (by decide)]; exact B4.2.2.1
        exact ⟨_, _, L, N, bad_e B3 (by decide) (by omega)⟩
    · left
      rw [if_neg y] at N q8
      rw [q8, if_neg (by decide)] at L
      exact ⟨_, _, L, N, bad_e (b2.fr g6 FT) (by decide) (by omega)⟩
  · left
    exact no (by rw [e5]; decide) (by rw [if_pos e1]; exact e3)
  · left
    exact no (by rw [e5]; decide) (by rw [if_pos e1]; exact e3)
/-- the end of a statement, on both sides -/
theorem semi_e {h : Nat → Bool} {r r2 n c p : Nat} {S : CS} {T : MS} (P : PR h r r2 n c p S T) : ∃ S' T' ch, f_X3_readToken S = some S' ∧ f_X6_here T = some (ch, T') ∧ ((cF S' 9 = 3 ∧ ch = 59 ∧ (∃ q, p ≤ q ∧ PR h r r2 n c q S' (mS T' 8 (T'.1 8 + 1))) ∧ FrK S S' ∧ FrL T T') ∨ (¬ cF S' 9 = 3 ∧ ¬ ch = 59 ∧ Bad h r2 (sF S' 13 (1 + 8 * cF S' 10)) (mS T' 9 (1 + 8 * T'.1 8)))) := by
  obtain ⟨b1, b2, b3, b4, b5, b6, b7, b8, b9⟩ := id P
  have n4 := b4.1
  obtain ⟨p', S', T', g1, g2, g3, g4, g5, g6, g7, g8, g9, g10⟩ := tok_e b4 b7 b8 b9
  refine ⟨S', T', _, g3, g4, ?_⟩
  have bd : Bad h r2 (sF S' 13 (1 + 8 * cF S' 10)) (mS T' 9 (1 + 8 * T'.1 8)) := by
    rw [g8, g9]; exact bad_e (b2.fr g6 g7) (by decide) (by omega)
  rcases g10 with ⟨e1, e2⟩ | ⟨e1, e2, e3, -⟩ | ⟨e1, e2, e3, q, T2, q1, q2, q3, q4, q5, q6, q7, q8⟩ | ⟨e1, e2, e3, e4, e5, e6⟩ | ⟨e1, e2, e3, e4, e5⟩
  · right
    exact ⟨by rw [e2]; decide, by rw [if_neg (by omega)]; decide, bd⟩
  · right
    exact ⟨by rw [e3]; decide, by rw [if_pos e1]; exact (let_dig e2).2, bd⟩
  · right
    refine ⟨?_, ?_, bd⟩
    · rw [q8]
      by_cases y : Int32.ofNat q - Int32.ofNat p' ≤ 4
      · rw [if_pos y]; decide
      · rw [if_neg y]; decide
    · rw [if_pos e1]; intro e; rw [e] at e3; exact absurd e3 (by decide)
  · left
    refine ⟨e5, by rw [if_pos e1]; exact e4, ⟨p' + 1, by omega, ?_⟩, g6, g7⟩
    exact P.fr g6 (g7.mS (by omega) _) e6 (by rw [m1_mS, if_pos rfl, g8, on_S]) (by omega)
  · right
    exact ⟨by rw [e5]; decide, by rw [if_pos e1]; exact e4, bd⟩
