theorem form_e {S : CS} {T : MS} {n p q : Nat} {code : Int64} (hB : By S T n) (h9 : cF S 9 = 1) (h10 : cF S 10 = Int32.ofNat p) (h12 : cF S 12 = Int32.ofNat q) (hpq : p < q) (hq : q ≤ n) (hl : ∀ i, p ≤ i → i < q → 97 ≤ (T.2 5 i).toInt ∧ (T.2 5 i).toInt ≤ 122) (hc : q - p ≤ 7 → code.toInt = cdI (wf T p) (q - p)) (hc2 : 7 < q - p → code = -1) : ∃ fm, f_X4_formOfWord S = some fm ∧ ((fm = 0 ∧ code = 678890543) ∨ (fm = 1 ∧ code = 14006) ∨ (fm = 2 ∧ code = 47) ∨ (fm = 3 ∧ code = 124988) ∨ (fm = 4 ∧ code = 397838) ∨ (fm = 5 ∧ code = 23170575) ∨ (fm = -1 ∧ ¬ code = 678890543 ∧ ¬ code = 14006 ∧ ¬ code = 47 ∧ ¬ code = 124988 ∧ ¬ code = 397838 ∧ ¬ code = 23170575)) := by
  obtain ⟨x0, i0, j0⟩ := isw_e (i := 0) (by decide) hB h9 h10 h12 hpq hq hl hc hc2
  obtain ⟨x1, i1, j1⟩ := isw_e (i := 1) (by decide) hB h9 h10 h12 hpq hq hl hc hc2
  obtain ⟨x2, i2, j2⟩ := isw_e (i := 2) (by decide) hB h9 h10 h12 hpq hq hl hc hc2
  obtain ⟨x3, i3, j3⟩ := isw_e (i := 3) (by decide) hB h9 h10 h12 hpq hq hl hc hc2
  obtain ⟨x4, i4, j4⟩ := isw_e (i := 4) (by decide) hB h9 h10 h12 hpq hq hl hc hc2
  obtain ⟨x5, i5, j5⟩ := isw_e (i := 5) (by decide) hB h9 h10 h12 hpq hq hl hc hc2
  have j0 : x0 = true ↔ code = 678890543 := j0
  have j1 : x1 = true ↔ code = 14006 := j1
  have j2 : x2 = true ↔ code = 47 := j2
  have j3 : x3 = true ↔ code = 124988 := j3
  have j4 : x4 = true ↔ code = 397838 := j4
  have j5 : x5 = true ↔ code = 23170575 := j5
  unfold f_X4_formOfWord
  rw [i0, i1, i2, i3, i4, i5]
  simp only [Option.bind_some]
  by_cases c0 : x0 = true
  · rw [if_pos c0]; exact ⟨0, rfl, Or.inl ⟨rfl, j0.1 c0⟩⟩
  rw [if_neg c0]
  by_cases c1 : x1 = true
  · rw [if_pos c1]; exact ⟨1, rfl, Or.inr (Or.inl ⟨rfl, j1.1 c1⟩)⟩
  rw [if_neg c1]
  by_cases c2 : x2 = true
  · rw [if_pos c2]; exact ⟨2, rfl, Or.inr (Or.inr (Or.inl ⟨rfl, j2.1 c2⟩))⟩
  rw [if_neg c2]
  by_cases c3 : x3 = true
  · rw [if_pos c3]; exact ⟨3, rfl, Or.inr (Or.inr (Or.inr (Or.inl ⟨rfl, j3.1 c3⟩)))⟩
  rw [if_neg c3]
  by_cases c4 : x4 = true
  · rw [if_pos c4]; exact ⟨4, rfl, Or.inr (Or.inr (Or.inr (Or.inr (Or.inl ⟨rfl, j4.1 c4⟩))))⟩
  rw [if_neg c4]
  by_cases c5 : x5 = true
  · rw [if_pos c5]; exact ⟨5, rfl, Or.inr (Or.inr (Or.inr (Or.inr (Or.inr (Or.inl ⟨rfl, j5.1 c5⟩)))))⟩
  rw [if_neg c5]
  exact ⟨-1, rfl, Or.inr (Or.inr (Or.inr (Or.inr (Or.inr (Or.inr ⟨rfl, fun e => c0 (j0.2 e), fun e => c1 (j1.2 e), fun e => c2 (j2.2 e), fun e => c3 (j3.2 e), fun e => c4 (j4.2 e), fun e => c5 (j5.2 e)⟩)))))⟩
theorem form_n {S : CS} (h9 : ¬ cF S 9 = 1) : f_X4_formOfWord S = some (-1) := by
  unfold f_X4_formOfWord
  rw [isw_n h9, isw_n h9, isw_n h9, isw_n h9, isw_n h9, isw_n h9]
  rfl
theorem perf_b {h : Nat → Bool} {r : Nat} {S : CS} (hf : f_X4_formOfWord S = some (-1)) : f_X4_performOne h S r = some (false, sF S 13 (1 + 8 * cF S 10), h) := by
  unfold f_X4_performOne
  rw [hf, Option.bind_some, if_pos (by decide)]
  rfl
theorem perf_n {h : Nat → Bool} {r : Nat} {S : CS} {fm : Int32} (hf : f_X4_formOfWord S = some fm) (h0 : ¬ fm < 0) (h6 : fm < 6) (h4 : ¬ fm = 4) : f_X4_performOne h S r = (f_X4_readNumbers h S r fm).bind fun q3 => if q3.1 = true then tlC h q3.2 r fm (cF S 10) else some (false, q3.2, h) := by
  unfold f_X4_performOne
  rw [hf, Option.bind_some, if_neg h0, if_pos h6]
  cases f_X4_readNumbers h S r fm with
  | none => rfl
  | some q3 =>
    rw [Option.bind_some, Option.bind_some, if_neg h4]
    rfl
theorem perf_4 {h : Nat → Bool} {r : Nat} {S : CS} (hf : f_X4_formOfWord S = some 4) : f_X4_performOne h S r = ((f_X4_readNumbers h S r 4).bind fun q3 => if q3.1 = true then f_X4_readOutcome q3.2 else some (false, q3.2)).bind fun q3 => if q3.1 = true then tlC h q3.2 r 4 (cF S 10) else some (false, q3.2, h) := by
  unfold f_X4_performOne
  rw [hf, Option.bind_some, if_neg (by decide), if_pos (by decide)]
  cases f_X4_readNumbers h S r 4 with
  | none => rfl
  | some q3 =>
    rw [Option.bind_some, Option.bind_some, if_pos rfl]
    by_cases c : q3.1 = true
    · rw [if_pos c, if_pos c]
      rfl
    · rw [if_neg c, if_neg c]
      rfl
theorem readS {T1 T2 : MS} {ch : Int32} {code : Int64} {p : Nat} (hh : f_X6_here T1 = some (ch, T1)) (l : f_X6_in ch 97 122 = true) (hw : f_X6_readWord T1 = some (code, T2)) (h11 : T2.1 11 = Int32.ofNat p) : f_X6_readStatement T1 = (f_X6_readRest T2 code (Int32.ofNat p)).bind fun q5 => if q5.1 = true then tlM q5.2 code (Int32.ofNat p) else some (false, q5.2) := by
  unfold f_X6_readStatement
  rw [hh, Option.bind_some, if_pos l]
  show (f_X6_readWord T1).bind _ = _
  rw [hw, Option.bind_some]
  show ((f_X6_readRest T2 code (T2.1 11)).bind fun q5 => if q5.1 = true then tlM q5.2 code (T2.1 11) else some (false, q5.2)) = _
  rw [h11]
theorem readN {T1 : MS} {ch : Int32} (hh : f_X6_here T1 = some (ch, T1)) (l : f_X6_in ch 97 122 = false) : f_X6_readStatement T1 = some (false, mS T1 9 (1 + 8 * T1.1 8)) := by
  unfold f_X6_readStatement
  rw [hh, Option.bind_some]
  show (if f_X6_in ch 97 122 = true then _ else _) = _
  rw [l, if_neg (show ¬ false = true by decide)]
  rfl
theorem comb {h : Nat → Bool} {r r2 n c p p2 : Nat} {X : Option (Bool × CS)} {Y : Option (Bool × MS)} {Q : CS → MS → Prop} {F : Bool × CS → Option (Bool × CS × (Nat → Bool))} {G : Bool × MS → Option (Bool × MS)} (hN : NuR h r r2 n c p X Y Q) (hp : p2 ≤ p) (hF : ∀ S, F (false, S) = some (false, S, h)) (hG : ∀ T, G (false, T) = some (false, T)) (hk : ∀ S2 T2 q, PR h r r2 n c q S2 T2 → Q S2 T2 → StR h r r2 n c q (F (true, S2)) (G (true, T2))) : StR h r r2 n c p2 (X.bind F) (Y.bind G) := by
  rcases hN with ⟨S2, T2, a1, a2, a3⟩ | ⟨S2, T2, q, a1, a2, a3, a4, a5⟩
  · right
    rw [a1, a2, Option.bind_some, Option.bind_some, hF, hG]
    exact ⟨S2, T2, h, rfl, rfl, a3⟩
  · rw [a1, a2, Option.bind_some, Option.bind_some]
    rcases hk S2 T2 q a3 a5 with ⟨S, T, h', q', k1, k2, k3, k4⟩ | k
    · left; exact ⟨S, T, h', q', k1, k2, k3, by omega⟩
    · right; exact k
/-- one statement, on both sides -/
theorem stmt_e {h : Nat → Bool} {r r2 n c p : Nat} {S : CS} {T : MS} (P : PR h r r2 n c p S T) : ∃ S1 T1 ch, f_X3_readToken S = some S1 ∧ f_X6_here T = some (ch, T1) ∧ ((cF S1 9 = 0 ∧ ch = -1 ∧ FrK S S1 ∧ FrL T T1) ∨ (¬ cF S1 9 = 0 ∧ ¬ ch = -1 ∧ p < n ∧ StR h r r2 n c (p + 1) (f_X4_performOne h S1 r) (f_X6_readStatement T1))) := by
  obtain ⟨b1, b2, b3, b4, b5, b6, b7, b8, b9⟩ := id P
  have n4 := b4.1
  obtain ⟨p', S1, T1, g1, g2, g3, g4, g5, g6, g7, g8, g9, g10⟩ := tok_e b4 b7 b8 b9
  refine ⟨S1, T1, _, g3, g4, ?_⟩
  have nb : p' < n → ¬ T.2 5 p' = -1 := fun hh e => by
    have bb := b4.b (i := p') (by omega)
    rw [e] at bb; exact absurd bb.1 (by decide)
  have bd : Bad h r2 (sF S1 13 (1 + 8 * cF S1 10)) (mS T1 9 (1 + 8 * T1.1 8)) := by
    rw [g8, g9]; exact bad_e (b2.fr g6 g7) (by decide) (by omega)
  have no : ¬ cF S1 9 = 0 → ¬ cF S1 9 = 1 → p' < n → f_X6_in (T.2 5 p') 97 122 = false → (cF S1 9 = 0 ∧ (if p' < n then T.2 5 p' else -1) = -1 ∧ FrK S S1 ∧ FrL T T1) ∨ (¬ cF S1 9 = 0 ∧ ¬ (if p' < n then T.2 5 p' else -1) = -1 ∧ p < n ∧ StR h r r2 n c (p + 1) (f_X4_performOne h S1 r) (f_X6_readStatement T1)) := fun k1 k2 k3 k4 => by
    right
    refine ⟨k1, by rw [if_pos k3]; exact nb k3, by omega, Or.inr ⟨_, _, h, perf_b (form_n k2), readN g5 (by rw [if_pos k3]; exact k4), bd⟩⟩
  rcases g10 with ⟨e1, e2⟩ | ⟨e1, e2, e3, q, code, T2, q1, q2, q3, q4, q5, q6, q7, q8, q9, q10⟩ | ⟨e1, e2, e3, q, T2, q1, q2, q3, q4, q5, q6, q7, q8⟩ | ⟨e1, e2, e3, e4, e5, e6⟩ | ⟨e1, e2, e3, e4, e5⟩
  · left
    exact ⟨e2, by rw [if_neg (by omega)], g6, g7⟩
  · right
    refine ⟨by rw [e3]; decide, by rw [if_pos e1]; exact nb e1, by omega, ?_⟩
    have B' : By S1 T n := b4.fr g6 (FrL.refl T)
    have P2 : PR h r r2 n c q S1 T2 := P.fr g6 (g7.trans q7) q3 q5 q2
    rw [readS g5 (by rw [if_pos e1]; exact e2) q4 q6]
    obtain ⟨fm, f1, f2⟩ := form_e (code := code) B' e3 g9 q3 q1 q2 q8 q9 q10
    rcases f2 with ⟨rfl, rfl⟩ | ⟨rfl, rfl⟩ | ⟨rfl, rfl⟩ | ⟨rfl, rfl⟩ | ⟨rfl, rfl⟩ | ⟨rfl, rfl⟩ | ⟨rfl, c0, c1, c2, c3, c4, c5⟩
    · rw [perf_n f1 (by decide) (by decide) (by decide), g9]
      refine comb (rd0 P2 _) (by omega) (fun _ => rfl) (fun _ => rfl) (fun S2 T2 q' P3 hQ => ?_)
      exact tail_e P3 (by omega) (fun S3 T3 p3 P4 h6 h2 h14 => do0 P4 (by rw [h6, h2]; exact hQ.1) (by rw [h2]; exact hQ.2))
    · rw [perf_n f1 (by decide) (by decide) (by decide), g9]
      refine comb (rd1 P2 _) (by omega) (fun _ => rfl) (fun _ => rfl) (fun S2 T2 q' P3 hQ => ?_)
      exact tail_e P3 (by omega) (fun S3 T3 p3 P4 h6 h2 h14 => do1 P4 (by rw [h6, h2]; exact hQ.1.1) (by rw [h6, h2]; exact hQ.1.2) (by rw [h2]; exact hQ.2.1) (by rw [h2]; exact hQ.2.2))
    · rw [perf_n f1 (by decide) (by decide) (by decide), g9]
      refine comb (rd2 P2 _) (by omega) (fun _ => rfl) (fun _ => rfl) (fun S2 T2 q' P3 hQ => ?_)
      exact tail_e P3 (by omega) (fun S3 T3 p3 P4 h6 h2 h14 => do2 P4 (by rw [h6, h2]; exact hQ.1.1) (by rw [h6, h2]; exact hQ.1.2) (by rw [h2]; exact hQ.2.1) (by rw [h2]; exact hQ.2.2))
    · rw [perf_n f1 (by decide) (by decide) (by decide), g9]
      refine comb (rd3 P2 _) (by omega) (fun _ => rfl) (fun _ => rfl) (fun S2 T2 q' P3 hQ => ?_)
      exact tail_e P3 (by omega) (fun S3 T3 p3 P4 h6 h2 h14 => do3 P4 (by rw [h6, h2]; exact hQ.1) (by rw [h2]; exact hQ.2.1) (by rw [h2]; exact hQ.2.2))
    · rw [perf_4 f1, g9]
      refine comb (rd4 P2 _) (by omega) (fun _ => rfl) (fun _ => rfl) (fun S2 T2 q' P3 hQ => ?_)
      exact tail_e P3 (by omega) (fun S3 T3 p3 P4 h6 h2 h14 => do4 P4 (by rw [h6, h2]; exact hQ.1) (by rw [h2]; exact hQ.2.1) (by rw [h2]; exact hQ.2.2.1) (by rw [h14, h2]; exact hQ.2.2.2))
    · rw [perf_n f1 (by decide) (by decide) (by decide), g9]
      refine comb (rd5 P2 _) (by omega) (fun _ => rfl) (fun _ => rfl) (fun S2 T2 q' P3 hQ => ?_)
      exact tail_e P3 (by omega) (fun S3 T3 p3 P4 h6 h2 h14 => do5 P4 (by rw [h6, h2]; exact hQ.1) (by rw [h2]; exact hQ.2.1) (by rw [h2]; exact hQ.2.2))
    · right
      have z : ∀ x : Int64, ¬ code = x → ¬ lg_cmp code x = 0 := fun x hx hh => hx ((lg_cmp_eq _ _).1 hh)
      rw [perf_b f1, g9]
      refine ⟨_, mS T2 9 (1 + 8 * Int32.ofNat p'), h, rfl, ?_, bad_e P2.2.1 (by decide) (by omega)⟩
      unfold f_X6_readRest
      rw [if_neg (z _ c0), if_neg (z _ c1), if_neg (z _ c2), if_neg (z _ c3), if_neg (z _ c4), if_neg (z _ c5)]
      rfl
  · exact no (by rw [q8]; by_cases y : Int32.ofNat q - Int32.ofNat p' ≤ 4; rw [if_pos y]; decide; rw [if_neg y]; decide) (by rw [q8]; by_cases y : Int32.ofNat q - Int32.ofNat p' ≤ 4; rw [if_pos y]; decide; rw [if_neg y]; decide) e1 e2
  · exact no (by rw [e5]; decide) (by rw [e5]; decide) e1 e2
  · exact no (by rw [e5]; decide) (by rw [e5]; decide) e1 e2
/-- the whole text, on both sides -/
theorem text_l {r r2 n : Nat} : ∀ (k f f' c p : Nat) (h : Nat → Bool) (S : CS) (T : MS), PR h r r2 n c p S T → c ≤ p → n ≤ p + k → k < f → k < f' → (∃ S' T' h' c', l_X4_perform r f S h (Int32.ofNat c) = some (Int32.ofNat c', S', h') ∧ l_X6_readText_15 f' T = some (true, T') ∧ Bs h' r2 S' T' ∧ RgRel h' r S' (T'.2 1) ∧ (cF S' 13 = 0 ∧ T'.1 9 = 0) ∧ T'.1 12 = Int32.ofNat c') ∨ ∃ S' T' h' x, l_X4_perform r f S h (Int32.ofNat c) = some (x, S', h') ∧ l_X6_readText_15 f' T = some (false, T') ∧ Bad h' r2 S' T' := by
  intro k
  induction k with
  | zero =>
    intro f f' c p h S T P hcp hk hf hf'
    obtain ⟨f, rfl⟩ : ∃ z, f = z + 1 := ⟨f - 1, by omega⟩
    obtain ⟨f', rfl⟩ : ∃ z, f' = z + 1 := ⟨f' - 1, by omega⟩
    have n4 := P.2.2.2.1.1
    have pn := P.2.2.2.2.2.2.2.2
    obtain ⟨S1, T1, ch, s1, s2, s3⟩ := stmt_e P
    have c4 : ¬ (400 : Int32) < Int32.ofNat c := by rw [i32_lt, on_I (by omega)]; show ¬ (400 : Int) < _; omega
    rcases s3 with ⟨e1, e2, e3, e4⟩ | ⟨e1, e2, e3, e4⟩
    · left
      refine ⟨S1, T1, h, c, ?_, ?_, P.2.1.fr e3 e4, by rw [e4.1]; exact P.2.2.1.k e3, ⟨by rw [e3.2.2.2.2 13 (by omega)]; exact P.2.2.2.2.1.1, by rw [e4.2 9 (by omega) (by omega) (by omega)]; exact P.2.2.2.2.1.2⟩, by rw [e4.2 12 (by omega) (by omega) (by omega)]; exact P.2.2.2.2.2.1⟩
      · rw [l_X4_perform, if_neg c4, s1, Option.bind_some, if_pos e1]
      · rw [l_X6_readText_15, s2, Option.bind_some, if_pos e2]
    · omega
  | succ k ih =>
    intro f f' c p h S T P hcp hk hf hf'
    obtain ⟨f, rfl⟩ : ∃ z, f = z + 1 := ⟨f - 1, by omega⟩
    obtain ⟨f', rfl⟩ : ∃ z, f' = z + 1 := ⟨f' - 1, by omega⟩
    have n4 := P.2.2.2.1.1
    have pn := P.2.2.2.2.2.2.2.2
    obtain ⟨S1, T1, ch, s1, s2, s3⟩ := stmt_e P
    have c4 : ¬ (400 : Int32) < Int32.ofNat c := by rw [i32_lt, on_I (by omega)]; show ¬ (400 : Int) < _; omega
    rcases s3 with ⟨e1, e2, e3, e4⟩ | ⟨e1, e2, e3, e4⟩
    · left
      refine ⟨S1, T1, h, c, ?_, ?_, P.2.1.fr e3 e4, by rw [e4.1]; exact P.2.2.1.k e3, ⟨by rw [e3.2.2.2.2 13 (by omega)]; exact P.2.2.2.2.1.1, by rw [e4.2 9 (by omega) (by omega) (by omega)]; exact P.2.2.2.2.1.2⟩, by rw [e4.2 12 (by omega) (by omega) (by omega)]; exact P.2.2.2.2.2.1⟩
      · rw [l_X4_perform, if_neg c4, s1, Option.bind_some, if_pos e1]
      · rw [l_X6_readText_15, s2, Option.bind_some, if_pos e2]
    · rw [l_X4_perform, if_neg c4, s1, Option.bind_some, if_neg e1, l_X6_readText_15, s2, Option.bind_some, if_neg e2]
      rcases e4 with ⟨S2, T2, h2, q, d1, d2, d3, d4⟩ | ⟨S2, T2, h2, d1, d2, d3⟩
      · rw [d1, d2, Option.bind_some, Option.bind_some, if_pos rfl, if_pos rfl, on_S]
        have P3 : PR h2 r r2 n (c + 1) q S2 (mS T2 12 (T2.1 12 + 1)) := by
          obtain ⟨y1, y2, y3, y4, y5, y6, y7, y8, y9⟩ := d3
          exact ⟨y1, y2, y3, y4, y5, by rw [m1_mS, if_pos rfl, y6, on_S], y7, y8, y9⟩
        exact ih f f' (c + 1) q h2 S2 _ P3 (by omega) (by omega) (by omega) (by omega)
      · right
        rw [d1, d2, Option.bind_some, Option.bind_some, if_neg (show ¬ false = true by decide), if_neg (show ¬ false = true by decide)]
        exact ⟨S2, T2, h2, _, rfl, rfl, d3⟩
