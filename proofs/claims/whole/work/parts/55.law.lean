/-! The law: what the two sides owe each other at each call (P_m), and the walk of the law over them. -/
abbrev RL2 : Type := (Nat → Bool) → (Nat × Nat) → CS → MS → Prop
def P_feed (R : RL2) : Prop := ∀ (h : Nat → Bool) (lk : Nat × Nat) (S : CS) (T : MS) (a1 : Int32) (a2 : Int32) (a3 : Int32) (a4 : Int32) (a5 : Int32), R h lk S T → ∃ q q', f_X5_feed S a1 a2 a3 a4 a5 = some q ∧ f_X6_feed T a1 a2 a3 a4 a5 = some q' ∧ q.1 = q'.1 ∧ R h lk q.2 q'.2
def P_end (R : RL2) : Prop := ∀ (h : Nat → Bool) (lk : Nat × Nat) (S : CS) (T : MS) (a1 : Int32), R h lk S T → ∃ q q', f_X5_end S a1 = q ∧ f_X6_end T a1 = q' ∧ q.1 = q'.1 ∧ R h lk q.2 q'.2
def P_tell (R : RL2) : Prop := ∀ (h : Nat → Bool) (lk : Nat × Nat) (S : CS) (T : MS), R h lk S T → ∃ q q', f_X5_tell h lk S = some q ∧ f_X6_tell T = some q' ∧ q.1 = q'.1 ∧ R q.2.2.1 q.2.2.2 q.2.1 q'.2
def P_fault (R : RL2) : Prop := ∀ (h : Nat → Bool) (lk : Nat × Nat) (S : CS) (T : MS), R h lk S T → ∃ q q', f_X5_fault S = q ∧ f_X6_fault T = q' ∧ q = q'.1 ∧ R h lk S q'.2
def P_athlete (R : RL2) : Prop := ∀ (h : Nat → Bool) (lk : Nat × Nat) (S : CS) (T : MS) (a1 : Int32), R h lk S T → ∃ q q', f_X5_athlete h lk S a1 = some q ∧ f_X6_athlete T a1 = some q' ∧ q.1 = q'.1 ∧ R q.2.2 lk q.2.1 q'.2
def P_set (R : RL2) : Prop := ∀ (h : Nat → Bool) (lk : Nat × Nat) (S : CS) (T : MS) (a1 : Int32) (a2 : Int32), R h lk S T → ∃ q q', f_X5_set lk S a1 a2 = some q ∧ f_X6_set T a1 a2 = some q' ∧ q.1 = q'.1 ∧ R h lk q.2 q'.2
def P_at (R : RL2) : Prop := ∀ (h : Nat → Bool) (lk : Nat × Nat) (S : CS) (T : MS) (a1 : Int32) (a2 : Int32), R h lk S T → ∃ q q', f_X5_at h lk S a1 a2 = some q ∧ f_X6_at T a1 a2 = some q' ∧ q.1 = q'.1 ∧ R h lk q.2 q'.2
def P_file (R : RL2) : Prop := ∀ (h : Nat → Bool) (lk : Nat × Nat) (S : CS) (T : MS) (a1 : Int32) (a2 : Int32) (a3 : Int32) (a4 : Int32) (a5 : Int32), R h lk S T → ∃ q q', f_X5_file h lk S a1 a2 a3 a4 a5 = some q ∧ f_X6_file T a1 a2 a3 a4 a5 = some q' ∧ q.1 = q'.1 ∧ R h lk q.2 q'.2
def P_test (R : RL2) : Prop := ∀ (h : Nat → Bool) (lk : Nat × Nat) (S : CS) (T : MS) (a1 : Int32) (a2 : Int32) (a3 : Bool), R h lk S T → ∃ q q', f_X5_test h lk S a1 a2 a3 = some q ∧ f_X6_test T a1 a2 a3 = some q' ∧ q.1 = q'.1 ∧ R h lk q.2 q'.2
def P_appeal (R : RL2) : Prop := ∀ (h : Nat → Bool) (lk : Nat × Nat) (S : CS) (T : MS) (a1 : Int32) (a2 : Int32), R h lk S T → ∃ q q', f_X5_appeal h lk S a1 a2 = some q ∧ f_X6_appeal T a1 a2 = some q' ∧ q.1 = q'.1 ∧ R h lk q.2 q'.2
def P_count (R : RL2) : Prop := ∀ (h : Nat → Bool) (lk : Nat × Nat) (S : CS) (T : MS) (a1 : Int32), R h lk S T → ∃ q q', f_X5_count lk S a1 = some q ∧ f_X6_count T a1 = some q' ∧ q = q'.1 ∧ R h lk S q'.2
def P_of (R : RL2) : Prop := ∀ (h : Nat → Bool) (lk : Nat × Nat) (S : CS) (T : MS) (a1 : Int32) (a2 : Int32), R h lk S T → ∃ q q', f_X5_of h lk S a1 a2 = some q ∧ f_X6_of T a1 a2 = some q' ∧ f_X6_thrown q'.2 = lofR q ∧ (∀ r, q.1 = some r → r = q'.1) ∧ R h lk q.2 q'.2
def P_filed (R : RL2) : Prop := ∀ (h : Nat → Bool) (lk : Nat × Nat) (S : CS) (T : MS) (a1 : Int32) (a2 : Int32) (a3 : Int32), R h lk S T → ∃ q q', f_X5_filed h lk S a1 a2 a3 = some q ∧ f_X6_filed T a1 a2 a3 = some q' ∧ q = q'.1 ∧ R h lk S q'.2
def P_failure (R : RL2) : Prop := ∀ (h : Nat → Bool) (lk : Nat × Nat) (S : CS) (T : MS) (a1 : Int32) (a2 : Int32) (a3 : Int32), R h lk S T → ∃ q q', f_X5_failure h lk S a1 a2 a3 = some q ∧ f_X6_failure T a1 a2 a3 = some q' ∧ q.1 = q'.1 ∧ R h lk q.2 q'.2
def P_violation (R : RL2) : Prop := ∀ (h : Nat → Bool) (lk : Nat × Nat) (S : CS) (T : MS) (a1 : Int32) (a2 : Int32), R h lk S T → ∃ q q', f_X5_violation h lk S a1 a2 = some q ∧ f_X6_violation T a1 a2 = some q' ∧ q.1 = q'.1 ∧ R h lk q.2 q'.2
def P_hole (R : RL2) : Prop := ∀ (h : Nat → Bool) (lk : Nat × Nat) (S : CS) (T : MS) (a1 : Int32) (a2 : Int32), R h lk S T → ∃ q q', f_X5_hole h lk S a1 a2 = some q ∧ f_X6_hole T a1 a2 = some q' ∧ q = q'.1 ∧ R h lk S q'.2
def P_lot (R : RL2) : Prop := ∀ (h : Nat → Bool) (lk : Nat × Nat) (S : CS) (T : MS) (a1 : Int32) (a2 : Int32), R h lk S T → ∃ q q', f_X5_lot h lk S a1 a2 = some q ∧ f_X6_lot T a1 a2 = some q' ∧ q.1 = q'.1 ∧ R h lk q.2 q'.2
def P_chance (R : RL2) : Prop := ∀ (h : Nat → Bool) (lk : Nat × Nat) (S : CS) (T : MS) (a1 : Int32) (a2 : Bool), R h lk S T → ∃ q q', f_X5_chance h lk S a1 a2 = some q ∧ f_X6_chance T a1 a2 = some q' ∧ q.1 = q'.1 ∧ R h lk q.2 q'.2
def P_round (R : RL2) : Prop := ∀ (h : Nat → Bool) (lk : Nat × Nat) (S : CS) (T : MS) (a1 : Int32) (a2 : Int32) (a3 : Int32), R h lk S T → ∃ q q', f_X5_round h lk S a1 a2 a3 = some q ∧ f_X6_round T a1 a2 a3 = some q' ∧ q = q'.1 ∧ R h lk S q'.2
def P_there (R : RL2) : Prop := ∀ (h : Nat → Bool) (lk : Nat × Nat) (S : CS) (T : MS) (a1 : Int32) (a2 : Int32) (a3 : Int32), R h lk S T → ∃ q q', f_X5_there h lk S a1 a2 a3 = some q ∧ f_X6_there T a1 a2 a3 = some q' ∧ q = q'.1 ∧ R h lk S q'.2
def P_danger (R : RL2) : Prop := ∀ (h : Nat → Bool) (lk : Nat × Nat) (S : CS) (T : MS) (a1 : Int32), R h lk S T → ∃ q q', f_X5_danger h lk S a1 = some q ∧ f_X6_danger T a1 = some q' ∧ q.1 = q'.1 ∧ R h lk q.2 q'.2
def P_easier (R : RL2) : Prop := ∀ (h : Nat → Bool) (lk : Nat × Nat) (S : CS) (T : MS) (a1 : Int32), R h lk S T → ∃ q q', f_X5_easier h lk S a1 = some q ∧ f_X6_easier T a1 = some q' ∧ q.1 = q'.1 ∧ R h lk q.2 q'.2
def P_without (R : RL2) : Prop := ∀ (h : Nat → Bool) (lk : Nat × Nat) (S : CS) (T : MS) (a1 : Int32) (a2 : Int32), R h lk S T → ∃ q q', f_X5_without h lk S a1 a2 = some q ∧ f_X6_without T a1 a2 = some q' ∧ q.1 = q'.1 ∧ R h lk q.2 q'.2
def P_worst (R : RL2) : Prop := ∀ (h : Nat → Bool) (lk : Nat × Nat) (S : CS) (T : MS), R h lk S T → ∃ q q', f_X5_worst h lk S = some q ∧ f_X6_worst T = some q' ∧ q.1 = q'.1 ∧ R h lk q.2 q'.2
def LawOk (R : RL2) : Prop := (∀ h lk S T, R h lk S T → cWf h lk) ∧ P_feed R ∧ P_end R ∧ P_tell R ∧ P_fault R ∧ P_athlete R ∧ P_set R ∧ P_at R ∧ P_file R ∧ P_test R ∧ P_appeal R ∧ P_count R ∧ P_of R ∧ P_filed R ∧ P_failure R ∧ P_violation R ∧ P_hole R ∧ P_lot R ∧ P_chance R ∧ P_round R ∧ P_there R ∧ P_danger R ∧ P_easier R ∧ P_without R ∧ P_worst R
def cE (h : Nat → Bool) (t : Nat) : Nat := 27 + 5 * cn h + t
def sE (h : Nat → Bool) (t : Nat) : Nat := 16749 + 1291 * cn h + t
abbrev lv0 (B : CB) (ad : Nat → Nat) (a0 b : Nat) (i : Int32) : List (Nat × Value) := [(4, .int i), (0, .ref b), (1, .ref (cAf B 0)), (2, .ref (ad 0)), (3, .ref a0)]
/-- what stands through the law -/
def LF (K : Ctx) (B : CB) (cJ : ClassId) (b L : Nat) (xs : Nat → Int32) : Prop := Fx K cL_law RL (yKf K B cJ) 12 470 ∧ va_X b L xs (ks K) (ks K).heap ∧ b < (ks K).heap.size ∧ ¬ kA K b ∧ (kl K).stackTraces = false ∧ kn K = 7 ∧ (61024 ≤ (kR K).cells ∧ 8913034 ≤ (kR K).slots) ∧ L ≤ 3072 ∧ ∀ (w : va_W) (lv : List (Nat × Value)), G K (rX B.1 (kA K)) 61024 8913034 1110 w lv [.int 1]
theorem cE_le {K : Ctx} {B : CB} {cJ : ClassId} {b L t : Nat} {xs : Nat → Int32} (Z : LF K B cJ b L xs) (ht : t + 6 ≤ L) (h : Nat → Bool) (j : Nat) (hj : j ≤ 6) : cE h t + j ≤ (kR K).cells ∧ sE h t + j ≤ (kR K).slots := by
  have h1 := cn_le h
  have h2 := Z.2.2.2.2.2.2.1
  have h3 := Z.2.2.2.2.2.2.2.1
  unfold cE sE
  omega
theorem cE_gr {K : Ctx} {B : CB} {cJ : ClassId} {b L t : Nat} {xs : Nat → Int32} (Z : LF K B cJ b L xs) (ht : t + 6 ≤ L) {h h1 : Nat → Bool} (hl : hle h h1) : cE h t + 5 * (cn h1 - cn h) ≤ (kR K).cells ∧ sE h t + 1291 * (cn h1 - cn h) ≤ (kR K).slots := by
  have h1 := cn_le h1
  have h2 := Z.2.2.2.2.2.2.1
  have h3 := Z.2.2.2.2.2.2.2.1
  have h4 := cn_mono hl
  unfold cE sE
  omega
set_option maxHeartbeats 1000000 in
theorem law_feed {K : Ctx} {B : CB} {cJ : ClassId} {ad : Nat → Nat} {a0 b L t : Nat} {xs : Nat → Int32} {i : Int32} {R : RL2} {sa : Nat → Nat} {h : Nat → Bool} {lk : Nat × Nat} {S : CS} {T : MS} {f : Nat → Int64} (Z : LF K B cJ b L xs) (hO : LawOk R) (hr : R h lk S T) (hi : i.toInt = (t : Int)) (ht : t + 6 ≤ L) (hN : ∀ (sa' : Nat → Nat) (h' : Nat → Bool) (lk' : Nat × Nat) (S' : CS) (T' : MS) (f' : Nat → Int64), R h' lk' S' T' → G K (rX B.1 (kA K)) (cE h' (t + 6)) (sE h' (t + 6)) 1103 (l3 B cJ ad a0 sa' h' lk' S' T' f') (lv0 B ad a0 b i) []) : G K (rX B.1 (kA K)) (cE h t) (sE h t) 152 (l3 B cJ ad a0 sa h lk S T f) (lv0 B ad a0 b i) [] := by
  have F := Z.1
  have hw := hO.1 h lk S T hr
  obtain ⟨q, q', e1, e2, e3, hr2⟩ := hO.2.1 h lk S T (xs (t + 1)) (xs (t + 2)) (xs (t + 3)) (xs (t + 4)) (xs (t + 5)) hr
  refine g_aload_n 153 2 F dL_law_152 rfl rfl ?_
  refine g_sarg 159 1 F Z.2.1 Z.2.2.1 Z.2.2.2.1 hi ⟨ht, Z.2.2.2.2.2.2.2.1⟩ (by decide) ⟨rfl, rfl⟩ dL_law_153 dL_law_154 dL_law_156 dL_law_157 dL_law_158 rfl rfl ?_
  refine g_sarg 165 2 F Z.2.1 Z.2.2.1 Z.2.2.2.1 hi ⟨ht, Z.2.2.2.2.2.2.2.1⟩ (by decide) ⟨rfl, rfl⟩ dL_law_159 dL_law_160 dL_law_162 dL_law_163 dL_law_164 rfl rfl ?_
  refine g_sarg 171 3 F Z.2.1 Z.2.2.1 Z.2.2.2.1 hi ⟨ht, Z.2.2.2.2.2.2.2.1⟩ (by decide) ⟨rfl, rfl⟩ dL_law_165 dL_law_166 dL_law_168 dL_law_169 dL_law_170 rfl rfl ?_
  refine g_sarg 177 4 F Z.2.1 Z.2.2.1 Z.2.2.2.1 hi ⟨ht, Z.2.2.2.2.2.2.2.1⟩ (by decide) ⟨rfl, rfl⟩ dL_law_171 dL_law_172 dL_law_174 dL_law_175 dL_law_176 rfl rfl ?_
  refine g_sarg 183 5 F Z.2.1 Z.2.2.1 Z.2.2.2.1 hi ⟨ht, Z.2.2.2.2.2.2.2.1⟩ (by decide) ⟨rfl, rfl⟩ dL_law_177 dL_law_178 dL_law_180 dL_law_181 dL_law_182 rfl rfl ?_
  refine g_lC 186 (st := []) F (fun A => c_X5_feed (kl K) B sa h lk hw A S (xs (t + 1)) (xs (t + 2)) (xs (t + 3)) (xs (t + 4)) (xs (t + 5)) q e1) wy_X5_feed ml_L_19 ⟨Nat.le_of_ble_eq_true rfl, Nat.le_of_ble_eq_true rfl⟩ rfl rfl (Nat.le_of_ble_eq_true rfl) (cE_le Z ht h 0 (Nat.zero_le _)) dL_law_183 rfl ?_
  refine g_aload_n 187 3 F dL_law_186 rfl rfl ?_
  refine g_sarg 193 1 F Z.2.1 Z.2.2.1 Z.2.2.2.1 hi ⟨ht, Z.2.2.2.2.2.2.2.1⟩ (by decide) ⟨rfl, rfl⟩ dL_law_187 dL_law_188 dL_law_190 dL_law_191 dL_law_192 rfl rfl ?_
  refine g_sarg 199 2 F Z.2.1 Z.2.2.1 Z.2.2.2.1 hi ⟨ht, Z.2.2.2.2.2.2.2.1⟩ (by decide) ⟨rfl, rfl⟩ dL_law_193 dL_law_194 dL_law_196 dL_law_197 dL_law_198 rfl rfl ?_
  refine g_sarg 205 3 F Z.2.1 Z.2.2.1 Z.2.2.2.1 hi ⟨ht, Z.2.2.2.2.2.2.2.1⟩ (by decide) ⟨rfl, rfl⟩ dL_law_199 dL_law_200 dL_law_202 dL_law_203 dL_law_204 rfl rfl ?_
  refine g_sarg 211 4 F Z.2.1 Z.2.2.1 Z.2.2.2.1 hi ⟨ht, Z.2.2.2.2.2.2.2.1⟩ (by decide) ⟨rfl, rfl⟩ dL_law_205 dL_law_206 dL_law_208 dL_law_209 dL_law_210 rfl rfl ?_
  refine g_sarg 217 5 F Z.2.1 Z.2.2.1 Z.2.2.2.1 hi ⟨ht, Z.2.2.2.2.2.2.2.1⟩ (by decide) ⟨rfl, rfl⟩ dL_law_211 dL_law_212 dL_law_214 dL_law_215 dL_law_216 rfl rfl ?_
  refine g_lM 220 (st := [.int q.1]) F (fun A => c_X6_feed (kl K) B.1 (B.2.1 0) (B.2.1 1) ad A T (xs (t + 1)) (xs (t + 2)) (xs (t + 3)) (xs (t + 4)) (xs (t + 5)) q' e2) wy_X6_feed ml_L_23 ⟨Nat.le_of_ble_eq_true rfl, Nat.le_of_ble_eq_true rfl⟩ rfl rfl (Nat.le_of_ble_eq_true rfl) (cE_le Z ht h 0 (Nat.zero_le _)) dL_law_217 rfl ?_
  refine g_icmp_eq 1103 223 F dL_law_220 rfl rfl (rfl : (if q.1 = q'.1 then true else false) = _) (fun _ _ => ?_) (fun hne _ => absurd (by rw [e3]) hne)
  exact G.widen (cE h (t + 6)) (sE h (t + 6)) (by unfold cE; omega) (by unfold sE; omega) (hN sa h lk q.2 q'.2 f hr2)
set_option maxHeartbeats 1000000 in
theorem law_end {K : Ctx} {B : CB} {cJ : ClassId} {ad : Nat → Nat} {a0 b L t : Nat} {xs : Nat → Int32} {i : Int32} {R : RL2} {sa : Nat → Nat} {h : Nat → Bool} {lk : Nat × Nat} {S : CS} {T : MS} {f : Nat → Int64} (Z : LF K B cJ b L xs) (hO : LawOk R) (hr : R h lk S T) (hi : i.toInt = (t : Int)) (ht : t + 6 ≤ L) (hN : ∀ (sa' : Nat → Nat) (h' : Nat → Bool) (lk' : Nat × Nat) (S' : CS) (T' : MS) (f' : Nat → Int64), R h' lk' S' T' → G K (rX B.1 (kA K)) (cE h' (t + 6)) (sE h' (t + 6)) 1103 (l3 B cJ ad a0 sa' h' lk' S' T' f') (lv0 B ad a0 b i) []) : G K (rX B.1 (kA K)) (cE h t) (sE h t) 225 (l3 B cJ ad a0 sa h lk S T f) (lv0 B ad a0 b i) [] := by
  have F := Z.1
  have hw := hO.1 h lk S T hr
  obtain ⟨q, q', e1, e2, e3, hr2⟩ := hO.2.2.1 h lk S T (xs (t + 1)) hr
  refine g_aload_n 226 2 F dL_law_225 rfl rfl ?_
  refine g_sarg 232 1 F Z.2.1 Z.2.2.1 Z.2.2.2.1 hi ⟨ht, Z.2.2.2.2.2.2.2.1⟩ (by decide) ⟨rfl, rfl⟩ dL_law_226 dL_law_227 dL_law_229 dL_law_230 dL_law_231 rfl rfl ?_
  refine g_lC 235 (st := []) F (fun A => c_X5_end (kl K) B sa h lk hw A S (xs (t + 1)) q e1) wy_X5_end ml_L_24 ⟨Nat.le_of_ble_eq_true rfl, Nat.le_of_ble_eq_true rfl⟩ rfl rfl (Nat.le_of_ble_eq_true rfl) (cE_le Z ht h 0 (Nat.zero_le _)) dL_law_232 rfl ?_
  refine g_aload_n 236 3 F dL_law_235 rfl rfl ?_
  refine g_sarg 242 1 F Z.2.1 Z.2.2.1 Z.2.2.2.1 hi ⟨ht, Z.2.2.2.2.2.2.2.1⟩ (by decide) ⟨rfl, rfl⟩ dL_law_236 dL_law_237 dL_law_239 dL_law_240 dL_law_241 rfl rfl ?_
  refine g_lM 245 (st := [.int (bI q.1)]) F (fun A => c_X6_end (kl K) B.1 (B.2.1 0) (B.2.1 1) ad A T (xs (t + 1)) q' e2) wy_X6_end ml_L_28 ⟨Nat.le_of_ble_eq_true rfl, Nat.le_of_ble_eq_true rfl⟩ rfl rfl (Nat.le_of_ble_eq_true rfl) (cE_le Z ht h 0 (Nat.zero_le _)) dL_law_242 rfl ?_
  refine g_icmp_eq 1103 248 F dL_law_245 rfl rfl (rfl : (if (bI q.1) = (bI q'.1) then true else false) = _) (fun _ _ => ?_) (fun hne _ => absurd (by rw [e3]) hne)
  exact G.widen (cE h (t + 6)) (sE h (t + 6)) (by unfold cE; omega) (by unfold sE; omega) (hN sa h lk q.2 q'.2 f hr2)
set_option maxHeartbeats 1000000 in
theorem law_tell {K : Ctx} {B : CB} {cJ : ClassId} {ad : Nat → Nat} {a0 b L t : Nat} {xs : Nat → Int32} {i : Int32} {R : RL2} {sa : Nat → Nat} {h : Nat → Bool} {lk : Nat × Nat} {S : CS} {T : MS} {f : Nat → Int64} (Z : LF K B cJ b L xs) (hO : LawOk R) (hr : R h lk S T) (hi : i.toInt = (t : Int)) (ht : t + 6 ≤ L) (hN : ∀ (sa' : Nat → Nat) (h' : Nat → Bool) (lk' : Nat × Nat) (S' : CS) (T' : MS) (f' : Nat → Int64), R h' lk' S' T' → G K (rX B.1 (kA K)) (cE h' (t + 6)) (sE h' (t + 6)) 1103 (l3 B cJ ad a0 sa' h' lk' S' T' f') (lv0 B ad a0 b i) []) : G K (rX B.1 (kA K)) (cE h t) (sE h t) 250 (l3 B cJ ad a0 sa h lk S T f) (lv0 B ad a0 b i) [] := by
  have F := Z.1
  have hw := hO.1 h lk S T hr
  obtain ⟨q, q', e1, e2, e3, hr2⟩ := hO.2.2.2.1 h lk S T  hr
  refine g_aload_n 251 2 F dL_law_250 rfl rfl ?_
  have hk := X5_tell_ok hw e1
  refine g_lA 254 (st := []) F (fun A => c_X5_tell (kl K) B sa h lk hw A S  q e1) wy_X5_tell ml_L_29 ⟨Nat.le_of_ble_eq_true rfl, Nat.le_of_ble_eq_true rfl⟩ rfl rfl (Nat.le_of_ble_eq_true rfl) (cE_gr Z ht hk.1) dL_law_251 rfl (fun sa1 => ?_)
  refine g_aload_n 255 3 F dL_law_254 rfl rfl ?_
  refine g_lM 258 (st := [.int q.1]) F (fun A => c_X6_tell (kl K) B.1 (B.2.1 0) (B.2.1 1) ad A T  q' e2) wy_X6_tell ml_L_33 ⟨Nat.le_of_ble_eq_true rfl, Nat.le_of_ble_eq_true rfl⟩ rfl rfl (Nat.le_of_ble_eq_true rfl) (cE_gr Z ht hk.1) dL_law_255 rfl ?_
  refine g_icmp_eq 1103 261 F dL_law_258 rfl rfl (rfl : (if q.1 = q'.1 then true else false) = _) (fun _ _ => ?_) (fun hne _ => absurd (by rw [e3]) hne)
  exact G.widen (cE q.2.2.1 (t + 6)) (sE q.2.2.1 (t + 6)) (by have h9 := cn_mono hk.1; unfold cE; omega) (by have h9 := cn_mono hk.1; unfold sE; omega) (hN sa1 q.2.2.1 q.2.2.2 q.2.1 q'.2 f hr2)
set_option maxHeartbeats 1000000 in
theorem law_fault {K : Ctx} {B : CB} {cJ : ClassId} {ad : Nat → Nat} {a0 b L t : Nat} {xs : Nat → Int32} {i : Int32} {R : RL2} {sa : Nat → Nat} {h : Nat → Bool} {lk : Nat × Nat} {S : CS} {T : MS} {f : Nat → Int64} (Z : LF K B cJ b L xs) (hO : LawOk R) (hr : R h lk S T) (hi : i.toInt = (t : Int)) (ht : t + 6 ≤ L) (hN : ∀ (sa' : Nat → Nat) (h' : Nat → Bool) (lk' : Nat × Nat) (S' : CS) (T' : MS) (f' : Nat → Int64), R h' lk' S' T' → G K (rX B.1 (kA K)) (cE h' (t + 6)) (sE h' (t + 6)) 1103 (l3 B cJ ad a0 sa' h' lk' S' T' f') (lv0 B ad a0 b i) []) : G K (rX B.1 (kA K)) (cE h t) (sE h t) 263 (l3 B cJ ad a0 sa h lk S T f) (lv0 B ad a0 b i) [] := by
  have F := Z.1
  have hw := hO.1 h lk S T hr
  obtain ⟨q, q', e1, e2, e3, hr2⟩ := hO.2.2.2.2.1 h lk S T  hr
  refine g_aload_n 264 2 F dL_law_263 rfl rfl ?_
  refine g_lC 267 (st := []) F (fun A => c_X5_fault (kl K) B sa h lk hw A S  q e1) wy_X5_fault ml_L_34 ⟨Nat.le_of_ble_eq_true rfl, Nat.le_of_ble_eq_true rfl⟩ rfl rfl (Nat.le_of_ble_eq_true rfl) (cE_le Z ht h 0 (Nat.zero_le _)) dL_law_264 rfl ?_
  refine g_aload_n 268 3 F dL_law_267 rfl rfl ?_
  refine g_lM 271 (st := [.int q]) F (fun A => c_X6_fault (kl K) B.1 (B.2.1 0) (B.2.1 1) ad A T  q' e2) wy_X6_fault ml_L_37 ⟨Nat.le_of_ble_eq_true rfl, Nat.le_of_ble_eq_true rfl⟩ rfl rfl (Nat.le_of_ble_eq_true rfl) (cE_le Z ht h 0 (Nat.zero_le _)) dL_law_268 rfl ?_
  refine g_icmp_eq 1103 274 F dL_law_271 rfl rfl (rfl : (if q = q'.1 then true else false) = _) (fun _ _ => ?_) (fun hne _ => absurd (by rw [e3]) hne)
  exact G.widen (cE h (t + 6)) (sE h (t + 6)) (by unfold cE; omega) (by unfold sE; omega) (hN sa h lk S q'.2 f hr2)
set_option maxHeartbeats 1000000 in
theorem law_athlete {K : Ctx} {B : CB} {cJ : ClassId} {ad : Nat → Nat} {a0 b L t : Nat} {xs : Nat → Int32} {i : Int32} {R : RL2} {sa : Nat → Nat} {h : Nat → Bool} {lk : Nat × Nat} {S : CS} {T : MS} {f : Nat → Int64} (Z : LF K B cJ b L xs) (hO : LawOk R) (hr : R h lk S T) (hi : i.toInt = (t : Int)) (ht : t + 6 ≤ L) (hN : ∀ (sa' : Nat → Nat) (h' : Nat → Bool) (lk' : Nat × Nat) (S' : CS) (T' : MS) (f' : Nat → Int64), R h' lk' S' T' → G K (rX B.1 (kA K)) (cE h' (t + 6)) (sE h' (t + 6)) 1103 (l3 B cJ ad a0 sa' h' lk' S' T' f') (lv0 B ad a0 b i) []) : G K (rX B.1 (kA K)) (cE h t) (sE h t) 276 (l3 B cJ ad a0 sa h lk S T f) (lv0 B ad a0 b i) [] := by
  have F := Z.1
  have hw := hO.1 h lk S T hr
  obtain ⟨q, q', e1, e2, e3, hr2⟩ := hO.2.2.2.2.2.1 h lk S T (xs (t + 1)) hr
  refine g_aload_n 277 2 F dL_law_276 rfl rfl ?_
  refine g_sarg 283 1 F Z.2.1 Z.2.2.1 Z.2.2.2.1 hi ⟨ht, Z.2.2.2.2.2.2.2.1⟩ (by decide) ⟨rfl, rfl⟩ dL_law_277 dL_law_278 dL_law_280 dL_law_281 dL_law_282 rfl rfl ?_
  have hk := X5_athlete_ok hw e1
  refine g_lA 286 (st := []) F (fun A => c_X5_athlete (kl K) B sa h lk hw A S (xs (t + 1)) q e1) wy_X5_athlete ml_L_38 ⟨Nat.le_of_ble_eq_true rfl, Nat.le_of_ble_eq_true rfl⟩ rfl rfl (Nat.le_of_ble_eq_true rfl) (cE_gr Z ht hk.1) dL_law_283 rfl (fun sa1 => ?_)
  refine g_aload_n 287 3 F dL_law_286 rfl rfl ?_
  refine g_sarg 293 1 F Z.2.1 Z.2.2.1 Z.2.2.2.1 hi ⟨ht, Z.2.2.2.2.2.2.2.1⟩ (by decide) ⟨rfl, rfl⟩ dL_law_287 dL_law_288 dL_law_290 dL_law_291 dL_law_292 rfl rfl ?_
  refine g_lM 296 (st := [.int q.1]) F (fun A => c_X6_athlete (kl K) B.1 (B.2.1 0) (B.2.1 1) ad A T (xs (t + 1)) q' e2) wy_X6_athlete ml_L_42 ⟨Nat.le_of_ble_eq_true rfl, Nat.le_of_ble_eq_true rfl⟩ rfl rfl (Nat.le_of_ble_eq_true rfl) (cE_gr Z ht hk.1) dL_law_293 rfl ?_
  refine g_icmp_eq 1103 299 F dL_law_296 rfl rfl (rfl : (if q.1 = q'.1 then true else false) = _) (fun _ _ => ?_) (fun hne _ => absurd (by rw [e3]) hne)
  exact G.widen (cE q.2.2 (t + 6)) (sE q.2.2 (t + 6)) (by have h9 := cn_mono hk.1; unfold cE; omega) (by have h9 := cn_mono hk.1; unfold sE; omega) (hN sa1 q.2.2 lk q.2.1 q'.2 f hr2)
set_option maxHeartbeats 1000000 in
theorem law_set {K : Ctx} {B : CB} {cJ : ClassId} {ad : Nat → Nat} {a0 b L t : Nat} {xs : Nat → Int32} {i : Int32} {R : RL2} {sa : Nat → Nat} {h : Nat → Bool} {lk : Nat × Nat} {S : CS} {T : MS} {f : Nat → Int64} (Z : LF K B cJ b L xs) (hO : LawOk R) (hr : R h lk S T) (hi : i.toInt = (t : Int)) (ht : t + 6 ≤ L) (hN : ∀ (sa' : Nat → Nat) (h' : Nat → Bool) (lk' : Nat × Nat) (S' : CS) (T' : MS) (f' : Nat → Int64), R h' lk' S' T' → G K (rX B.1 (kA K)) (cE h' (t + 6)) (sE h' (t + 6)) 1103 (l3 B cJ ad a0 sa' h' lk' S' T' f') (lv0 B ad a0 b i) []) : G K (rX B.1 (kA K)) (cE h t) (sE h t) 301 (l3 B cJ ad a0 sa h lk S T f) (lv0 B ad a0 b i) [] := by
  have F := Z.1
  have hw := hO.1 h lk S T hr
  obtain ⟨q, q', e1, e2, e3, hr2⟩ := hO.2.2.2.2.2.2.1 h lk S T (xs (t + 1)) (xs (t + 2)) hr
  refine g_aload_n 302 2 F dL_law_301 rfl rfl ?_
  refine g_sarg 308 1 F Z.2.1 Z.2.2.1 Z.2.2.2.1 hi ⟨ht, Z.2.2.2.2.2.2.2.1⟩ (by decide) ⟨rfl, rfl⟩ dL_law_302 dL_law_303 dL_law_305 dL_law_306 dL_law_307 rfl rfl ?_
  refine g_sarg 314 2 F Z.2.1 Z.2.2.1 Z.2.2.2.1 hi ⟨ht, Z.2.2.2.2.2.2.2.1⟩ (by decide) ⟨rfl, rfl⟩ dL_law_308 dL_law_309 dL_law_311 dL_law_312 dL_law_313 rfl rfl ?_
  refine g_lC 317 (st := []) F (fun A => c_X5_set (kl K) B sa h lk hw A S (xs (t + 1)) (xs (t + 2)) q e1) wy_X5_set ml_L_43 ⟨Nat.le_of_ble_eq_true rfl, Nat.le_of_ble_eq_true rfl⟩ rfl rfl (Nat.le_of_ble_eq_true rfl) (cE_le Z ht h 0 (Nat.zero_le _)) dL_law_314 rfl ?_
  refine g_aload_n 318 3 F dL_law_317 rfl rfl ?_
  refine g_sarg 324 1 F Z.2.1 Z.2.2.1 Z.2.2.2.1 hi ⟨ht, Z.2.2.2.2.2.2.2.1⟩ (by decide) ⟨rfl, rfl⟩ dL_law_318 dL_law_319 dL_law_321 dL_law_322 dL_law_323 rfl rfl ?_
  refine g_sarg 330 2 F Z.2.1 Z.2.2.1 Z.2.2.2.1 hi ⟨ht, Z.2.2.2.2.2.2.2.1⟩ (by decide) ⟨rfl, rfl⟩ dL_law_324 dL_law_325 dL_law_327 dL_law_328 dL_law_329 rfl rfl ?_
  refine g_lM 333 (st := [.int (bI q.1)]) F (fun A => c_X6_set (kl K) B.1 (B.2.1 0) (B.2.1 1) ad A T (xs (t + 1)) (xs (t + 2)) q' e2) wy_X6_set ml_L_47 ⟨Nat.le_of_ble_eq_true rfl, Nat.le_of_ble_eq_true rfl⟩ rfl rfl (Nat.le_of_ble_eq_true rfl) (cE_le Z ht h 0 (Nat.zero_le _)) dL_law_330 rfl ?_
  refine g_icmp_eq 1103 336 F dL_law_333 rfl rfl (rfl : (if (bI q.1) = (bI q'.1) then true else false) = _) (fun _ _ => ?_) (fun hne _ => absurd (by rw [e3]) hne)
  exact G.widen (cE h (t + 6)) (sE h (t + 6)) (by unfold cE; omega) (by unfold sE; omega) (hN sa h lk q.2 q'.2 f hr2)
set_option maxHeartbeats 1000000 in
theorem law_at {K : Ctx} {B : CB} {cJ : ClassId} {ad : Nat → Nat} {a0 b L t : Nat} {xs : Nat → Int32} {i : Int32} {R : RL2} {sa : Nat → Nat} {h : Nat → Bool} {lk : Nat × Nat} {S : CS} {T : MS} {f : Nat → Int64} (Z : LF K B cJ b L xs) (hO : LawOk R) (hr : R h lk S T) (hi : i.toInt = (t : Int)) (ht : t + 6 ≤ L) (hN : ∀ (sa' : Nat → Nat) (h' : Nat → Bool) (lk' : Nat × Nat) (S' : CS) (T' : MS) (f' : Nat → Int64), R h' lk' S' T' → G K (rX B.1 (kA K)) (cE h' (t + 6)) (sE h' (t + 6)) 1103 (l3 B cJ ad a0 sa' h' lk' S' T' f') (lv0 B ad a0 b i) []) : G K (rX B.1 (kA K)) (cE h t) (sE h t) 338 (l3 B cJ ad a0 sa h lk S T f) (lv0 B ad a0 b i) [] := by
  have F := Z.1
  have hw := hO.1 h lk S T hr
  obtain ⟨q, q', e1, e2, e3, hr2⟩ := hO.2.2.2.2.2.2.2.1 h lk S T (xs (t + 1)) (xs (t + 2)) hr
  refine g_aload_n 339 2 F dL_law_338 rfl rfl ?_
  refine g_sarg 345 1 F Z.2.1 Z.2.2.1 Z.2.2.2.1 hi ⟨ht, Z.2.2.2.2.2.2.2.1⟩ (by decide) ⟨rfl, rfl⟩ dL_law_339 dL_law_340 dL_law_342 dL_law_343 dL_law_344 rfl rfl ?_
  refine g_sarg 351 2 F Z.2.1 Z.2.2.1 Z.2.2.2.1 hi ⟨ht, Z.2.2.2.2.2.2.2.1⟩ (by decide) ⟨rfl, rfl⟩ dL_law_345 dL_law_346 dL_law_348 dL_law_349 dL_law_350 rfl rfl ?_
  refine g_lC 354 (st := []) F (fun A => c_X5_at (kl K) B sa h lk hw A S (xs (t + 1)) (xs (t + 2)) q e1) wy_X5_at ml_L_48 ⟨Nat.le_of_ble_eq_true rfl, Nat.le_of_ble_eq_true rfl⟩ rfl rfl (Nat.le_of_ble_eq_true rfl) (cE_le Z ht h 0 (Nat.zero_le _)) dL_law_351 rfl ?_
  refine g_aload_n 355 3 F dL_law_354 rfl rfl ?_
  refine g_sarg 361 1 F Z.2.1 Z.2.2.1 Z.2.2.2.1 hi ⟨ht, Z.2.2.2.2.2.2.2.1⟩ (by decide) ⟨rfl, rfl⟩ dL_law_355 dL_law_356 dL_law_358 dL_law_359 dL_law_360 rfl rfl ?_
  refine g_sarg 367 2 F Z.2.1 Z.2.2.1 Z.2.2.2.1 hi ⟨ht, Z.2.2.2.2.2.2.2.1⟩ (by decide) ⟨rfl, rfl⟩ dL_law_361 dL_law_362 dL_law_364 dL_law_365 dL_law_366 rfl rfl ?_
  refine g_lM 370 (st := [.int q.1]) F (fun A => c_X6_at (kl K) B.1 (B.2.1 0) (B.2.1 1) ad A T (xs (t + 1)) (xs (t + 2)) q' e2) wy_X6_at ml_L_51 ⟨Nat.le_of_ble_eq_true rfl, Nat.le_of_ble_eq_true rfl⟩ rfl rfl (Nat.le_of_ble_eq_true rfl) (cE_le Z ht h 0 (Nat.zero_le _)) dL_law_367 rfl ?_
  refine g_icmp_eq 1103 373 F dL_law_370 rfl rfl (rfl : (if q.1 = q'.1 then true else false) = _) (fun _ _ => ?_) (fun hne _ => absurd (by rw [e3]) hne)
  exact G.widen (cE h (t + 6)) (sE h (t + 6)) (by unfold cE; omega) (by unfold sE; omega) (hN sa h lk q.2 q'.2 f hr2)
set_option maxHeartbeats 1000000 in
theorem law_file {K : Ctx} {B : CB} {cJ : ClassId} {ad : Nat → Nat} {a0 b L t : Nat} {xs : Nat → Int32} {i : Int32} {R : RL2} {sa : Nat → Nat} {h : Nat → Bool} {lk : Nat × Nat} {S : CS} {T : MS} {f : Nat → Int64} (Z : LF K B cJ b L xs) (hO : LawOk R) (hr : R h lk S T) (hi : i.toInt = (t : Int)) (ht : t + 6 ≤ L) (hN : ∀ (sa' : Nat → Nat) (h' : Nat → Bool) (lk' : Nat × Nat) (S' : CS) (T' : MS) (f' : Nat → Int64), R h' lk' S' T' → G K (rX B.1 (kA K)) (cE h' (t + 6)) (sE h' (t + 6)) 1103 (l3 B cJ ad a0 sa' h' lk' S' T' f') (lv0 B ad a0 b i) []) : G K (rX B.1 (kA K)) (cE h t) (sE h t) 375 (l3 B cJ ad a0 sa h lk S T f) (lv0 B ad a0 b i) [] := by
  have F := Z.1
  have hw := hO.1 h lk S T hr
  obtain ⟨q, q', e1, e2, e3, hr2⟩ := hO.2.2.2.2.2.2.2.2.1 h lk S T (xs (t + 1)) (xs (t + 2)) (xs (t + 3)) (xs (t + 4)) (xs (t + 5)) hr
  refine g_aload_n 376 2 F dL_law_375 rfl rfl ?_
  refine g_sarg 382 1 F Z.2.1 Z.2.2.1 Z.2.2.2.1 hi ⟨ht, Z.2.2.2.2.2.2.2.1⟩ (by decide) ⟨rfl, rfl⟩ dL_law_376 dL_law_377 dL_law_379 dL_law_380 dL_law_381 rfl rfl ?_
  refine g_sarg 388 2 F Z.2.1 Z.2.2.1 Z.2.2.2.1 hi ⟨ht, Z.2.2.2.2.2.2.2.1⟩ (by decide) ⟨rfl, rfl⟩ dL_law_382 dL_law_383 dL_law_385 dL_law_386 dL_law_387 rfl rfl ?_
  refine g_sarg 394 3 F Z.2.1 Z.2.2.1 Z.2.2.2.1 hi ⟨ht, Z.2.2.2.2.2.2.2.1⟩ (by decide) ⟨rfl, rfl⟩ dL_law_388 dL_law_389 dL_law_391 dL_law_392 dL_law_393 rfl rfl ?_
  refine g_sarg 400 4 F Z.2.1 Z.2.2.1 Z.2.2.2.1 hi ⟨ht, Z.2.2.2.2.2.2.2.1⟩ (by decide) ⟨rfl, rfl⟩ dL_law_394 dL_law_395 dL_law_397 dL_law_398 dL_law_399 rfl rfl ?_
  refine g_sarg 406 5 F Z.2.1 Z.2.2.1 Z.2.2.2.1 hi ⟨ht, Z.2.2.2.2.2.2.2.1⟩ (by decide) ⟨rfl, rfl⟩ dL_law_400 dL_law_401 dL_law_403 dL_law_404 dL_law_405 rfl rfl ?_
  refine g_lC 409 (st := []) F (fun A => c_X5_file (kl K) B sa h lk hw A S (xs (t + 1)) (xs (t + 2)) (xs (t + 3)) (xs (t + 4)) (xs (t + 5)) q e1) wy_X5_file ml_L_52 ⟨Nat.le_of_ble_eq_true rfl, Nat.le_of_ble_eq_true rfl⟩ rfl rfl (Nat.le_of_ble_eq_true rfl) (cE_le Z ht h 0 (Nat.zero_le _)) dL_law_406 rfl ?_
  refine g_aload_n 410 3 F dL_law_409 rfl rfl ?_
  refine g_sarg 416 1 F Z.2.1 Z.2.2.1 Z.2.2.2.1 hi ⟨ht, Z.2.2.2.2.2.2.2.1⟩ (by decide) ⟨rfl, rfl⟩ dL_law_410 dL_law_411 dL_law_413 dL_law_414 dL_law_415 rfl rfl ?_
  refine g_sarg 422 2 F Z.2.1 Z.2.2.1 Z.2.2.2.1 hi ⟨ht, Z.2.2.2.2.2.2.2.1⟩ (by decide) ⟨rfl, rfl⟩ dL_law_416 dL_law_417 dL_law_419 dL_law_420 dL_law_421 rfl rfl ?_
  refine g_sarg 428 3 F Z.2.1 Z.2.2.1 Z.2.2.2.1 hi ⟨ht, Z.2.2.2.2.2.2.2.1⟩ (by decide) ⟨rfl, rfl⟩ dL_law_422 dL_law_423 dL_law_425 dL_law_426 dL_law_427 rfl rfl ?_
  refine g_sarg 434 4 F Z.2.1 Z.2.2.1 Z.2.2.2.1 hi ⟨ht, Z.2.2.2.2.2.2.2.1⟩ (by decide) ⟨rfl, rfl⟩ dL_law_428 dL_law_429 dL_law_431 dL_law_432 dL_law_433 rfl rfl ?_
  refine g_sarg 440 5 F Z.2.1 Z.2.2.1 Z.2.2.2.1 hi ⟨ht, Z.2.2.2.2.2.2.2.1⟩ (by decide) ⟨rfl, rfl⟩ dL_law_434 dL_law_435 dL_law_437 dL_law_438 dL_law_439 rfl rfl ?_
  refine g_lM 443 (st := [.int q.1]) F (fun A => c_X6_file (kl K) B.1 (B.2.1 0) (B.2.1 1) ad A T (xs (t + 1)) (xs (t + 2)) (xs (t + 3)) (xs (t + 4)) (xs (t + 5)) q' e2) wy_X6_file ml_L_55 ⟨Nat.le_of_ble_eq_true rfl, Nat.le_of_ble_eq_true rfl⟩ rfl rfl (Nat.le_of_ble_eq_true rfl) (cE_le Z ht h 0 (Nat.zero_le _)) dL_law_440 rfl ?_
  refine g_icmp_eq 1103 446 F dL_law_443 rfl rfl (rfl : (if q.1 = q'.1 then true else false) = _) (fun _ _ => ?_) (fun hne _ => absurd (by rw [e3]) hne)
  exact G.widen (cE h (t + 6)) (sE h (t + 6)) (by unfold cE; omega) (by unfold sE; omega) (hN sa h lk q.2 q'.2 f hr2)
set_option maxHeartbeats 1000000 in
theorem law_test {K : Ctx} {B : CB} {cJ : ClassId} {ad : Nat → Nat} {a0 b L t : Nat} {xs : Nat → Int32} {i : Int32} {R : RL2} {sa : Nat → Nat} {h : Nat → Bool} {lk : Nat × Nat} {S : CS} {T : MS} {f : Nat → Int64} (Z : LF K B cJ b L xs) (hO : LawOk R) (hr : R h lk S T) (hi : i.toInt = (t : Int)) (ht : t + 6 ≤ L) (hN : ∀ (sa' : Nat → Nat) (h' : Nat → Bool) (lk' : Nat × Nat) (S' : CS) (T' : MS) (f' : Nat → Int64), R h' lk' S' T' → G K (rX B.1 (kA K)) (cE h' (t + 6)) (sE h' (t + 6)) 1103 (l3 B cJ ad a0 sa' h' lk' S' T' f') (lv0 B ad a0 b i) []) : G K (rX B.1 (kA K)) (cE h t) (sE h t) 448 (l3 B cJ ad a0 sa h lk S T f) (lv0 B ad a0 b i) [] := by
  have F := Z.1
  have hw := hO.1 h lk S T hr
  obtain ⟨q, q', e1, e2, e3, hr2⟩ := hO.2.2.2.2.2.2.2.2.2.1 h lk S T (xs (t + 1)) (xs (t + 2)) (!((xs (t + 3)) == 0)) hr
  refine g_aload_n 449 2 F dL_law_448 rfl rfl ?_
  refine g_sarg 455 1 F Z.2.1 Z.2.2.1 Z.2.2.2.1 hi ⟨ht, Z.2.2.2.2.2.2.2.1⟩ (by decide) ⟨rfl, rfl⟩ dL_law_449 dL_law_450 dL_law_452 dL_law_453 dL_law_454 rfl rfl ?_
  refine g_sarg 461 2 F Z.2.1 Z.2.2.1 Z.2.2.2.1 hi ⟨ht, Z.2.2.2.2.2.2.2.1⟩ (by decide) ⟨rfl, rfl⟩ dL_law_455 dL_law_456 dL_law_458 dL_law_459 dL_law_460 rfl rfl ?_
  refine g_sarg 467 3 F Z.2.1 Z.2.2.1 Z.2.2.2.1 hi ⟨ht, Z.2.2.2.2.2.2.2.1⟩ (by decide) ⟨rfl, rfl⟩ dL_law_461 dL_law_462 dL_law_464 dL_law_465 dL_law_466 rfl rfl ?_
  refine g_bool 475 F dL_law_467 dL_law_470 dL_law_471 dL_law_474 rfl ?_
  refine g_lC 478 (st := []) F (fun A => c_X5_test (kl K) B sa h lk hw A S (xs (t + 1)) (xs (t + 2)) (!((xs (t + 3)) == 0)) q e1) wy_X5_test ml_L_56 ⟨Nat.le_of_ble_eq_true rfl, Nat.le_of_ble_eq_true rfl⟩ rfl rfl (Nat.le_of_ble_eq_true rfl) (cE_le Z ht h 0 (Nat.zero_le _)) dL_law_475 rfl ?_
  refine g_aload_n 479 3 F dL_law_478 rfl rfl ?_
  refine g_sarg 485 1 F Z.2.1 Z.2.2.1 Z.2.2.2.1 hi ⟨ht, Z.2.2.2.2.2.2.2.1⟩ (by decide) ⟨rfl, rfl⟩ dL_law_479 dL_law_480 dL_law_482 dL_law_483 dL_law_484 rfl rfl ?_
  refine g_sarg 491 2 F Z.2.1 Z.2.2.1 Z.2.2.2.1 hi ⟨ht, Z.2.2.2.2.2.2.2.1⟩ (by decide) ⟨rfl, rfl⟩ dL_law_485 dL_law_486 dL_law_488 dL_law_489 dL_law_490 rfl rfl ?_
  refine g_sarg 497 3 F Z.2.1 Z.2.2.1 Z.2.2.2.1 hi ⟨ht, Z.2.2.2.2.2.2.2.1⟩ (by decide) ⟨rfl, rfl⟩ dL_law_491 dL_law_492 dL_law_494 dL_law_495 dL_law_496 rfl rfl ?_
  refine g_bool 505 F dL_law_497 dL_law_500 dL_law_501 dL_law_504 rfl ?_
  refine g_lM 508 (st := [.int q.1]) F (fun A => c_X6_test (kl K) B.1 (B.2.1 0) (B.2.1 1) ad A T (xs (t + 1)) (xs (t + 2)) (!((xs (t + 3)) == 0)) q' e2) wy_X6_test ml_L_60 ⟨Nat.le_of_ble_eq_true rfl, Nat.le_of_ble_eq_true rfl⟩ rfl rfl (Nat.le_of_ble_eq_true rfl) (cE_le Z ht h 0 (Nat.zero_le _)) dL_law_505 rfl ?_
  refine g_icmp_eq 1103 511 F dL_law_508 rfl rfl (rfl : (if q.1 = q'.1 then true else false) = _) (fun _ _ => ?_) (fun hne _ => absurd (by rw [e3]) hne)
  exact G.widen (cE h (t + 6)) (sE h (t + 6)) (by unfold cE; omega) (by unfold sE; omega) (hN sa h lk q.2 q'.2 f hr2)
set_option maxHeartbeats 1000000 in
theorem law_appeal {K : Ctx} {B : CB} {cJ : ClassId} {ad : Nat → Nat} {a0 b L t : Nat} {xs : Nat → Int32} {i : Int32} {R : RL2} {sa : Nat → Nat} {h : Nat → Bool} {lk : Nat × Nat} {S : CS} {T : MS} {f : Nat → Int64} (Z : LF K B cJ b L xs) (hO : LawOk R) (hr : R h lk S T) (hi : i.toInt = (t : Int)) (ht : t + 6 ≤ L) (hN : ∀ (sa' : Nat → Nat) (h' : Nat → Bool) (lk' : Nat × Nat) (S' : CS) (T' : MS) (f' : Nat → Int64), R h' lk' S' T' → G K (rX B.1 (kA K)) (cE h' (t + 6)) (sE h' (t + 6)) 1103 (l3 B cJ ad a0 sa' h' lk' S' T' f') (lv0 B ad a0 b i) []) : G K (rX B.1 (kA K)) (cE h t) (sE h t) 513 (l3 B cJ ad a0 sa h lk S T f) (lv0 B ad a0 b i) [] := by
  have F := Z.1
  have hw := hO.1 h lk S T hr
  obtain ⟨q, q', e1, e2, e3, hr2⟩ := hO.2.2.2.2.2.2.2.2.2.2.1 h lk S T (xs (t + 1)) (xs (t + 2)) hr
  refine g_aload_n 514 2 F dL_law_513 rfl rfl ?_
  refine g_sarg 520 1 F Z.2.1 Z.2.2.1 Z.2.2.2.1 hi ⟨ht, Z.2.2.2.2.2.2.2.1⟩ (by decide) ⟨rfl, rfl⟩ dL_law_514 dL_law_515 dL_law_517 dL_law_518 dL_law_519 rfl rfl ?_
  refine g_sarg 526 2 F Z.2.1 Z.2.2.1 Z.2.2.2.1 hi ⟨ht, Z.2.2.2.2.2.2.2.1⟩ (by decide) ⟨rfl, rfl⟩ dL_law_520 dL_law_521 dL_law_523 dL_law_524 dL_law_525 rfl rfl ?_
  refine g_lC 529 (st := []) F (fun A => c_X5_appeal (kl K) B sa h lk hw A S (xs (t + 1)) (xs (t + 2)) q e1) wy_X5_appeal ml_L_61 ⟨Nat.le_of_ble_eq_true rfl, Nat.le_of_ble_eq_true rfl⟩ rfl rfl (Nat.le_of_ble_eq_true rfl) (cE_le Z ht h 0 (Nat.zero_le _)) dL_law_526 rfl ?_
  refine g_aload_n 530 3 F dL_law_529 rfl rfl ?_
  refine g_sarg 536 1 F Z.2.1 Z.2.2.1 Z.2.2.2.1 hi ⟨ht, Z.2.2.2.2.2.2.2.1⟩ (by decide) ⟨rfl, rfl⟩ dL_law_530 dL_law_531 dL_law_533 dL_law_534 dL_law_535 rfl rfl ?_
  refine g_sarg 542 2 F Z.2.1 Z.2.2.1 Z.2.2.2.1 hi ⟨ht, Z.2.2.2.2.2.2.2.1⟩ (by decide) ⟨rfl, rfl⟩ dL_law_536 dL_law_537 dL_law_539 dL_law_540 dL_law_541 rfl rfl ?_
  refine g_lM 545 (st := [.int (bI q.1)]) F (fun A => c_X6_appeal (kl K) B.1 (B.2.1 0) (B.2.1 1) ad A T (xs (t + 1)) (xs (t + 2)) q' e2) wy_X6_appeal ml_L_64 ⟨Nat.le_of_ble_eq_true rfl, Nat.le_of_ble_eq_true rfl⟩ rfl rfl (Nat.le_of_ble_eq_true rfl) (cE_le Z ht h 0 (Nat.zero_le _)) dL_law_542 rfl ?_
  refine g_icmp_eq 1103 548 F dL_law_545 rfl rfl (rfl : (if (bI q.1) = (bI q'.1) then true else false) = _) (fun _ _ => ?_) (fun hne _ => absurd (by rw [e3]) hne)
  exact G.widen (cE h (t + 6)) (sE h (t + 6)) (by unfold cE; omega) (by unfold sE; omega) (hN sa h lk q.2 q'.2 f hr2)
set_option maxHeartbeats 1000000 in
theorem law_count {K : Ctx} {B : CB} {cJ : ClassId} {ad : Nat → Nat} {a0 b L t : Nat} {xs : Nat → Int32} {i : Int32} {R : RL2} {sa : Nat → Nat} {h : Nat → Bool} {lk : Nat × Nat} {S : CS} {T : MS} {f : Nat → Int64} (Z : LF K B cJ b L xs) (hO : LawOk R) (hr : R h lk S T) (hi : i.toInt = (t : Int)) (ht : t + 6 ≤ L) (hN : ∀ (sa' : Nat → Nat) (h' : Nat → Bool) (lk' : Nat × Nat) (S' : CS) (T' : MS) (f' : Nat → Int64), R h' lk' S' T' → G K (rX B.1 (kA K)) (cE h' (t + 6)) (sE h' (t + 6)) 1103 (l3 B cJ ad a0 sa' h' lk' S' T' f') (lv0 B ad a0 b i) []) : G K (rX B.1 (kA K)) (cE h t) (sE h t) 550 (l3 B cJ ad a0 sa h lk S T f) (lv0 B ad a0 b i) [] := by
  have F := Z.1
  have hw := hO.1 h lk S T hr
  obtain ⟨q, q', e1, e2, e3, hr2⟩ := hO.2.2.2.2.2.2.2.2.2.2.2.1 h lk S T (xs (t + 1)) hr
  refine g_aload_n 551 2 F dL_law_550 rfl rfl ?_
  refine g_sarg 557 1 F Z.2.1 Z.2.2.1 Z.2.2.2.1 hi ⟨ht, Z.2.2.2.2.2.2.2.1⟩ (by decide) ⟨rfl, rfl⟩ dL_law_551 dL_law_552 dL_law_554 dL_law_555 dL_law_556 rfl rfl ?_
  refine g_lC 560 (st := []) F (fun A => c_X5_count (kl K) B sa h lk hw A S (xs (t + 1)) q e1) wy_X5_count ml_L_65 ⟨Nat.le_of_ble_eq_true rfl, Nat.le_of_ble_eq_true rfl⟩ rfl rfl (Nat.le_of_ble_eq_true rfl) (cE_le Z ht h 0 (Nat.zero_le _)) dL_law_557 rfl ?_
  refine g_aload_n 561 3 F dL_law_560 rfl rfl ?_
  refine g_sarg 567 1 F Z.2.1 Z.2.2.1 Z.2.2.2.1 hi ⟨ht, Z.2.2.2.2.2.2.2.1⟩ (by decide) ⟨rfl, rfl⟩ dL_law_561 dL_law_562 dL_law_564 dL_law_565 dL_law_566 rfl rfl ?_
  refine g_lM 570 (st := [.int q]) F (fun A => c_X6_count (kl K) B.1 (B.2.1 0) (B.2.1 1) ad A T (xs (t + 1)) q' e2) wy_X6_count ml_L_68 ⟨Nat.le_of_ble_eq_true rfl, Nat.le_of_ble_eq_true rfl⟩ rfl rfl (Nat.le_of_ble_eq_true rfl) (cE_le Z ht h 0 (Nat.zero_le _)) dL_law_567 rfl ?_
  refine g_icmp_eq 1103 573 F dL_law_570 rfl rfl (rfl : (if q = q'.1 then true else false) = _) (fun _ _ => ?_) (fun hne _ => absurd (by rw [e3]) hne)
  exact G.widen (cE h (t + 6)) (sE h (t + 6)) (by unfold cE; omega) (by unfold sE; omega) (hN sa h lk S q'.2 f hr2)
set_option maxHeartbeats 1000000 in
theorem law_of {K : Ctx} {B : CB} {cJ : ClassId} {ad : Nat → Nat} {a0 b L t : Nat} {xs : Nat → Int32} {i : Int32} {R : RL2} {sa : Nat → Nat} {h : Nat → Bool} {lk : Nat × Nat} {S : CS} {T : MS} {f : Nat → Int64} (Z : LF K B cJ b L xs) (hO : LawOk R) (hr : R h lk S T) (hi : i.toInt = (t : Int)) (ht : t + 6 ≤ L) (hN : ∀ (sa' : Nat → Nat) (h' : Nat → Bool) (lk' : Nat × Nat) (S' : CS) (T' : MS) (f' : Nat → Int64), R h' lk' S' T' → G K (rX B.1 (kA K)) (cE h' (t + 6)) (sE h' (t + 6)) 1103 (l3 B cJ ad a0 sa' h' lk' S' T' f') (lv0 B ad a0 b i) []) : G K (rX B.1 (kA K)) (cE h t) (sE h t) 575 (l3 B cJ ad a0 sa h lk S T f) (lv0 B ad a0 b i) [] := by
  have F := Z.1
  have hw := hO.1 h lk S T hr
  obtain ⟨q, q', e1, e2, e3, e4, hr2⟩ := hO.2.2.2.2.2.2.2.2.2.2.2.2.1 h lk S T (xs (t + 1)) (xs (t + 2)) hr
  refine g_aload_n 576 2 F dL_law_575 rfl rfl ?_
  refine g_sarg 582 1 F Z.2.1 Z.2.2.1 Z.2.2.2.1 hi ⟨ht, Z.2.2.2.2.2.2.2.1⟩ (by decide) ⟨rfl, rfl⟩ dL_law_576 dL_law_577 dL_law_579 dL_law_580 dL_law_581 rfl rfl ?_
  refine g_sarg 588 2 F Z.2.1 Z.2.2.1 Z.2.2.2.1 hi ⟨ht, Z.2.2.2.2.2.2.2.1⟩ (by decide) ⟨rfl, rfl⟩ dL_law_582 dL_law_583 dL_law_585 dL_law_586 dL_law_587 rfl rfl ?_
  refine g_aload_n 589 4 F dL_law_588 rfl rfl ?_
  refine g_lO 592 Z.2.2.2.2.1 hw F e1 (cE_le Z ht h 6 (Nat.le_refl _) |> fun z => ⟨Nat.le_trans (Nat.add_le_add_left (by decide) _) z.1, z.2⟩) dL_law_589 rfl ?_
  refine g_istore 594 [(5, .int (lofR q)), (4, .int i), (0, .ref b), (1, .ref (cAf B 0)), (2, .ref (ad 0)), (3, .ref a0)] F dL_law_592 (lt_kn Z.2.2.2.2.2.1 (by decide)) rfl rfl ?_
  refine G.lvs [1, 2, 3, 4, 5, 0] (lv' := [(4, .int i), (0, .ref b), (1, .ref (cAf B 0)), (2, .ref (ad 0)), (3, .ref a0), (5, .int (lofR q))]) rfl ?_
  refine g_aload_n 595 3 F dL_law_594 rfl rfl ?_
  refine g_sarg 601 1 F Z.2.1 Z.2.2.1 Z.2.2.2.1 hi ⟨ht, Z.2.2.2.2.2.2.2.1⟩ (by decide) ⟨rfl, rfl⟩ dL_law_595 dL_law_596 dL_law_598 dL_law_599 dL_law_600 rfl rfl ?_
  refine g_sarg 607 2 F Z.2.1 Z.2.2.1 Z.2.2.2.1 hi ⟨ht, Z.2.2.2.2.2.2.2.1⟩ (by decide) ⟨rfl, rfl⟩ dL_law_601 dL_law_602 dL_law_604 dL_law_605 dL_law_606 rfl rfl ?_
  refine g_lM 610 (st := []) F (fun A => c_X6_of (kl K) B.1 (B.2.1 0) (B.2.1 1) ad A T (xs (t + 1)) (xs (t + 2)) q' e2) wy_X6_of ml_L_74 ⟨Nat.le_of_ble_eq_true rfl, Nat.le_of_ble_eq_true rfl⟩ rfl rfl (Nat.le_of_ble_eq_true rfl) ⟨(cE_le Z ht h 6 (Nat.le_refl _) |> fun z => Nat.le_trans (Nat.add_le_add_left (by decide) _) z.1), (cE_le Z ht h 6 (Nat.le_refl _)).2⟩ dL_law_607 rfl ?_
  refine g_istore 612 [(6, .int q'.1), (4, .int i), (0, .ref b), (1, .ref (cAf B 0)), (2, .ref (ad 0)), (3, .ref a0), (5, .int (lofR q))] F dL_law_610 (lt_kn Z.2.2.2.2.2.1 (by decide)) rfl rfl ?_
  refine g_aload_n 613 4 F dL_law_612 rfl rfl ?_
  refine g_lM 616 (st := []) F (fun A => c_X6_thrown (kl K) B.1 (B.2.1 0) (B.2.1 1) ad A q'.2 _ e3) wy_X6_thrown ml_L_75 ⟨Nat.le_of_ble_eq_true rfl, Nat.le_of_ble_eq_true rfl⟩ rfl rfl (Nat.le_of_ble_eq_true rfl) ⟨(cE_le Z ht h 6 (Nat.le_refl _) |> fun z => Nat.le_trans (Nat.add_le_add_left (by decide) _) z.1), (cE_le Z ht h 6 (Nat.le_refl _)).2⟩ dL_law_613 rfl ?_
  refine g_iload 618 6 F dL_law_616 rfl rfl ?_
  refine g_icmp_eq 623 621 F dL_law_618 rfl rfl (rfl : (if lofR q = lofR q then true else false) = _) (fun _ _ => ?_) (fun hne _ => absurd rfl hne)
  refine g_iload 625 6 F dL_law_623 rfl rfl ?_
  have hend : G K (rX B.1 (kA K)) (cE h t + 1) (sE h t + 6) 1103 (l3 B cJ ad a0 sa h lk q.2 q'.2 (lofV q f)) [(6, .int q'.1), (4, .int i), (0, .ref b), (1, .ref (cAf B 0)), (2, .ref (ad 0)), (3, .ref a0), (5, .int (lofR q))] [] := by
    refine G.lvs [1, 2, 3, 4, 5] rfl ?_
    exact G.widen (cE h (t + 6)) (sE h (t + 6)) (by unfold cE; omega) (by unfold sE; omega) (hN sa h lk q.2 q'.2 (lofV q f) hr2)
  refine g_if_ne 640 628 F dL_law_625 rfl rfl (rfl : (if lofR q = 0 then true else false) = _) (fun _ _ => ?_) (fun h0 _ => ?_)
  · exact g_goto 1103 F dL_law_640 rfl hend
  · obtain ⟨r, hq⟩ : ∃ r, q.1 = some r := by
      cases hq : q.1 with
      | none => exfalso; unfold lofR at h0; rw [if_pos hq] at h0; exact absurd h0 (by decide)
      | some r => exact ⟨r, rfl⟩
    have h4 := e4 r hq
    refine g_aload_n 629 5 F dL_law_628 rfl rfl ?_
    refine g_iconst 630 F dL_law_629 rfl rfl ?_
    intro H locs ls hX hS hls
    refine va_lald (D := B.1) F.1 F.2.1 F.2.2.2.2.2.1.2 hX.1 ((cWl B sa h lk q.2).length + 10) 0 ((pre_get _ _ 10).trans rfl) rfl (show ¬ ((0 : Int32) < 0 ∨ 1 ≤ (0 : Int32).toNatClampNeg) by decide) dL_law_630 ?_
    have hv : lofV q f (Int32.ofInt 0).toNatClampNeg = r.toInt64 := by unfold lofV; rw [hq]; rfl
    rw [hv]
    have hG : G K (rX B.1 (kA K)) (cE h t + 1) (sE h t + 6) 631 (l3 B cJ ad a0 sa h lk q.2 q'.2 (lofV q f)) [(6, .int q'.1), (4, .int i), (0, .ref b), (1, .ref (cAf B 0)), (2, .ref (ad 0)), (3, .ref a0), (5, .int (lofR q))] [.long r.toInt64] := by
      refine g_iload 633 0 F dL_law_631 rfl rfl ?_
      refine g_i2l 634 F dL_law_633 rfl ?_
      refine g_lcmp 635 F dL_law_634 rfl ?_
      refine g_if_eq 640 638 F dL_law_635 rfl rfl (rfl : (if lg_cmp r.toInt64 q'.1.toInt64 = 0 then true else false) = _) (fun _ _ => g_goto 1103 F dL_law_640 rfl hend) (fun hne _ => absurd (by rw [h4]; unfold lg_cmp; simp) hne)
    exact hG H locs ls hX hS hls
set_option maxHeartbeats 1000000 in
theorem law_filed {K : Ctx} {B : CB} {cJ : ClassId} {ad : Nat → Nat} {a0 b L t : Nat} {xs : Nat → Int32} {i : Int32} {R : RL2} {sa : Nat → Nat} {h : Nat → Bool} {lk : Nat × Nat} {S : CS} {T : MS} {f : Nat → Int64} (Z : LF K B cJ b L xs) (hO : LawOk R) (hr : R h lk S T) (hi : i.toInt = (t : Int)) (ht : t + 6 ≤ L) (hN : ∀ (sa' : Nat → Nat) (h' : Nat → Bool) (lk' : Nat × Nat) (S' : CS) (T' : MS) (f' : Nat → Int64), R h' lk' S' T' → G K (rX B.1 (kA K)) (cE h' (t + 6)) (sE h' (t + 6)) 1103 (l3 B cJ ad a0 sa' h' lk' S' T' f') (lv0 B ad a0 b i) []) : G K (rX B.1 (kA K)) (cE h t) (sE h t) 643 (l3 B cJ ad a0 sa h lk S T f) (lv0 B ad a0 b i) [] := by
  have F := Z.1
  have hw := hO.1 h lk S T hr
  obtain ⟨q, q', e1, e2, e3, hr2⟩ := hO.2.2.2.2.2.2.2.2.2.2.2.2.2.1 h lk S T (xs (t + 1)) (xs (t + 2)) (xs (t + 3)) hr
  refine g_aload_n 644 2 F dL_law_643 rfl rfl ?_
  refine g_sarg 650 1 F Z.2.1 Z.2.2.1 Z.2.2.2.1 hi ⟨ht, Z.2.2.2.2.2.2.2.1⟩ (by decide) ⟨rfl, rfl⟩ dL_law_644 dL_law_645 dL_law_647 dL_law_648 dL_law_649 rfl rfl ?_
  refine g_sarg 656 2 F Z.2.1 Z.2.2.1 Z.2.2.2.1 hi ⟨ht, Z.2.2.2.2.2.2.2.1⟩ (by decide) ⟨rfl, rfl⟩ dL_law_650 dL_law_651 dL_law_653 dL_law_654 dL_law_655 rfl rfl ?_
  refine g_sarg 662 3 F Z.2.1 Z.2.2.1 Z.2.2.2.1 hi ⟨ht, Z.2.2.2.2.2.2.2.1⟩ (by decide) ⟨rfl, rfl⟩ dL_law_656 dL_law_657 dL_law_659 dL_law_660 dL_law_661 rfl rfl ?_
  refine g_lC 665 (st := []) F (fun A => c_X5_filed (kl K) B sa h lk hw A S (xs (t + 1)) (xs (t + 2)) (xs (t + 3)) q e1) wy_X5_filed ml_L_78 ⟨Nat.le_of_ble_eq_true rfl, Nat.le_of_ble_eq_true rfl⟩ rfl rfl (Nat.le_of_ble_eq_true rfl) (cE_le Z ht h 0 (Nat.zero_le _)) dL_law_662 rfl ?_
  refine g_aload_n 666 3 F dL_law_665 rfl rfl ?_
  refine g_sarg 672 1 F Z.2.1 Z.2.2.1 Z.2.2.2.1 hi ⟨ht, Z.2.2.2.2.2.2.2.1⟩ (by decide) ⟨rfl, rfl⟩ dL_law_666 dL_law_667 dL_law_669 dL_law_670 dL_law_671 rfl rfl ?_
  refine g_sarg 678 2 F Z.2.1 Z.2.2.1 Z.2.2.2.1 hi ⟨ht, Z.2.2.2.2.2.2.2.1⟩ (by decide) ⟨rfl, rfl⟩ dL_law_672 dL_law_673 dL_law_675 dL_law_676 dL_law_677 rfl rfl ?_
  refine g_sarg 684 3 F Z.2.1 Z.2.2.1 Z.2.2.2.1 hi ⟨ht, Z.2.2.2.2.2.2.2.1⟩ (by decide) ⟨rfl, rfl⟩ dL_law_678 dL_law_679 dL_law_681 dL_law_682 dL_law_683 rfl rfl ?_
  refine g_lM 687 (st := [.int q]) F (fun A => c_X6_filed (kl K) B.1 (B.2.1 0) (B.2.1 1) ad A T (xs (t + 1)) (xs (t + 2)) (xs (t + 3)) q' e2) wy_X6_filed ml_L_82 ⟨Nat.le_of_ble_eq_true rfl, Nat.le_of_ble_eq_true rfl⟩ rfl rfl (Nat.le_of_ble_eq_true rfl) (cE_le Z ht h 0 (Nat.zero_le _)) dL_law_684 rfl ?_
  refine g_icmp_eq 1103 690 F dL_law_687 rfl rfl (rfl : (if q = q'.1 then true else false) = _) (fun _ _ => ?_) (fun hne _ => absurd (by rw [e3]) hne)
  exact G.widen (cE h (t + 6)) (sE h (t + 6)) (by unfold cE; omega) (by unfold sE; omega) (hN sa h lk S q'.2 f hr2)
set_option maxHeartbeats 1000000 in
theorem law_failure {K : Ctx} {B : CB} {cJ : ClassId} {ad : Nat → Nat} {a0 b L t : Nat} {xs : Nat → Int32} {i : Int32} {R : RL2} {sa : Nat → Nat} {h : Nat → Bool} {lk : Nat × Nat} {S : CS} {T : MS} {f : Nat → Int64} (Z : LF K B cJ b L xs) (hO : LawOk R) (hr : R h lk S T) (hi : i.toInt = (t : Int)) (ht : t + 6 ≤ L) (hN : ∀ (sa' : Nat → Nat) (h' : Nat → Bool) (lk' : Nat × Nat) (S' : CS) (T' : MS) (f' : Nat → Int64), R h' lk' S' T' → G K (rX B.1 (kA K)) (cE h' (t + 6)) (sE h' (t + 6)) 1103 (l3 B cJ ad a0 sa' h' lk' S' T' f') (lv0 B ad a0 b i) []) : G K (rX B.1 (kA K)) (cE h t) (sE h t) 692 (l3 B cJ ad a0 sa h lk S T f) (lv0 B ad a0 b i) [] := by
  have F := Z.1
  have hw := hO.1 h lk S T hr
  obtain ⟨q, q', e1, e2, e3, hr2⟩ := hO.2.2.2.2.2.2.2.2.2.2.2.2.2.2.1 h lk S T (xs (t + 1)) (xs (t + 2)) (xs (t + 3)) hr
  refine g_aload_n 693 2 F dL_law_692 rfl rfl ?_
  refine g_sarg 699 1 F Z.2.1 Z.2.2.1 Z.2.2.2.1 hi ⟨ht, Z.2.2.2.2.2.2.2.1⟩ (by decide) ⟨rfl, rfl⟩ dL_law_693 dL_law_694 dL_law_696 dL_law_697 dL_law_698 rfl rfl ?_
  refine g_sarg 705 2 F Z.2.1 Z.2.2.1 Z.2.2.2.1 hi ⟨ht, Z.2.2.2.2.2.2.2.1⟩ (by decide) ⟨rfl, rfl⟩ dL_law_699 dL_law_700 dL_law_702 dL_law_703 dL_law_704 rfl rfl ?_
  refine g_sarg 711 3 F Z.2.1 Z.2.2.1 Z.2.2.2.1 hi ⟨ht, Z.2.2.2.2.2.2.2.1⟩ (by decide) ⟨rfl, rfl⟩ dL_law_705 dL_law_706 dL_law_708 dL_law_709 dL_law_710 rfl rfl ?_
  refine g_lC 714 (st := []) F (fun A => c_X5_failure (kl K) B sa h lk hw A S (xs (t + 1)) (xs (t + 2)) (xs (t + 3)) q e1) wy_X5_failure ml_L_83 ⟨Nat.le_of_ble_eq_true rfl, Nat.le_of_ble_eq_true rfl⟩ rfl rfl (Nat.le_of_ble_eq_true rfl) (cE_le Z ht h 0 (Nat.zero_le _)) dL_law_711 rfl ?_
  refine g_aload_n 715 3 F dL_law_714 rfl rfl ?_
  refine g_sarg 721 1 F Z.2.1 Z.2.2.1 Z.2.2.2.1 hi ⟨ht, Z.2.2.2.2.2.2.2.1⟩ (by decide) ⟨rfl, rfl⟩ dL_law_715 dL_law_716 dL_law_718 dL_law_719 dL_law_720 rfl rfl ?_
  refine g_sarg 727 2 F Z.2.1 Z.2.2.1 Z.2.2.2.1 hi ⟨ht, Z.2.2.2.2.2.2.2.1⟩ (by decide) ⟨rfl, rfl⟩ dL_law_721 dL_law_722 dL_law_724 dL_law_725 dL_law_726 rfl rfl ?_
  refine g_sarg 733 3 F Z.2.1 Z.2.2.1 Z.2.2.2.1 hi ⟨ht, Z.2.2.2.2.2.2.2.1⟩ (by decide) ⟨rfl, rfl⟩ dL_law_727 dL_law_728 dL_law_730 dL_law_731 dL_law_732 rfl rfl ?_
  refine g_lM 736 (st := [.int q.1]) F (fun A => c_X6_failure (kl K) B.1 (B.2.1 0) (B.2.1 1) ad A T (xs (t + 1)) (xs (t + 2)) (xs (t + 3)) q' e2) wy_X6_failure ml_L_86 ⟨Nat.le_of_ble_eq_true rfl, Nat.le_of_ble_eq_true rfl⟩ rfl rfl (Nat.le_of_ble_eq_true rfl) (cE_le Z ht h 0 (Nat.zero_le _)) dL_law_733 rfl ?_
  refine g_icmp_eq 1103 739 F dL_law_736 rfl rfl (rfl : (if q.1 = q'.1 then true else false) = _) (fun _ _ => ?_) (fun hne _ => absurd (by rw [e3]) hne)
  exact G.widen (cE h (t + 6)) (sE h (t + 6)) (by unfold cE; omega) (by unfold sE; omega) (hN sa h lk q.2 q'.2 f hr2)
set_option maxHeartbeats 1000000 in
theorem law_violation {K : Ctx} {B : CB} {cJ : ClassId} {ad : Nat → Nat} {a0 b L t : Nat} {xs : Nat → Int32} {i : Int32} {R : RL2} {sa : Nat → Nat} {h : Nat → Bool} {lk : Nat × Nat} {S : CS} {T : MS} {f : Nat → Int64} (Z : LF K B cJ b L xs) (hO : LawOk R) (hr : R h lk S T) (hi : i.toInt = (t : Int)) (ht : t + 6 ≤ L) (hN : ∀ (sa' : Nat → Nat) (h' : Nat → Bool) (lk' : Nat × Nat) (S' : CS) (T' : MS) (f' : Nat → Int64), R h' lk' S' T' → G K (rX B.1 (kA K)) (cE h' (t + 6)) (sE h' (t + 6)) 1103 (l3 B cJ ad a0 sa' h' lk' S' T' f') (lv0 B ad a0 b i) []) : G K (rX B.1 (kA K)) (cE h t) (sE h t) 741 (l3 B cJ ad a0 sa h lk S T f) (lv0 B ad a0 b i) [] := by
  have F := Z.1
  have hw := hO.1 h lk S T hr
  obtain ⟨q, q', e1, e2, e3, hr2⟩ := hO.2.2.2.2.2.2.2.2.2.2.2.2.2.2.2.1 h lk S T (xs (t + 1)) (xs (t + 2)) hr
  refine g_aload_n 742 2 F dL_law_741 rfl rfl ?_
  refine g_sarg 748 1 F Z.2.1 Z.2.2.1 Z.2.2.2.1 hi ⟨ht, Z.2.2.2.2.2.2.2.1⟩ (by decide) ⟨rfl, rfl⟩ dL_law_742 dL_law_743 dL_law_745 dL_law_746 dL_law_747 rfl rfl ?_
  refine g_sarg 754 2 F Z.2.1 Z.2.2.1 Z.2.2.2.1 hi ⟨ht, Z.2.2.2.2.2.2.2.1⟩ (by decide) ⟨rfl, rfl⟩ dL_law_748 dL_law_749 dL_law_751 dL_law_752 dL_law_753 rfl rfl ?_
  refine g_lC 757 (st := []) F (fun A => c_X5_violation (kl K) B sa h lk hw A S (xs (t + 1)) (xs (t + 2)) q e1) wy_X5_violation ml_L_87 ⟨Nat.le_of_ble_eq_true rfl, Nat.le_of_ble_eq_true rfl⟩ rfl rfl (Nat.le_of_ble_eq_true rfl) (cE_le Z ht h 0 (Nat.zero_le _)) dL_law_754 rfl ?_
  refine g_aload_n 758 3 F dL_law_757 rfl rfl ?_
  refine g_sarg 764 1 F Z.2.1 Z.2.2.1 Z.2.2.2.1 hi ⟨ht, Z.2.2.2.2.2.2.2.1⟩ (by decide) ⟨rfl, rfl⟩ dL_law_758 dL_law_759 dL_law_761 dL_law_762 dL_law_763 rfl rfl ?_
  refine g_sarg 770 2 F Z.2.1 Z.2.2.1 Z.2.2.2.1 hi ⟨ht, Z.2.2.2.2.2.2.2.1⟩ (by decide) ⟨rfl, rfl⟩ dL_law_764 dL_law_765 dL_law_767 dL_law_768 dL_law_769 rfl rfl ?_
  refine g_lM 773 (st := [.int q.1]) F (fun A => c_X6_violation (kl K) B.1 (B.2.1 0) (B.2.1 1) ad A T (xs (t + 1)) (xs (t + 2)) q' e2) wy_X6_violation ml_L_90 ⟨Nat.le_of_ble_eq_true rfl, Nat.le_of_ble_eq_true rfl⟩ rfl rfl (Nat.le_of_ble_eq_true rfl) (cE_le Z ht h 0 (Nat.zero_le _)) dL_law_770 rfl ?_
  refine g_icmp_eq 1103 776 F dL_law_773 rfl rfl (rfl : (if q.1 = q'.1 then true else false) = _) (fun _ _ => ?_) (fun hne _ => absurd (by rw [e3]) hne)
  exact G.widen (cE h (t + 6)) (sE h (t + 6)) (by unfold cE; omega) (by unfold sE; omega) (hN sa h lk q.2 q'.2 f hr2)
set_option maxHeartbeats 1000000 in
theorem law_hole {K : Ctx} {B : CB} {cJ : ClassId} {ad : Nat → Nat} {a0 b L t : Nat} {xs : Nat → Int32} {i : Int32} {R : RL2} {sa : Nat → Nat} {h : Nat → Bool} {lk : Nat × Nat} {S : CS} {T : MS} {f : Nat → Int64} (Z : LF K B cJ b L xs) (hO : LawOk R) (hr : R h lk S T) (hi : i.toInt = (t : Int)) (ht : t + 6 ≤ L) (hN : ∀ (sa' : Nat → Nat) (h' : Nat → Bool) (lk' : Nat × Nat) (S' : CS) (T' : MS) (f' : Nat → Int64), R h' lk' S' T' → G K (rX B.1 (kA K)) (cE h' (t + 6)) (sE h' (t + 6)) 1103 (l3 B cJ ad a0 sa' h' lk' S' T' f') (lv0 B ad a0 b i) []) : G K (rX B.1 (kA K)) (cE h t) (sE h t) 778 (l3 B cJ ad a0 sa h lk S T f) (lv0 B ad a0 b i) [] := by
  have F := Z.1
  have hw := hO.1 h lk S T hr
  obtain ⟨q, q', e1, e2, e3, hr2⟩ := hO.2.2.2.2.2.2.2.2.2.2.2.2.2.2.2.2.1 h lk S T (xs (t + 1)) (xs (t + 2)) hr
  refine g_aload_n 779 2 F dL_law_778 rfl rfl ?_
  refine g_sarg 785 1 F Z.2.1 Z.2.2.1 Z.2.2.2.1 hi ⟨ht, Z.2.2.2.2.2.2.2.1⟩ (by decide) ⟨rfl, rfl⟩ dL_law_779 dL_law_780 dL_law_782 dL_law_783 dL_law_784 rfl rfl ?_
  refine g_sarg 791 2 F Z.2.1 Z.2.2.1 Z.2.2.2.1 hi ⟨ht, Z.2.2.2.2.2.2.2.1⟩ (by decide) ⟨rfl, rfl⟩ dL_law_785 dL_law_786 dL_law_788 dL_law_789 dL_law_790 rfl rfl ?_
  refine g_lC 794 (st := []) F (fun A => c_X5_hole (kl K) B sa h lk hw A S (xs (t + 1)) (xs (t + 2)) q e1) wy_X5_hole ml_L_91 ⟨Nat.le_of_ble_eq_true rfl, Nat.le_of_ble_eq_true rfl⟩ rfl rfl (Nat.le_of_ble_eq_true rfl) (cE_le Z ht h 0 (Nat.zero_le _)) dL_law_791 rfl ?_
  refine g_aload_n 795 3 F dL_law_794 rfl rfl ?_
  refine g_sarg 801 1 F Z.2.1 Z.2.2.1 Z.2.2.2.1 hi ⟨ht, Z.2.2.2.2.2.2.2.1⟩ (by decide) ⟨rfl, rfl⟩ dL_law_795 dL_law_796 dL_law_798 dL_law_799 dL_law_800 rfl rfl ?_
  refine g_sarg 807 2 F Z.2.1 Z.2.2.1 Z.2.2.2.1 hi ⟨ht, Z.2.2.2.2.2.2.2.1⟩ (by decide) ⟨rfl, rfl⟩ dL_law_801 dL_law_802 dL_law_804 dL_law_805 dL_law_806 rfl rfl ?_
  refine g_lM 810 (st := [.int q]) F (fun A => c_X6_hole (kl K) B.1 (B.2.1 0) (B.2.1 1) ad A T (xs (t + 1)) (xs (t + 2)) q' e2) wy_X6_hole ml_L_94 ⟨Nat.le_of_ble_eq_true rfl, Nat.le_of_ble_eq_true rfl⟩ rfl rfl (Nat.le_of_ble_eq_true rfl) (cE_le Z ht h 0 (Nat.zero_le _)) dL_law_807 rfl ?_
  refine g_icmp_eq 1103 813 F dL_law_810 rfl rfl (rfl : (if q = q'.1 then true else false) = _) (fun _ _ => ?_) (fun hne _ => absurd (by rw [e3]) hne)
  exact G.widen (cE h (t + 6)) (sE h (t + 6)) (by unfold cE; omega) (by unfold sE; omega) (hN sa h lk S q'.2 f hr2)
set_option maxHeartbeats 1000000 in
theorem law_lot {K : Ctx} {B : CB} {cJ : ClassId} {ad : Nat → Nat} {a0 b L t : Nat} {xs : Nat → Int32} {i : Int32} {R : RL2} {sa : Nat → Nat} {h : Nat → Bool} {lk : Nat × Nat} {S : CS} {T : MS} {f : Nat → Int64} (Z : LF K B cJ b L xs) (hO : LawOk R) (hr : R h lk S T) (hi : i.toInt = (t : Int)) (ht : t + 6 ≤ L) (hN : ∀ (sa' : Nat → Nat) (h' : Nat → Bool) (lk' : Nat × Nat) (S' : CS) (T' : MS) (f' : Nat → Int64), R h' lk' S' T' → G K (rX B.1 (kA K)) (cE h' (t + 6)) (sE h' (t + 6)) 1103 (l3 B cJ ad a0 sa' h' lk' S' T' f') (lv0 B ad a0 b i) []) : G K (rX B.1 (kA K)) (cE h t) (sE h t) 815 (l3 B cJ ad a0 sa h lk S T f) (lv0 B ad a0 b i) [] := by
  have F := Z.1
  have hw := hO.1 h lk S T hr
  obtain ⟨q, q', e1, e2, e3, hr2⟩ := hO.2.2.2.2.2.2.2.2.2.2.2.2.2.2.2.2.2.1 h lk S T (xs (t + 1)) (xs (t + 2)) hr
  refine g_aload_n 816 2 F dL_law_815 rfl rfl ?_
  refine g_sarg 822 1 F Z.2.1 Z.2.2.1 Z.2.2.2.1 hi ⟨ht, Z.2.2.2.2.2.2.2.1⟩ (by decide) ⟨rfl, rfl⟩ dL_law_816 dL_law_817 dL_law_819 dL_law_820 dL_law_821 rfl rfl ?_
  refine g_sarg 828 2 F Z.2.1 Z.2.2.1 Z.2.2.2.1 hi ⟨ht, Z.2.2.2.2.2.2.2.1⟩ (by decide) ⟨rfl, rfl⟩ dL_law_822 dL_law_823 dL_law_825 dL_law_826 dL_law_827 rfl rfl ?_
  refine g_lC 831 (st := []) F (fun A => c_X5_lot (kl K) B sa h lk hw A S (xs (t + 1)) (xs (t + 2)) q e1) wy_X5_lot ml_L_95 ⟨Nat.le_of_ble_eq_true rfl, Nat.le_of_ble_eq_true rfl⟩ rfl rfl (Nat.le_of_ble_eq_true rfl) (cE_le Z ht h 0 (Nat.zero_le _)) dL_law_828 rfl ?_
  refine g_aload_n 832 3 F dL_law_831 rfl rfl ?_
  refine g_sarg 838 1 F Z.2.1 Z.2.2.1 Z.2.2.2.1 hi ⟨ht, Z.2.2.2.2.2.2.2.1⟩ (by decide) ⟨rfl, rfl⟩ dL_law_832 dL_law_833 dL_law_835 dL_law_836 dL_law_837 rfl rfl ?_
  refine g_sarg 844 2 F Z.2.1 Z.2.2.1 Z.2.2.2.1 hi ⟨ht, Z.2.2.2.2.2.2.2.1⟩ (by decide) ⟨rfl, rfl⟩ dL_law_838 dL_law_839 dL_law_841 dL_law_842 dL_law_843 rfl rfl ?_
  refine g_lM 847 (st := [.int q.1]) F (fun A => c_X6_lot (kl K) B.1 (B.2.1 0) (B.2.1 1) ad A T (xs (t + 1)) (xs (t + 2)) q' e2) wy_X6_lot ml_L_98 ⟨Nat.le_of_ble_eq_true rfl, Nat.le_of_ble_eq_true rfl⟩ rfl rfl (Nat.le_of_ble_eq_true rfl) (cE_le Z ht h 0 (Nat.zero_le _)) dL_law_844 rfl ?_
  refine g_icmp_eq 1103 850 F dL_law_847 rfl rfl (rfl : (if q.1 = q'.1 then true else false) = _) (fun _ _ => ?_) (fun hne _ => absurd (by rw [e3]) hne)
  exact G.widen (cE h (t + 6)) (sE h (t + 6)) (by unfold cE; omega) (by unfold sE; omega) (hN sa h lk q.2 q'.2 f hr2)
set_option maxHeartbeats 1000000 in
theorem law_chance {K : Ctx} {B : CB} {cJ : ClassId} {ad : Nat → Nat} {a0 b L t : Nat} {xs : Nat → Int32} {i : Int32} {R : RL2} {sa : Nat → Nat} {h : Nat → Bool} {lk : Nat × Nat} {S : CS} {T : MS} {f : Nat → Int64} (Z : LF K B cJ b L xs) (hO : LawOk R) (hr : R h lk S T) (hi : i.toInt = (t : Int)) (ht : t + 6 ≤ L) (hN : ∀ (sa' : Nat → Nat) (h' : Nat → Bool) (lk' : Nat × Nat) (S' : CS) (T' : MS) (f' : Nat → Int64), R h' lk' S' T' → G K (rX B.1 (kA K)) (cE h' (t + 6)) (sE h' (t + 6)) 1103 (l3 B cJ ad a0 sa' h' lk' S' T' f') (lv0 B ad a0 b i) []) : G K (rX B.1 (kA K)) (cE h t) (sE h t) 852 (l3 B cJ ad a0 sa h lk S T f) (lv0 B ad a0 b i) [] := by
  have F := Z.1
  have hw := hO.1 h lk S T hr
  obtain ⟨q, q', e1, e2, e3, hr2⟩ := hO.2.2.2.2.2.2.2.2.2.2.2.2.2.2.2.2.2.2.1 h lk S T (xs (t + 1)) (!((xs (t + 2)) == 0)) hr
  refine g_aload_n 853 2 F dL_law_852 rfl rfl ?_
  refine g_sarg 859 1 F Z.2.1 Z.2.2.1 Z.2.2.2.1 hi ⟨ht, Z.2.2.2.2.2.2.2.1⟩ (by decide) ⟨rfl, rfl⟩ dL_law_853 dL_law_854 dL_law_856 dL_law_857 dL_law_858 rfl rfl ?_
  refine g_sarg 865 2 F Z.2.1 Z.2.2.1 Z.2.2.2.1 hi ⟨ht, Z.2.2.2.2.2.2.2.1⟩ (by decide) ⟨rfl, rfl⟩ dL_law_859 dL_law_860 dL_law_862 dL_law_863 dL_law_864 rfl rfl ?_
  refine g_bool 873 F dL_law_865 dL_law_868 dL_law_869 dL_law_872 rfl ?_
  refine g_lC 876 (st := []) F (fun A => c_X5_chance (kl K) B sa h lk hw A S (xs (t + 1)) (!((xs (t + 2)) == 0)) q e1) wy_X5_chance ml_L_99 ⟨Nat.le_of_ble_eq_true rfl, Nat.le_of_ble_eq_true rfl⟩ rfl rfl (Nat.le_of_ble_eq_true rfl) (cE_le Z ht h 0 (Nat.zero_le _)) dL_law_873 rfl ?_
  refine g_aload_n 877 3 F dL_law_876 rfl rfl ?_
  refine g_sarg 883 1 F Z.2.1 Z.2.2.1 Z.2.2.2.1 hi ⟨ht, Z.2.2.2.2.2.2.2.1⟩ (by decide) ⟨rfl, rfl⟩ dL_law_877 dL_law_878 dL_law_880 dL_law_881 dL_law_882 rfl rfl ?_
  refine g_sarg 889 2 F Z.2.1 Z.2.2.1 Z.2.2.2.1 hi ⟨ht, Z.2.2.2.2.2.2.2.1⟩ (by decide) ⟨rfl, rfl⟩ dL_law_883 dL_law_884 dL_law_886 dL_law_887 dL_law_888 rfl rfl ?_
  refine g_bool 897 F dL_law_889 dL_law_892 dL_law_893 dL_law_896 rfl ?_
  refine g_lM 900 (st := [.int q.1]) F (fun A => c_X6_chance (kl K) B.1 (B.2.1 0) (B.2.1 1) ad A T (xs (t + 1)) (!((xs (t + 2)) == 0)) q' e2) wy_X6_chance ml_L_103 ⟨Nat.le_of_ble_eq_true rfl, Nat.le_of_ble_eq_true rfl⟩ rfl rfl (Nat.le_of_ble_eq_true rfl) (cE_le Z ht h 0 (Nat.zero_le _)) dL_law_897 rfl ?_
  refine g_icmp_eq 1103 903 F dL_law_900 rfl rfl (rfl : (if q.1 = q'.1 then true else false) = _) (fun _ _ => ?_) (fun hne _ => absurd (by rw [e3]) hne)
  exact G.widen (cE h (t + 6)) (sE h (t + 6)) (by unfold cE; omega) (by unfold sE; omega) (hN sa h lk q.2 q'.2 f hr2)
set_option maxHeartbeats 1000000 in
theorem law_round {K : Ctx} {B : CB} {cJ : ClassId} {ad : Nat → Nat} {a0 b L t : Nat} {xs : Nat → Int32} {i : Int32} {R : RL2} {sa : Nat → Nat} {h : Nat → Bool} {lk : Nat × Nat} {S : CS} {T : MS} {f : Nat → Int64} (Z : LF K B cJ b L xs) (hO : LawOk R) (hr : R h lk S T) (hi : i.toInt = (t : Int)) (ht : t + 6 ≤ L) (hN : ∀ (sa' : Nat → Nat) (h' : Nat → Bool) (lk' : Nat × Nat) (S' : CS) (T' : MS) (f' : Nat → Int64), R h' lk' S' T' → G K (rX B.1 (kA K)) (cE h' (t + 6)) (sE h' (t + 6)) 1103 (l3 B cJ ad a0 sa' h' lk' S' T' f') (lv0 B ad a0 b i) []) : G K (rX B.1 (kA K)) (cE h t) (sE h t) 905 (l3 B cJ ad a0 sa h lk S T f) (lv0 B ad a0 b i) [] := by
  have F := Z.1
  have hw := hO.1 h lk S T hr
  obtain ⟨q, q', e1, e2, e3, hr2⟩ := hO.2.2.2.2.2.2.2.2.2.2.2.2.2.2.2.2.2.2.2.1 h lk S T (xs (t + 1)) (xs (t + 2)) (xs (t + 3)) hr
  refine g_aload_n 906 2 F dL_law_905 rfl rfl ?_
  refine g_sarg 912 1 F Z.2.1 Z.2.2.1 Z.2.2.2.1 hi ⟨ht, Z.2.2.2.2.2.2.2.1⟩ (by decide) ⟨rfl, rfl⟩ dL_law_906 dL_law_907 dL_law_909 dL_law_910 dL_law_911 rfl rfl ?_
  refine g_sarg 918 2 F Z.2.1 Z.2.2.1 Z.2.2.2.1 hi ⟨ht, Z.2.2.2.2.2.2.2.1⟩ (by decide) ⟨rfl, rfl⟩ dL_law_912 dL_law_913 dL_law_915 dL_law_916 dL_law_917 rfl rfl ?_
  refine g_sarg 924 3 F Z.2.1 Z.2.2.1 Z.2.2.2.1 hi ⟨ht, Z.2.2.2.2.2.2.2.1⟩ (by decide) ⟨rfl, rfl⟩ dL_law_918 dL_law_919 dL_law_921 dL_law_922 dL_law_923 rfl rfl ?_
  refine g_lC 927 (st := []) F (fun A => c_X5_round (kl K) B sa h lk hw A S (xs (t + 1)) (xs (t + 2)) (xs (t + 3)) q e1) wy_X5_round ml_L_104 ⟨Nat.le_of_ble_eq_true rfl, Nat.le_of_ble_eq_true rfl⟩ rfl rfl (Nat.le_of_ble_eq_true rfl) (cE_le Z ht h 0 (Nat.zero_le _)) dL_law_924 rfl ?_
  refine g_aload_n 928 3 F dL_law_927 rfl rfl ?_
  refine g_sarg 934 1 F Z.2.1 Z.2.2.1 Z.2.2.2.1 hi ⟨ht, Z.2.2.2.2.2.2.2.1⟩ (by decide) ⟨rfl, rfl⟩ dL_law_928 dL_law_929 dL_law_931 dL_law_932 dL_law_933 rfl rfl ?_
  refine g_sarg 940 2 F Z.2.1 Z.2.2.1 Z.2.2.2.1 hi ⟨ht, Z.2.2.2.2.2.2.2.1⟩ (by decide) ⟨rfl, rfl⟩ dL_law_934 dL_law_935 dL_law_937 dL_law_938 dL_law_939 rfl rfl ?_
  refine g_sarg 946 3 F Z.2.1 Z.2.2.1 Z.2.2.2.1 hi ⟨ht, Z.2.2.2.2.2.2.2.1⟩ (by decide) ⟨rfl, rfl⟩ dL_law_940 dL_law_941 dL_law_943 dL_law_944 dL_law_945 rfl rfl ?_
  refine g_lM 949 (st := [.int q]) F (fun A => c_X6_round (kl K) B.1 (B.2.1 0) (B.2.1 1) ad A T (xs (t + 1)) (xs (t + 2)) (xs (t + 3)) q' e2) wy_X6_round ml_L_107 ⟨Nat.le_of_ble_eq_true rfl, Nat.le_of_ble_eq_true rfl⟩ rfl rfl (Nat.le_of_ble_eq_true rfl) (cE_le Z ht h 0 (Nat.zero_le _)) dL_law_946 rfl ?_
  refine g_icmp_eq 1103 952 F dL_law_949 rfl rfl (rfl : (if q = q'.1 then true else false) = _) (fun _ _ => ?_) (fun hne _ => absurd (by rw [e3]) hne)
  exact G.widen (cE h (t + 6)) (sE h (t + 6)) (by unfold cE; omega) (by unfold sE; omega) (hN sa h lk S q'.2 f hr2)
set_option maxHeartbeats 1000000 in
theorem law_there {K : Ctx} {B : CB} {cJ : ClassId} {ad : Nat → Nat} {a0 b L t : Nat} {xs : Nat → Int32} {i : Int32} {R : RL2} {sa : Nat → Nat} {h : Nat → Bool} {lk : Nat × Nat} {S : CS} {T : MS} {f : Nat → Int64} (Z : LF K B cJ b L xs) (hO : LawOk R) (hr : R h lk S T) (hi : i.toInt = (t : Int)) (ht : t + 6 ≤ L) (hN : ∀ (sa' : Nat → Nat) (h' : Nat → Bool) (lk' : Nat × Nat) (S' : CS) (T' : MS) (f' : Nat → Int64), R h' lk' S' T' → G K (rX B.1 (kA K)) (cE h' (t + 6)) (sE h' (t + 6)) 1103 (l3 B cJ ad a0 sa' h' lk' S' T' f') (lv0 B ad a0 b i) []) : G K (rX B.1 (kA K)) (cE h t) (sE h t) 954 (l3 B cJ ad a0 sa h lk S T f) (lv0 B ad a0 b i) [] := by
  have F := Z.1
  have hw := hO.1 h lk S T hr
  obtain ⟨q, q', e1, e2, e3, hr2⟩ := hO.2.2.2.2.2.2.2.2.2.2.2.2.2.2.2.2.2.2.2.2.1 h lk S T (xs (t + 1)) (xs (t + 2)) (xs (t + 3)) hr
  refine g_aload_n 955 2 F dL_law_954 rfl rfl ?_
  refine g_sarg 961 1 F Z.2.1 Z.2.2.1 Z.2.2.2.1 hi ⟨ht, Z.2.2.2.2.2.2.2.1⟩ (by decide) ⟨rfl, rfl⟩ dL_law_955 dL_law_956 dL_law_958 dL_law_959 dL_law_960 rfl rfl ?_
  refine g_sarg 967 2 F Z.2.1 Z.2.2.1 Z.2.2.2.1 hi ⟨ht, Z.2.2.2.2.2.2.2.1⟩ (by decide) ⟨rfl, rfl⟩ dL_law_961 dL_law_962 dL_law_964 dL_law_965 dL_law_966 rfl rfl ?_
  refine g_sarg 973 3 F Z.2.1 Z.2.2.1 Z.2.2.2.1 hi ⟨ht, Z.2.2.2.2.2.2.2.1⟩ (by decide) ⟨rfl, rfl⟩ dL_law_967 dL_law_968 dL_law_970 dL_law_971 dL_law_972 rfl rfl ?_
  refine g_lC 976 (st := []) F (fun A => c_X5_there (kl K) B sa h lk hw A S (xs (t + 1)) (xs (t + 2)) (xs (t + 3)) q e1) wy_X5_there ml_L_108 ⟨Nat.le_of_ble_eq_true rfl, Nat.le_of_ble_eq_true rfl⟩ rfl rfl (Nat.le_of_ble_eq_true rfl) (cE_le Z ht h 0 (Nat.zero_le _)) dL_law_973 rfl ?_
  refine g_aload_n 977 3 F dL_law_976 rfl rfl ?_
  refine g_sarg 983 1 F Z.2.1 Z.2.2.1 Z.2.2.2.1 hi ⟨ht, Z.2.2.2.2.2.2.2.1⟩ (by decide) ⟨rfl, rfl⟩ dL_law_977 dL_law_978 dL_law_980 dL_law_981 dL_law_982 rfl rfl ?_
  refine g_sarg 989 2 F Z.2.1 Z.2.2.1 Z.2.2.2.1 hi ⟨ht, Z.2.2.2.2.2.2.2.1⟩ (by decide) ⟨rfl, rfl⟩ dL_law_983 dL_law_984 dL_law_986 dL_law_987 dL_law_988 rfl rfl ?_
  refine g_sarg 995 3 F Z.2.1 Z.2.2.1 Z.2.2.2.1 hi ⟨ht, Z.2.2.2.2.2.2.2.1⟩ (by decide) ⟨rfl, rfl⟩ dL_law_989 dL_law_990 dL_law_992 dL_law_993 dL_law_994 rfl rfl ?_
  refine g_lM 998 (st := [.int q]) F (fun A => c_X6_there (kl K) B.1 (B.2.1 0) (B.2.1 1) ad A T (xs (t + 1)) (xs (t + 2)) (xs (t + 3)) q' e2) wy_X6_there ml_L_111 ⟨Nat.le_of_ble_eq_true rfl, Nat.le_of_ble_eq_true rfl⟩ rfl rfl (Nat.le_of_ble_eq_true rfl) (cE_le Z ht h 0 (Nat.zero_le _)) dL_law_995 rfl ?_
  refine g_icmp_eq 1103 1001 F dL_law_998 rfl rfl (rfl : (if q = q'.1 then true else false) = _) (fun _ _ => ?_) (fun hne _ => absurd (by rw [e3]) hne)
  exact G.widen (cE h (t + 6)) (sE h (t + 6)) (by unfold cE; omega) (by unfold sE; omega) (hN sa h lk S q'.2 f hr2)
set_option maxHeartbeats 1000000 in
theorem law_danger {K : Ctx} {B : CB} {cJ : ClassId} {ad : Nat → Nat} {a0 b L t : Nat} {xs : Nat → Int32} {i : Int32} {R : RL2} {sa : Nat → Nat} {h : Nat → Bool} {lk : Nat × Nat} {S : CS} {T : MS} {f : Nat → Int64} (Z : LF K B cJ b L xs) (hO : LawOk R) (hr : R h lk S T) (hi : i.toInt = (t : Int)) (ht : t + 6 ≤ L) (hN : ∀ (sa' : Nat → Nat) (h' : Nat → Bool) (lk' : Nat × Nat) (S' : CS) (T' : MS) (f' : Nat → Int64), R h' lk' S' T' → G K (rX B.1 (kA K)) (cE h' (t + 6)) (sE h' (t + 6)) 1103 (l3 B cJ ad a0 sa' h' lk' S' T' f') (lv0 B ad a0 b i) []) : G K (rX B.1 (kA K)) (cE h t) (sE h t) 1003 (l3 B cJ ad a0 sa h lk S T f) (lv0 B ad a0 b i) [] := by
  have F := Z.1
  have hw := hO.1 h lk S T hr
  obtain ⟨q, q', e1, e2, e3, hr2⟩ := hO.2.2.2.2.2.2.2.2.2.2.2.2.2.2.2.2.2.2.2.2.2.1 h lk S T (xs (t + 1)) hr
  refine g_aload_n 1004 2 F dL_law_1003 rfl rfl ?_
  refine g_sarg 1010 1 F Z.2.1 Z.2.2.1 Z.2.2.2.1 hi ⟨ht, Z.2.2.2.2.2.2.2.1⟩ (by decide) ⟨rfl, rfl⟩ dL_law_1004 dL_law_1005 dL_law_1007 dL_law_1008 dL_law_1009 rfl rfl ?_
  refine g_lC 1013 (st := []) F (fun A => c_X5_danger (kl K) B sa h lk hw A S (xs (t + 1)) q e1) wy_X5_danger ml_L_112 ⟨Nat.le_of_ble_eq_true rfl, Nat.le_of_ble_eq_true rfl⟩ rfl rfl (Nat.le_of_ble_eq_true rfl) (cE_le Z ht h 0 (Nat.zero_le _)) dL_law_1010 rfl ?_
  refine g_aload_n 1014 3 F dL_law_1013 rfl rfl ?_
  refine g_sarg 1020 1 F Z.2.1 Z.2.2.1 Z.2.2.2.1 hi ⟨ht, Z.2.2.2.2.2.2.2.1⟩ (by decide) ⟨rfl, rfl⟩ dL_law_1014 dL_law_1015 dL_law_1017 dL_law_1018 dL_law_1019 rfl rfl ?_
  refine g_lM 1023 (st := [.int q.1]) F (fun A => c_X6_danger (kl K) B.1 (B.2.1 0) (B.2.1 1) ad A T (xs (t + 1)) q' e2) wy_X6_danger ml_L_115 ⟨Nat.le_of_ble_eq_true rfl, Nat.le_of_ble_eq_true rfl⟩ rfl rfl (Nat.le_of_ble_eq_true rfl) (cE_le Z ht h 0 (Nat.zero_le _)) dL_law_1020 rfl ?_
  refine g_icmp_eq 1103 1026 F dL_law_1023 rfl rfl (rfl : (if q.1 = q'.1 then true else false) = _) (fun _ _ => ?_) (fun hne _ => absurd (by rw [e3]) hne)
  exact G.widen (cE h (t + 6)) (sE h (t + 6)) (by unfold cE; omega) (by unfold sE; omega) (hN sa h lk q.2 q'.2 f hr2)
set_option maxHeartbeats 1000000 in
theorem law_easier {K : Ctx} {B : CB} {cJ : ClassId} {ad : Nat → Nat} {a0 b L t : Nat} {xs : Nat → Int32} {i : Int32} {R : RL2} {sa : Nat → Nat} {h : Nat → Bool} {lk : Nat × Nat} {S : CS} {T : MS} {f : Nat → Int64} (Z : LF K B cJ b L xs) (hO : LawOk R) (hr : R h lk S T) (hi : i.toInt = (t : Int)) (ht : t + 6 ≤ L) (hN : ∀ (sa' : Nat → Nat) (h' : Nat → Bool) (lk' : Nat × Nat) (S' : CS) (T' : MS) (f' : Nat → Int64), R h' lk' S' T' → G K (rX B.1 (kA K)) (cE h' (t + 6)) (sE h' (t + 6)) 1103 (l3 B cJ ad a0 sa' h' lk' S' T' f') (lv0 B ad a0 b i) []) : G K (rX B.1 (kA K)) (cE h t) (sE h t) 1028 (l3 B cJ ad a0 sa h lk S T f) (lv0 B ad a0 b i) [] := by
  have F := Z.1
  have hw := hO.1 h lk S T hr
  obtain ⟨q, q', e1, e2, e3, hr2⟩ := hO.2.2.2.2.2.2.2.2.2.2.2.2.2.2.2.2.2.2.2.2.2.2.1 h lk S T (xs (t + 1)) hr
  refine g_aload_n 1029 2 F dL_law_1028 rfl rfl ?_
  refine g_sarg 1035 1 F Z.2.1 Z.2.2.1 Z.2.2.2.1 hi ⟨ht, Z.2.2.2.2.2.2.2.1⟩ (by decide) ⟨rfl, rfl⟩ dL_law_1029 dL_law_1030 dL_law_1032 dL_law_1033 dL_law_1034 rfl rfl ?_
  refine g_lC 1038 (st := []) F (fun A => c_X5_easier (kl K) B sa h lk hw A S (xs (t + 1)) q e1) wy_X5_easier ml_L_116 ⟨Nat.le_of_ble_eq_true rfl, Nat.le_of_ble_eq_true rfl⟩ rfl rfl (Nat.le_of_ble_eq_true rfl) (cE_le Z ht h 0 (Nat.zero_le _)) dL_law_1035 rfl ?_
  refine g_aload_n 1039 3 F dL_law_1038 rfl rfl ?_
  refine g_sarg 1045 1 F Z.2.1 Z.2.2.1 Z.2.2.2.1 hi ⟨ht, Z.2.2.2.2.2.2.2.1⟩ (by decide) ⟨rfl, rfl⟩ dL_law_1039 dL_law_1040 dL_law_1042 dL_law_1043 dL_law_1044 rfl rfl ?_
  refine g_lM 1048 (st := [.int q.1]) F (fun A => c_X6_easier (kl K) B.1 (B.2.1 0) (B.2.1 1) ad A T (xs (t + 1)) q' e2) wy_X6_easier ml_L_119 ⟨Nat.le_of_ble_eq_true rfl, Nat.le_of_ble_eq_true rfl⟩ rfl rfl (Nat.le_of_ble_eq_true rfl) (cE_le Z ht h 0 (Nat.zero_le _)) dL_law_1045 rfl ?_
  refine g_icmp_eq 1103 1051 F dL_law_1048 rfl rfl (rfl : (if q.1 = q'.1 then true else false) = _) (fun _ _ => ?_) (fun hne _ => absurd (by rw [e3]) hne)
  exact G.widen (cE h (t + 6)) (sE h (t + 6)) (by unfold cE; omega) (by unfold sE; omega) (hN sa h lk q.2 q'.2 f hr2)
set_option maxHeartbeats 1000000 in
theorem law_without {K : Ctx} {B : CB} {cJ : ClassId} {ad : Nat → Nat} {a0 b L t : Nat} {xs : Nat → Int32} {i : Int32} {R : RL2} {sa : Nat → Nat} {h : Nat → Bool} {lk : Nat × Nat} {S : CS} {T : MS} {f : Nat → Int64} (Z : LF K B cJ b L xs) (hO : LawOk R) (hr : R h lk S T) (hi : i.toInt = (t : Int)) (ht : t + 6 ≤ L) (hN : ∀ (sa' : Nat → Nat) (h' : Nat → Bool) (lk' : Nat × Nat) (S' : CS) (T' : MS) (f' : Nat → Int64), R h' lk' S' T' → G K (rX B.1 (kA K)) (cE h' (t + 6)) (sE h' (t + 6)) 1103 (l3 B cJ ad a0 sa' h' lk' S' T' f') (lv0 B ad a0 b i) []) : G K (rX B.1 (kA K)) (cE h t) (sE h t) 1053 (l3 B cJ ad a0 sa h lk S T f) (lv0 B ad a0 b i) [] := by
  have F := Z.1
  have hw := hO.1 h lk S T hr
  obtain ⟨q, q', e1, e2, e3, hr2⟩ := hO.2.2.2.2.2.2.2.2.2.2.2.2.2.2.2.2.2.2.2.2.2.2.2.1 h lk S T (xs (t + 1)) (xs (t + 2)) hr
  refine g_aload_n 1054 2 F dL_law_1053 rfl rfl ?_
  refine g_sarg 1060 1 F Z.2.1 Z.2.2.1 Z.2.2.2.1 hi ⟨ht, Z.2.2.2.2.2.2.2.1⟩ (by decide) ⟨rfl, rfl⟩ dL_law_1054 dL_law_1055 dL_law_1057 dL_law_1058 dL_law_1059 rfl rfl ?_
  refine g_sarg 1066 2 F Z.2.1 Z.2.2.1 Z.2.2.2.1 hi ⟨ht, Z.2.2.2.2.2.2.2.1⟩ (by decide) ⟨rfl, rfl⟩ dL_law_1060 dL_law_1061 dL_law_1063 dL_law_1064 dL_law_1065 rfl rfl ?_
  refine g_lC 1069 (st := []) F (fun A => c_X5_without (kl K) B sa h lk hw A S (xs (t + 1)) (xs (t + 2)) q e1) wy_X5_without ml_L_120 ⟨Nat.le_of_ble_eq_true rfl, Nat.le_of_ble_eq_true rfl⟩ rfl rfl (Nat.le_of_ble_eq_true rfl) (cE_le Z ht h 0 (Nat.zero_le _)) dL_law_1066 rfl ?_
  refine g_aload_n 1070 3 F dL_law_1069 rfl rfl ?_
  refine g_sarg 1076 1 F Z.2.1 Z.2.2.1 Z.2.2.2.1 hi ⟨ht, Z.2.2.2.2.2.2.2.1⟩ (by decide) ⟨rfl, rfl⟩ dL_law_1070 dL_law_1071 dL_law_1073 dL_law_1074 dL_law_1075 rfl rfl ?_
  refine g_sarg 1082 2 F Z.2.1 Z.2.2.1 Z.2.2.2.1 hi ⟨ht, Z.2.2.2.2.2.2.2.1⟩ (by decide) ⟨rfl, rfl⟩ dL_law_1076 dL_law_1077 dL_law_1079 dL_law_1080 dL_law_1081 rfl rfl ?_
  refine g_lM 1085 (st := [.int q.1]) F (fun A => c_X6_without (kl K) B.1 (B.2.1 0) (B.2.1 1) ad A T (xs (t + 1)) (xs (t + 2)) q' e2) wy_X6_without ml_L_123 ⟨Nat.le_of_ble_eq_true rfl, Nat.le_of_ble_eq_true rfl⟩ rfl rfl (Nat.le_of_ble_eq_true rfl) (cE_le Z ht h 0 (Nat.zero_le _)) dL_law_1082 rfl ?_
  refine g_icmp_eq 1103 1088 F dL_law_1085 rfl rfl (rfl : (if q.1 = q'.1 then true else false) = _) (fun _ _ => ?_) (fun hne _ => absurd (by rw [e3]) hne)
  exact G.widen (cE h (t + 6)) (sE h (t + 6)) (by unfold cE; omega) (by unfold sE; omega) (hN sa h lk q.2 q'.2 f hr2)
set_option maxHeartbeats 1000000 in
theorem law_worst {K : Ctx} {B : CB} {cJ : ClassId} {ad : Nat → Nat} {a0 b L t : Nat} {xs : Nat → Int32} {i : Int32} {R : RL2} {sa : Nat → Nat} {h : Nat → Bool} {lk : Nat × Nat} {S : CS} {T : MS} {f : Nat → Int64} (Z : LF K B cJ b L xs) (hO : LawOk R) (hr : R h lk S T) (hi : i.toInt = (t : Int)) (ht : t + 6 ≤ L) (hN : ∀ (sa' : Nat → Nat) (h' : Nat → Bool) (lk' : Nat × Nat) (S' : CS) (T' : MS) (f' : Nat → Int64), R h' lk' S' T' → G K (rX B.1 (kA K)) (cE h' (t + 6)) (sE h' (t + 6)) 1103 (l3 B cJ ad a0 sa' h' lk' S' T' f') (lv0 B ad a0 b i) []) : G K (rX B.1 (kA K)) (cE h t) (sE h t) 1090 (l3 B cJ ad a0 sa h lk S T f) (lv0 B ad a0 b i) [] := by
  have F := Z.1
  have hw := hO.1 h lk S T hr
  obtain ⟨q, q', e1, e2, e3, hr2⟩ := hO.2.2.2.2.2.2.2.2.2.2.2.2.2.2.2.2.2.2.2.2.2.2.2.2 h lk S T  hr
  refine g_aload_n 1091 2 F dL_law_1090 rfl rfl ?_
  refine g_lC 1094 (st := []) F (fun A => c_X5_worst (kl K) B sa h lk hw A S  q e1) wy_X5_worst ml_L_124 ⟨Nat.le_of_ble_eq_true rfl, Nat.le_of_ble_eq_true rfl⟩ rfl rfl (Nat.le_of_ble_eq_true rfl) (cE_le Z ht h 0 (Nat.zero_le _)) dL_law_1091 rfl ?_
  refine g_aload_n 1095 3 F dL_law_1094 rfl rfl ?_
  refine g_lM 1098 (st := [.int q.1]) F (fun A => c_X6_worst (kl K) B.1 (B.2.1 0) (B.2.1 1) ad A T  q' e2) wy_X6_worst ml_L_127 ⟨Nat.le_of_ble_eq_true rfl, Nat.le_of_ble_eq_true rfl⟩ rfl rfl (Nat.le_of_ble_eq_true rfl) (cE_le Z ht h 0 (Nat.zero_le _)) dL_law_1095 rfl ?_
  refine g_icmp_eq 1103 1101 F dL_law_1098 rfl rfl (rfl : (if q.1 = q'.1 then true else false) = _) (fun _ _ => ?_) (fun hne _ => absurd (by rw [e3]) hne)
  exact G.widen (cE h (t + 6)) (sE h (t + 6)) (by unfold cE; omega) (by unfold sE; omega) (hN sa h lk q.2 q'.2 f hr2)
set_option maxHeartbeats 4000000 in
theorem law_loop {K : Ctx} {B : CB} {cJ : ClassId} {ad : Nat → Nat} {a0 b L : Nat} {xs : Nat → Int32} {R : RL2} (Z : LF K B cJ b L xs) (hO : LawOk R) : ∀ (n t : Nat) (i : Int32) (sa : Nat → Nat) (h : Nat → Bool) (lk : Nat × Nat) (S : CS) (T : MS) (f : Nat → Int64), L - t ≤ n → t ≤ L → i.toInt = (t : Int) → R h lk S T → G K (rX B.1 (kA K)) (cE h t) (sE h t) 23 (l3 B cJ ad a0 sa h lk S T f) (lv0 B ad a0 b i) [] := by
  intro n
  have F := Z.1
  have hL := Z.2.2.2.2.2.2.2.1
  induction n using Nat.strongRecOn with
  | ind n ih =>
  intro t i sa h lk S T f hm htL hi hr
  refine g_iload 25 0 F dL_law_23 rfl rfl ?_
  refine g_aload_n 26 1 F dL_law_25 rfl rfl ?_
  have hlen : G K (rX B.1 (kA K)) (cE h t) (sE h t) 27 (l3 B cJ ad a0 sa h lk S T f) (lv0 B ad a0 b i) [.int (Int32.ofNat L), .int i] := by
    refine g_bipush 29 F dL_law_27 rfl rfl ?_
    refine g_isub 30 F dL_law_29 rfl ?_
    have hsub : (Int32.ofNat L - (Int8.ofInt 6).toInt32).toInt = (L : Int) - 6 := by
      rw [Int32.toInt_sub, Int32.toInt_ofNat_of_lt (by omega), show (Int8.ofInt 6).toInt32.toInt = 6 from rfl, Int.bmod_eq_of_le (by omega) (by omega)]
    refine g_icmp_gt 1109 33 F dL_law_30 rfl rfl (rfl : (if Int32.ofNat L - (Int8.ofInt 6).toInt32 < i then true else false) = _) (fun _ _ => ?_) (fun hle _ => ?_)
    · refine g_iconst 1110 F dL_law_1109 rfl rfl ?_
      have h1 := cn_le h
      exact G.widen 61024 8913034 (by unfold cE; omega) (by unfold sE; omega) (Z.2.2.2.2.2.2.2.2 _ _)
    · rw [Int32.lt_iff_toInt_lt, hsub, hi] at hle
      have ht : t + 6 ≤ L := by omega
      have hN : ∀ (sa' : Nat → Nat) (h' : Nat → Bool) (lk' : Nat × Nat) (S' : CS) (T' : MS) (f' : Nat → Int64), R h' lk' S' T' → G K (rX B.1 (kA K)) (cE h' (t + 6)) (sE h' (t + 6)) 1103 (l3 B cJ ad a0 sa' h' lk' S' T' f') (lv0 B ad a0 b i) [] := by
        intro sa' h' lk' S' T' f' hr'
        refine g_iinc 1106 0 (i + Int32.ofInt 6) (lv0 B ad a0 b (i + Int32.ofInt 6)) F dL_law_1103 rfl rfl (lt_kn Z.2.2.2.2.2.1 (by decide)) rfl rfl ?_
        refine g_goto 23 F dL_law_1106 rfl ?_
        exact ih (L - (t + 6)) (by omega) (t + 6) _ sa' h' lk' S' T' f' (Nat.le_refl _) ht (i32_add (j := 6) hi (by omega)) hr'
      refine g_aload_n 34 1 F dL_law_33 rfl rfl ?_
      refine g_iload 36 0 F dL_law_34 rfl rfl ?_
      have h9 := i32_ge hi
      have hsw : G K (rX B.1 (kA K)) (cE h t) (sE h t) 37 (l3 B cJ ad a0 sa h lk S T f) (lv0 B ad a0 b i) [.int (xs t)] := by
        refine g_bipush 39 F dL_law_37 rfl rfl ?_
        refine g_iand 40 F dL_law_39 rfl ?_
        generalize xs t &&& (Int8.ofInt 31).toInt32 = v
        by_cases c0 : v = 0
        · exact g_tab 0 152 F dL_law_40 c0 (by decide) (by decide) rfl rfl (law_feed Z hO hr hi ht hN)
        by_cases c1 : v = 1
        · exact g_tab 1 225 F dL_law_40 c1 (by decide) (by decide) rfl rfl (law_end Z hO hr hi ht hN)
        by_cases c2 : v = 2
        · exact g_tab 2 250 F dL_law_40 c2 (by decide) (by decide) rfl rfl (law_tell Z hO hr hi ht hN)
        by_cases c3 : v = 3
        · exact g_tab 3 263 F dL_law_40 c3 (by decide) (by decide) rfl rfl (law_fault Z hO hr hi ht hN)
        by_cases c4 : v = 4
        · exact g_tab 4 276 F dL_law_40 c4 (by decide) (by decide) rfl rfl (law_athlete Z hO hr hi ht hN)
        by_cases c5 : v = 5
        · exact g_tab 5 301 F dL_law_40 c5 (by decide) (by decide) rfl rfl (law_set Z hO hr hi ht hN)
        by_cases c6 : v = 6
        · exact g_tab 6 338 F dL_law_40 c6 (by decide) (by decide) rfl rfl (law_at Z hO hr hi ht hN)
        by_cases c7 : v = 7
        · exact g_tab 7 375 F dL_law_40 c7 (by decide) (by decide) rfl rfl (law_file Z hO hr hi ht hN)
        by_cases c8 : v = 8
        · exact g_tab 8 448 F dL_law_40 c8 (by decide) (by decide) rfl rfl (law_test Z hO hr hi ht hN)
        by_cases c9 : v = 9
        · exact g_tab 9 513 F dL_law_40 c9 (by decide) (by decide) rfl rfl (law_appeal Z hO hr hi ht hN)
        by_cases c10 : v = 10
        · exact g_tab 10 550 F dL_law_40 c10 (by decide) (by decide) rfl rfl (law_count Z hO hr hi ht hN)
        by_cases c11 : v = 11
        · exact g_tab 11 575 F dL_law_40 c11 (by decide) (by decide) rfl rfl (law_of Z hO hr hi ht hN)
        by_cases c12 : v = 12
        · exact g_tab 12 643 F dL_law_40 c12 (by decide) (by decide) rfl rfl (law_filed Z hO hr hi ht hN)
        by_cases c13 : v = 13
        · exact g_tab 13 692 F dL_law_40 c13 (by decide) (by decide) rfl rfl (law_failure Z hO hr hi ht hN)
        by_cases c14 : v = 14
        · exact g_tab 14 741 F dL_law_40 c14 (by decide) (by decide) rfl rfl (law_violation Z hO hr hi ht hN)
        by_cases c15 : v = 15
        · exact g_tab 15 778 F dL_law_40 c15 (by decide) (by decide) rfl rfl (law_hole Z hO hr hi ht hN)
        by_cases c16 : v = 16
        · exact g_tab 16 815 F dL_law_40 c16 (by decide) (by decide) rfl rfl (law_lot Z hO hr hi ht hN)
        by_cases c17 : v = 17
        · exact g_tab 17 852 F dL_law_40 c17 (by decide) (by decide) rfl rfl (law_chance Z hO hr hi ht hN)
        by_cases c18 : v = 18
        · exact g_tab 18 905 F dL_law_40 c18 (by decide) (by decide) rfl rfl (law_round Z hO hr hi ht hN)
        by_cases c19 : v = 19
        · exact g_tab 19 954 F dL_law_40 c19 (by decide) (by decide) rfl rfl (law_there Z hO hr hi ht hN)
        by_cases c20 : v = 20
        · exact g_tab 20 1003 F dL_law_40 c20 (by decide) (by decide) rfl rfl (law_danger Z hO hr hi ht hN)
        by_cases c21 : v = 21
        · exact g_tab 21 1028 F dL_law_40 c21 (by decide) (by decide) rfl rfl (law_easier Z hO hr hi ht hN)
        by_cases c22 : v = 22
        · exact g_tab 22 1053 F dL_law_40 c22 (by decide) (by decide) rfl rfl (law_without Z hO hr hi ht hN)
        by_cases c23 : v = 23
        · exact g_tab 23 1090 F dL_law_40 c23 (by decide) (by decide) rfl rfl (law_worst Z hO hr hi ht hN)
        refine g_tabD 1103 F dL_law_40 (by have h10 := lv_neT c0 (by decide : (0 : Int32).toInt = 0); have h11 := lv_neT c1 (by decide : (1 : Int32).toInt = 1); have h12 := lv_neT c2 (by decide : (2 : Int32).toInt = 2); have h13 := lv_neT c3 (by decide : (3 : Int32).toInt = 3); have h14 := lv_neT c4 (by decide : (4 : Int32).toInt = 4); have h15 := lv_neT c5 (by decide : (5 : Int32).toInt = 5); have h16 := lv_neT c6 (by decide : (6 : Int32).toInt = 6); have h17 := lv_neT c7 (by decide : (7 : Int32).toInt = 7); have h18 := lv_neT c8 (by decide : (8 : Int32).toInt = 8); have h19 := lv_neT c9 (by decide : (9 : Int32).toInt = 9); have h20 := lv_neT c10 (by decide : (10 : Int32).toInt = 10); have h21 := lv_neT c11 (by decide : (11 : Int32).toInt = 11); have h22 := lv_neT c12 (by decide : (12 : Int32).toInt = 12); have h23 := lv_neT c13 (by decide : (13 : Int32).toInt = 13); have h24 := lv_neT c14 (by decide : (14 : Int32).toInt = 14); have h25 := lv_neT c15 (by decide : (15 : Int32).toInt = 15); have h26 := lv_neT c16 (by decide : (16 : Int32).toInt = 16); have h27 := lv_neT c17 (by decide : (17 : Int32).toInt = 17); have h28 := lv_neT c18 (by decide : (18 : Int32).toInt = 18); have h29 := lv_neT c19 (by decide : (19 : Int32).toInt = 19); have h30 := lv_neT c20 (by decide : (20 : Int32).toInt = 20); have h31 := lv_neT c21 (by decide : (21 : Int32).toInt = 21); have h32 := lv_neT c22 (by decide : (22 : Int32).toInt = 22); have h33 := lv_neT c23 (by decide : (23 : Int32).toInt = 23); omega) rfl ?_
        exact G.widen (cE h (t + 6)) (sE h (t + 6)) (by unfold cE; omega) (by unfold sE; omega) (hN sa h lk S T f hr)
      intro H locs ls hX hS hls
      refine va_sld F.1 F.2.1 Z.2.1 Z.2.2.1 Z.2.2.2.1 hS (show ¬ (i < 0 ∨ L ≤ i.toNatClampNeg) from fun hh => hh.elim h9.1 (fun hh => by rw [h9.2] at hh; omega)) dL_law_36 ?_
      rw [h9.2]
      exact hsw H locs ls hX hS hls
  intro H locs ls hX hS hls
  exact va_slen F.1 F.2.1 Z.2.1 Z.2.2.1 Z.2.2.2.1 hS dL_law_26 (hlen H locs ls hX hS hls)
