theorem grow {B : CB} {A : Nat → Prop} {sa : Nat → Nat} {h : Nat → Bool} {lk : Nat × Nat} {S : CS} {r i q a1 a2 a3 a4 : Nat} {H : Heap} (hr : r < 2) (hi : i < 6) (hj : h (6 * r + i) = false)
    (hX : rX B.1 A (nW (cAd B sa) (cNm h) (va_up (cCell B sa h lk S) (5 + r) (.inl (B.2.1 3, 6, .inr (.inr (.inr (.inr (va_up (fun i => if h (6 * r + i) = true then some (sa (5 * (6 * r + i))) else none) i (some q)))))))) ++ [(q, .inr (1, [.int 0, .int 0, .int 0, .int 0, .int 0, .int 0, .int 0, .ref a1, .ref a2, .ref a3, .ref a4])), (a1, .inl (B.2.1 0, 60, .inl (fun _ => 0))), (a2, .inl (B.2.1 0, 60, .inl (fun _ => 0))), (a3, .inl (B.2.1 0, 60, .inl (fun _ => 0))), (a4, .inl (B.2.1 0, 1100, .inl (fun _ => 0)))]) H) :
    cX B A (saU sa (6 * r + i) q a1 a2 a3 a4) (va_up h (6 * r + i) true) lk (zP S (6 * r + i)) H := by
  obtain ⟨hP, hD⟩ := hX
  obtain ⟨k1, k2, k3, k4, k5⟩ := nW_parts hP hD
  have n0 := k2 0 _ rfl
  have n1 := k2 1 _ rfl
  have n2 := k2 2 _ rfl
  have n3 := k2 3 _ rfl
  have n4 := k2 4 _ rfl
  generalize hje : 6 * r + i = j at *
  have h12 : j < 12 := by omega
  -- a name of the grown world: an old one, or one of the five
  have key : ∀ n, n ∈ cNm (va_up h j true) → n ∈ cNm h ∨ ∃ c, c < 5 ∧ n = 16 + 5 * j + c := by
    intro n hn
    rcases cNm_mem hn with hn | ⟨j', c, hj', hh, hc, rfl⟩
    · exact Or.inl (cNm_fix hn)
    · by_cases e : j' = j
      · subst e; exact Or.inr ⟨c, hc, rfl⟩
      · have hh : h j' = true := by unfold va_up at hh; rw [if_neg e] at hh; exact hh
        exact Or.inl (cNm_sp hh hj' hc)
  have adO : ∀ n, n ∈ cNm h → cAd B (saU sa j q a1 a2 a3 a4) n = cAd B sa n := by
    intro n hn
    rcases cNm_mem hn with hn | ⟨j', c, hj', hh, hc, rfl⟩
    · rw [cAd_fix hn, cAd_fix hn]
    · have e : j' ≠ j := fun z => by rw [z, hj] at hh; cases hh
      rw [cAd_sp, cAd_sp, saU_ne e hc]
  have adN : ∀ c, c < 5 → ∃ x, ([(q, .inr (1, [.int 0, .int 0, .int 0, .int 0, .int 0, .int 0, .int 0, .ref a1, .ref a2, .ref a3, .ref a4])), (a1, .inl (B.2.1 0, 60, .inl (fun _ => 0))), (a2, .inl (B.2.1 0, 60, .inl (fun _ => 0))), (a3, .inl (B.2.1 0, 60, .inl (fun _ => 0))), (a4, .inl (B.2.1 0, 1100, .inl (fun _ => 0)))] : va_W)[c]? = some x ∧ cAd B (saU sa j q a1 a2 a3 a4) (16 + 5 * j + c) = x.1 ∧ cCell B (saU sa j q a1 a2 a3 a4) (va_up h j true) lk (zP S j) (16 + 5 * j + c) = x.2 := by
    intro c hc
    rw [cAd_sp, cCell_sp hc]
    rcases (show c = 0 ∨ c = 1 ∨ c = 2 ∨ c = 3 ∨ c = 4 by omega) with rfl | rfl | rfl | rfl | rfl
    · refine ⟨_, rfl, saU_0, ?_⟩
      unfold cSpc
      rw [if_pos rfl]
      simp only [cP_zP, if_true, saU_1, saU_2, saU_3, saU_4]
    · refine ⟨_, rfl, saU_1, ?_⟩
      unfold cSpc
      simp [cQ_zP]
    · refine ⟨_, rfl, saU_2, ?_⟩
      unfold cSpc
      simp [cQ_zP]
    · refine ⟨_, rfl, saU_3, ?_⟩
      unfold cSpc
      simp [cQ_zP]
    · refine ⟨_, rfl, saU_4, ?_⟩
      unfold cSpc
      simp [cQ_zP]
  have cellO : ∀ n, n ∈ cNm h → va_at B.1 vwCl (cAd B sa n, cCell B (saU sa j q a1 a2 a3 a4) (va_up h j true) lk (zP S j) n) H := by
    intro n hn
    have hv := (k1 n hn).1
    by_cases hrow : n = 5 + r
    · subst hrow
      rw [cCell_rows hr]
      have hv : va_at B.1 vwCl (cAd B sa (5 + r), .inl (B.2.1 3, 6, .inr (.inr (.inr (.inr (va_up (fun i => if h (6 * r + i) = true then some (sa (5 * (6 * r + i))) else none) i (some q))))))) H := by
        unfold va_up at hv
        rw [if_pos rfl] at hv
        exact hv
      refine rows_cong (fun i' hi' => ?_) hv
      unfold va_up
      by_cases e : i' = i
      · subst e
        rw [if_pos rfl, hje, if_pos rfl, if_pos rfl, saU_0]
      · have e2 : ¬ 6 * r + i' = j := by omega
        rw [if_neg e, if_neg e2, ← Nat.add_zero (5 * (6 * r + i')), saU_ne e2 (by decide)]
        rfl
    · have hv : va_at B.1 vwCl (cAd B sa n, cCell B sa h lk S n) H := by
        unfold va_up at hv
        rw [if_neg hrow] at hv
        exact hv
      rcases cNm_mem hn with hn | ⟨j', c, hj', hh, hc, rfl⟩
      · rw [cCell_fix hn] at hv ⊢
        rcases (show n = 5 ∨ n = 6 ∨ (n ≠ 5 ∧ n ≠ 6) by omega) with rfl | rfl | ⟨z5, z6⟩
        · refine rows_cong (fun i' hi' => ?_) hv
          have e2 : ¬ i' = j := by omega
          unfold va_up
          rw [if_neg e2, ← Nat.add_zero (5 * i'), saU_ne e2 (by decide)]
        · refine rows_cong (fun i' hi' => ?_) hv
          have e2 : ¬ 6 + i' = j := by omega
          unfold va_up
          rw [if_neg e2, ← Nat.add_zero (5 * (6 + i')), saU_ne e2 (by decide)]
        · have e : cFix B (saU sa j q a1 a2 a3 a4) (va_up h j true) lk (zP S j) n = cFix B sa h lk S n := by
            match n, hn, z5, z6 with
            | 0, _, _, _ => rfl
            | 1, _, _, _ => rfl
            | 2, _, _, _ => rfl
            | 3, _, _, _ => rfl
            | 4, _, _, _ => rfl
            | 5, _, z, _ => exact absurd rfl z
            | 6, _, _, z => exact absurd rfl z
            | 7, _, _, _ => rfl
            | 8, _, _, _ => rfl
            | 9, _, _, _ => rfl
            | 10, _, _, _ => rfl
            | 11, _, _, _ => rfl
            | 12, _, _, _ => rfl
            | 13, _, _, _ => rfl
            | 14, _, _, _ => rfl
            | 15, _, _, _ => rfl
            | n + 16, hn, _, _ => exact absurd hn (by omega)
          rw [e]; exact hv
      · have e : j' ≠ j := fun z => by rw [z, hj] at hh; cases hh
        rw [cCell_sp hc] at hv ⊢
        have e2 : cSpc B (saU sa j q a1 a2 a3 a4) (zP S j) j' c = cSpc B sa S j' c := by
          unfold cSpc
          simp only [cP_zP, cQ_zP, if_neg e, saU_ne e (show 1 < 5 by decide), saU_ne e (show 2 < 5 by decide), saU_ne e (show 3 < 5 by decide), saU_ne e (show 4 < 5 by decide)]
        rw [e2]; exact hv
  refine nW_build (cNm_lt _) (fun n hn => ?_) (fun n hn => ?_) (fun n hn n' hn' e => ?_)
  · rcases key n hn with hn | ⟨c, hc, rfl⟩
    · rw [adO n hn]; exact cellO n hn
    · obtain ⟨x, hx, e1, e2⟩ := adN c hc
      rw [e1, e2]; exact (k2 c x hx).1
  · rcases key n hn with hn | ⟨c, hc, rfl⟩
    · rw [adO n hn]; exact (k1 n hn).2
    · obtain ⟨x, hx, e1, e2⟩ := adN c hc
      rw [e1]; exact (k2 c x hx).2
  · rcases key n hn with hn | ⟨c, hc, rfl⟩
    · rcases key n' hn' with hn' | ⟨c', hc', rfl⟩
      · rw [adO n hn, adO n' hn'] at e
        obtain ⟨k, hk⟩ := List.getElem?_of_mem hn
        obtain ⟨k', hk'⟩ := List.getElem?_of_mem hn'
        have ek := k3 k k' n n' hk hk' e
        subst ek
        exact Option.some.inj (hk.symm.trans hk')
      · obtain ⟨x, hx, e1, e2⟩ := adN c' hc'
        rw [adO n hn, e1] at e
        exact absurd e (k4 n hn c' x hx)
    · obtain ⟨x, hx, e1, e2⟩ := adN c hc
      rcases key n' hn' with hn' | ⟨c', hc', rfl⟩
      · rw [adO n' hn', e1] at e
        exact absurd e.symm (k4 n' hn' c x hx)
      · obtain ⟨x', hx', e1', e2'⟩ := adN c' hc'
        rw [e1, e1'] at e
        have := k5 c c' x x' hx hx' e
        omega
def CAr (l : Launch) (y : MethodName) (cc : ByteArray) (maxL : Nat) (ret : Option FieldType) (fr lo : Nat) (B : CB) (Kf : State → Prop) (A : Nat → Prop) (sa : Nat → Nat) (h : Nat → Bool) (lk : Nat × Nat) (S : CS) (av : List Value) (j : Nat) (S' : CS) (h' : Nat → Bool) : Prop :=
  Met l y (.code y cc maxL ret :: wT) { frames := fr, cells := 5 * (cn h' - cn h), slots := 1291 * (cn h' - cn h), locals := lo } (va_Pc av (cPre (cX B A sa h lk) Kf A S)) (va_Qr (fun (u : Nat → Nat) => agr h sa u) (fun u a t => a = u (5 * j) ∧ cX B A u h' lk S' t.heap) A) (5 * (cn h' - cn h)) (1291 * (cn h' - cn h)) A
def CAi (l : Launch) (y : MethodName) (cc : ByteArray) (maxL : Nat) (ret : Option FieldType) (fr lo : Nat) (B : CB) (Kf : State → Prop) (A : Nat → Prop) (sa : Nat → Nat) (h : Nat → Bool) (lk lk' : Nat × Nat) (S : CS) (av : List Value) (r : Int32) (S' : CS) (h' : Nat → Bool) : Prop :=
  Met l y (.code y cc maxL ret :: wT) { frames := fr, cells := 5 * (cn h' - cn h), slots := 1291 * (cn h' - cn h), locals := lo } (va_Pc av (cPre (cX B A sa h lk) Kf A S)) (va_Qi (fun (r' : Int32) (u : Nat → Nat) => r' = r ∧ agr h sa u) (fun u t => cX B A u h' lk' S' t.heap) A) (5 * (cn h' - cn h)) (1291 * (cn h' - cn h)) A
def CAv (l : Launch) (y : MethodName) (cc : ByteArray) (maxL : Nat) (ret : Option FieldType) (fr lo : Nat) (B : CB) (Kf : State → Prop) (A : Nat → Prop) (sa : Nat → Nat) (h : Nat → Bool) (lk : Nat × Nat) (S : CS) (av : List Value) (S' : CS) (h' : Nat → Bool) : Prop :=
  Met l y (.code y cc maxL ret :: wT) { frames := fr, cells := 5 * (cn h' - cn h), slots := 1291 * (cn h' - cn h), locals := lo } (va_Pc av (cPre (cX B A sa h lk) Kf A S)) (va_Qv (fun (u : Nat → Nat) => agr h sa u) (fun u t => cX B A u h' lk S' t.heap) A) (5 * (cn h' - cn h)) (1291 * (cn h' - cn h)) A
section AMets
variable {l : Launch} {y : MethodName} {cc : ByteArray} {maxL fr lo : Nat} {B : CB} {Kf : State → Prop} {A : Nat → Prop} {sa : Nat → Nat} {h h' : Nat → Bool} {lk lk' : Nat × Nat} {S S' : CS} {av : List Value}
theorem met_ar {j : Nat} {rt : FieldType} (hrt : (∃ n, rt = .object n) ∨ ∃ t, rt = .array t) (hy : plainName y.cls = true) (hlen : (lg_sl av).length ≤ maxL) (walk : ∀ (K : Ctx), kl K = l → kA K = A → kn K = maxL → kR K = { frames := fr, cells := 5 * (cn h' - cn h), slots := 1291 * (cn h' - cn h), locals := lo } → Fx K cc y.cls Kf fr lo → (∀ sa', agr h sa sa' → ∀ (pc : Nat) (lv : List (Nat × Value)), decode cc pc = .ok (.areturn, 1) → G K (cX B A sa' h' lk) (5 * (cn h' - cn h)) (1291 * (cn h' - cn h)) pc S' lv [.ref (sa' (5 * j))]) → G K (cX B A sa h lk) 0 0 0 S (lv_args 0 av) []) : CAr l y cc maxL (some rt) fr lo B Kf A sa h lk S av j S' h' := by
  refine met_entry (fr := fr) (lo := lo) hy hlen ⟨rfl, rfl⟩ (fun K hl hA hn hR F hr hlk hQ _ => walk K hl hA hn hR F ?_)
  intro sa' hag pc lv d H locs ls hX hS hls
  subst hA
  rw [hQ]
  exact W.aret F.1 F.2.1 hr hrt (Or.inr ⟨_, rfl⟩) (fun t ht hW => ⟨⟨sa', sa' (5 * j), rfl, hag, rfl, by show cX B (kA K) sa' h' lk S' t.heap; rw [ht]; exact hX⟩, hS.F ht⟩) hS.2.2 d hlk
theorem met_ai {r : Int32} (hy : plainName y.cls = true) (hlen : (lg_sl av).length ≤ maxL) (walk : ∀ (K : Ctx), kl K = l → kA K = A → kn K = maxL → kR K = { frames := fr, cells := 5 * (cn h' - cn h), slots := 1291 * (cn h' - cn h), locals := lo } → Fx K cc y.cls Kf fr lo → (∀ sa', agr h sa sa' → ∀ (pc : Nat) (lv : List (Nat × Value)), decode cc pc = .ok (.ireturn, 1) → G K (cX B A sa' h' lk') (5 * (cn h' - cn h)) (1291 * (cn h' - cn h)) pc S' lv [.int r]) → G K (cX B A sa h lk) 0 0 0 S (lv_args 0 av) []) : CAi l y cc maxL (some .int) fr lo B Kf A sa h lk lk' S av r S' h' := by
  refine met_entry (fr := fr) (lo := lo) hy hlen ⟨rfl, rfl⟩ (fun K hl hA hn hR F hr hlk hQ _ => walk K hl hA hn hR F ?_)
  intro sa' hag pc lv d H locs ls hX hS hls
  subst hA
  rw [hQ]
  exact W.iret F.1 F.2.1 hr (fun t ht hW => ⟨⟨r, sa', rfl, ⟨rfl, hag⟩, by show cX B (kA K) sa' h' lk' S' t.heap; rw [ht]; exact hX⟩, hS.F ht⟩) hS.2.2 d hlk
theorem met_az {r : Bool} (hy : plainName y.cls = true) (hlen : (lg_sl av).length ≤ maxL) (walk : ∀ (K : Ctx), kl K = l → kA K = A → kn K = maxL → kR K = { frames := fr, cells := 5 * (cn h' - cn h), slots := 1291 * (cn h' - cn h), locals := lo } → Fx K cc y.cls Kf fr lo → (∀ sa', agr h sa sa' → ∀ (pc : Nat) (lv : List (Nat × Value)), decode cc pc = .ok (.ireturn, 1) → G K (cX B A sa' h' lk') (5 * (cn h' - cn h)) (1291 * (cn h' - cn h)) pc S' lv [.int (bI r)]) → G K (cX B A sa h lk) 0 0 0 S (lv_args 0 av) []) : CAi l y cc maxL (some .boolean) fr lo B Kf A sa h lk lk' S av (bI r) S' h' := by
  refine met_entry (fr := fr) (lo := lo) hy hlen ⟨rfl, rfl⟩ (fun K hl hA hn hR F hr hlk hQ _ => walk K hl hA hn hR F ?_)
  intro sa' hag pc lv d H locs ls hX hS hls
  subst hA
  rw [hQ]
  exact W.zret F.1 F.2.1 hr (bI_narrow r) (fun t ht hW => ⟨⟨bI r, sa', rfl, ⟨rfl, hag⟩, by show cX B (kA K) sa' h' lk' S' t.heap; rw [ht]; exact hX⟩, hS.F ht⟩) hS.2.2 d hlk
theorem met_av (hy : plainName y.cls = true) (hlen : (lg_sl av).length ≤ maxL) (walk : ∀ (K : Ctx), kl K = l → kA K = A → kn K = maxL → kR K = { frames := fr, cells := 5 * (cn h' - cn h), slots := 1291 * (cn h' - cn h), locals := lo } → Fx K cc y.cls Kf fr lo → (∀ sa', agr h sa sa' → ∀ (pc : Nat) (lv : List (Nat × Value)), decode cc pc = .ok (.return_, 1) → G K (cX B A sa' h' lk) (5 * (cn h' - cn h)) (1291 * (cn h' - cn h)) pc S' lv []) → G K (cX B A sa h lk) 0 0 0 S (lv_args 0 av) []) : CAv l y cc maxL none fr lo B Kf A sa h lk S av S' h' := by
  refine met_entry (fr := fr) (lo := lo) hy hlen ⟨rfl, rfl⟩ (fun K hl hA hn hR F hr hlk hQ _ => walk K hl hA hn hR F ?_)
  intro sa' hag pc lv d H locs ls hX hS hls
  subst hA
  rw [hQ]
  exact W.vret F.1 F.2.1 hr (fun t ht hW => ⟨⟨sa', rfl, hag, by show cX B (kA K) sa' h' lk S' t.heap; rw [ht]; exact hX⟩, hS.F ht⟩) hS.2.2 d hlk
end AMets
section ACalls
variable {K : Ctx} {B : CB} {Kf : State → Prop} {sa : Nat → Nat} {h h1 : Nat → Bool} {lk lk1 : Nat × Nat} {S S1 : CS} {cs sl pc : Nat} {lv : List (Nat × Value)} {st st0 As : List Value} {cc cc2 : ByteArray} {own C : String} {fr lo fr2 lo2 idx maxL k b : Nat} {y : MethodName} {ret : Option FieldType}
theorem g_aVr {j : Nat} (n : Nat) (F : Fx K cc own Kf fr lo) (hok : KfOk (kA K) Kf) (hM : CAr (kl K) y cc2 maxL ret fr2 lo2 B Kf (kA K) sa h lk S (.ref b :: As) j S1 h1) (wy : Wy y cc2 maxL ret C k) (hl : Cond.methodLink own idx y ∈ wT) (hrc : Rcv K (cX B (kA K) sa h lk) S b C) (hR : fr2 + 1 ≤ fr ∧ 8 + (maxL + 11) + lo2 ≤ lo) (hst : st0 = As.reverse ++ .ref b :: st) (hk : As.length = k) (hcat : (st.map fun v => v.category).sum ≤ 8) (hcs : cs + 5 * (cn h1 - cn h) ≤ (kR K).cells ∧ sl + 1291 * (cn h1 - cn h) ≤ (kR K).slots) (d : decode cc pc = .ok (.invokevirtual idx, 3)) (hn : pc + 3 = n) (kk : ∀ sa', agr h sa sa' → G K (cX B (kA K) sa' h1 lk) (cs + 5 * (cn h1 - cn h)) (sl + 1291 * (cn h1 - cn h)) n S1 lv (.ref (sa' (5 * j)) :: st)) : G K (cX B (kA K) sa h lk) cs sl pc S lv st0 := by
  subst hn
  intro H locs ls hX hS hls
  refine va_callr (va_runV (As := As) (rest := st) ⟨F.1, F.2.1, F.2.2.1, F.2.2.2.1, F.2.2.2.2.1⟩ hM (cw_V F wy hl ⟨rfl, rfl, rfl, rfl⟩ hR) ⟨cPre_blind hok, hrc H locs hX hS, fun U hU hW => ⟨rfl, cPre_at F hok hX hS U hU hW⟩⟩ rfl hk hls.1 hst (lv_room hcat) d hcs) hS (fun _ _ h => h) (fun _ h => h) (fun u ra t H1 locs1 ht hvm hw hB hz1 hk1 hS1 => ?_)
  obtain ⟨rfl, hB⟩ := hB
  rw [ht] at hB
  exact kk u hw H1 locs1 ls hB hS1 hls
theorem g_aVi {r : Int32} (n : Nat) (F : Fx K cc own Kf fr lo) (hok : KfOk (kA K) Kf) (hM : CAi (kl K) y cc2 maxL ret fr2 lo2 B Kf (kA K) sa h lk lk1 S (.ref b :: As) r S1 h1) (wy : Wy y cc2 maxL ret C k) (hl : Cond.methodLink own idx y ∈ wT) (hrc : Rcv K (cX B (kA K) sa h lk) S b C) (hR : fr2 + 1 ≤ fr ∧ 8 + (maxL + 11) + lo2 ≤ lo) (hst : st0 = As.reverse ++ .ref b :: st) (hk : As.length = k) (hcat : (st.map fun v => v.category).sum ≤ 8) (hcs : cs + 5 * (cn h1 - cn h) ≤ (kR K).cells ∧ sl + 1291 * (cn h1 - cn h) ≤ (kR K).slots) (d : decode cc pc = .ok (.invokevirtual idx, 3)) (hn : pc + 3 = n) (kk : ∀ sa', agr h sa sa' → G K (cX B (kA K) sa' h1 lk1) (cs + 5 * (cn h1 - cn h)) (sl + 1291 * (cn h1 - cn h)) n S1 lv (.int r :: st)) : G K (cX B (kA K) sa h lk) cs sl pc S lv st0 := by
  subst hn
  intro H locs ls hX hS hls
  refine va_calli (va_runV (As := As) (rest := st) ⟨F.1, F.2.1, F.2.2.1, F.2.2.2.1, F.2.2.2.2.1⟩ hM (cw_V F wy hl ⟨rfl, rfl, rfl, rfl⟩ hR) ⟨cPre_blind hok, hrc H locs hX hS, fun U hU hW => ⟨rfl, cPre_at F hok hX hS U hU hW⟩⟩ rfl hk hls.1 hst (lv_room hcat) d hcs) hS (fun _ _ h => h) (fun _ h => h) (fun r' u t H1 locs1 ht hvm hw hB hz1 hk1 hS1 => ?_)
  obtain ⟨rfl, hw⟩ := hw
  have hB : cX B (kA K) u h1 lk1 S1 t.heap := hB
  rw [ht] at hB
  exact kk u hw H1 locs1 ls hB hS1 hls
theorem g_aVv (n : Nat) (F : Fx K cc own Kf fr lo) (hok : KfOk (kA K) Kf) (hM : CAv (kl K) y cc2 maxL ret fr2 lo2 B Kf (kA K) sa h lk S (.ref b :: As) S1 h1) (wy : Wy y cc2 maxL ret C k) (hl : Cond.methodLink own idx y ∈ wT) (hrc : Rcv K (cX B (kA K) sa h lk) S b C) (hR : fr2 + 1 ≤ fr ∧ 8 + (maxL + 11) + lo2 ≤ lo) (hst : st0 = As.reverse ++ .ref b :: st) (hk : As.length = k) (hcat : (st.map fun v => v.category).sum ≤ 8) (hcs : cs + 5 * (cn h1 - cn h) ≤ (kR K).cells ∧ sl + 1291 * (cn h1 - cn h) ≤ (kR K).slots) (d : decode cc pc = .ok (.invokevirtual idx, 3)) (hn : pc + 3 = n) (kk : ∀ sa', agr h sa sa' → G K (cX B (kA K) sa' h1 lk) (cs + 5 * (cn h1 - cn h)) (sl + 1291 * (cn h1 - cn h)) n S1 lv st) : G K (cX B (kA K) sa h lk) cs sl pc S lv st0 := by
  subst hn
  intro H locs ls hX hS hls
  refine va_callv (va_runV (As := As) (rest := st) ⟨F.1, F.2.1, F.2.2.1, F.2.2.2.1, F.2.2.2.2.1⟩ hM (cw_V F wy hl ⟨rfl, rfl, rfl, rfl⟩ hR) ⟨cPre_blind hok, hrc H locs hX hS, fun U hU hW => ⟨rfl, cPre_at F hok hX hS U hU hW⟩⟩ rfl hk hls.1 hst (lv_room hcat) d hcs) hS (fun _ _ h => h) (fun _ h => h) (fun u t H1 locs1 ht hvm hw hB hz1 hk1 hS1 => ?_)
  have hB : cX B (kA K) u h1 lk S1 t.heap := hB
  rw [ht] at hB
  exact kk u hw H1 locs1 ls hB hS1 hls
end ACalls
