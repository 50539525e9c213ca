/-! Worlds side by side: a call works on the first of them, the others stay as they are. -/
abbrev fA (w : va_W) (n : Nat) : Nat → Prop := va_A w n
theorem app_l {w1 w2 : va_W} {k : Nat} {q : Nat × va_E} (h : w1[k]? = some q) : (w1 ++ w2)[k]? = some q := by
  rw [List.getElem?_append_left (List.getElem?_eq_some_iff.mp h).1]; exact h
theorem app_r {w1 w2 : va_W} {k : Nat} {q : Nat × va_E} (h : w2[k]? = some q) : (w1 ++ w2)[w1.length + k]? = some q := (pre_get w1 w2 k).trans h
theorem app_c {w1 w2 : va_W} {k : Nat} {q : Nat × va_E} (h : (w1 ++ w2)[k]? = some q) : w1[k]? = some q ∨ ∃ j, k = w1.length + j ∧ w2[j]? = some q := by
  by_cases hk : k < w1.length
  · rw [List.getElem?_append_left hk] at h; exact Or.inl h
  · refine Or.inr ⟨k - w1.length, by omega, ?_⟩
    rw [List.getElem?_append_right (Nat.le_of_not_lt hk)] at h; exact h
def fDj (w1 w2 : va_W) : Prop := ∀ (i j : Nat) (p q : Nat × va_E), w1[i]? = some p → w2[j]? = some q → p.1 ≠ q.1
theorem rX_app {D : va_G} {A : Nat → Prop} {w1 w2 : va_W} {H : Heap} : rX D A (w1 ++ w2) H ↔ rX D A w1 H ∧ rX D A w2 H ∧ fDj w1 w2 := by
  constructor
  · intro ⟨hP, hD1, hD2⟩
    refine ⟨⟨fun k q h => hP k q (app_l h), fun i j p q h1 h2 e => hD1 i j p q (app_l h1) (app_l h2) e, fun k q h => hD2 k q (app_l h)⟩, ⟨fun k q h => hP _ q (app_r h), fun i j p q h1 h2 e => ?_, fun k q h => hD2 _ q (app_r h)⟩, fun i j p q h1 h2 e => ?_⟩
    · have := hD1 _ _ p q (app_r h1) (app_r h2) e; omega
    · have := hD1 _ _ p q (app_l h1) (app_r h2) e
      have := (List.getElem?_eq_some_iff.mp h1).1
      omega
  · intro ⟨⟨p1, d1, a1⟩, ⟨p2, d2, a2⟩, dj⟩
    refine ⟨fun k q h => ?_, fun i j p q h1 h2 e => ?_, fun k q h => ?_⟩
    · rcases app_c h with h | ⟨j, -, h⟩
      · exact p1 k q h
      · exact p2 j q h
    · rcases app_c h1 with h1 | ⟨i', e1, h1⟩ <;> rcases app_c h2 with h2 | ⟨j', e2, h2⟩
      · exact d1 i j p q h1 h2 e
      · exact absurd e (dj _ _ p q h1 h2)
      · exact absurd e.symm (dj _ _ q p h2 h1)
      · have := d2 i' j' p q h1 h2 e; omega
    · rcases app_c h with h | ⟨j, -, h⟩
      · exact a1 k q h
      · exact a2 j q h
theorem rX_comm {D : va_G} {A : Nat → Prop} {w1 w2 : va_W} {H : Heap} (h : rX D A (w1 ++ w2) H) : rX D A (w2 ++ w1) H := by
  obtain ⟨h1, h2, hd⟩ := rX_app.mp h
  exact rX_app.mpr ⟨h2, h1, fun i j p q a b e => hd j i q p b a e.symm⟩
theorem fr_in {D : va_G} {A : Nat → Prop} {w1 w2 : va_W} {H : Heap} (h : rX D A (w1 ++ w2) H) : rX D (fA w1 H.size) w1 H :=
  ⟨(rX_app.mp h).1.1, (rX_app.mp h).1.2.1, fun k q hq => Or.inl ⟨k, q.2, hq⟩⟩
theorem fr_A {D : va_G} {A : Nat → Prop} {w1 w2 : va_W} {H : Heap} (h : rX D A (w1 ++ w2) H) (hA : ∀ q, H.size ≤ q → A q) : ∀ q, fA w1 H.size q → A q := fun q hq => by
  rcases hq with ⟨k, e, hq⟩ | hq
  · exact (rX_app.mp h).1.2.2 k _ hq
  · exact hA q hq
theorem fr_back {D : va_G} {A : Nat → Prop} {w1 w2 w1' : va_W} {H H1 : Heap} (h : rX D A (w1 ++ w2) H) (h1 : rX D (fA w1 H.size) w1' H1) (hk : ∀ q, q < H.size → ¬ fA w1 H.size q → H1[q]? = H[q]?) (hA : ∀ q, H.size ≤ q → A q) : rX D A (w1' ++ w2) H1 := by
  obtain ⟨a1, a2, ad⟩ := rX_app.mp h
  have hn : ∀ (j : Nat) (q : Nat × va_E), w2[j]? = some q → q.1 < H.size ∧ ¬ fA w1 H.size q.1 := fun j q hq => by
    have hlt : q.1 < H.size := (a2.1 j q hq).lt
    refine ⟨hlt, fun h9 => ?_⟩
    rcases h9 with ⟨k, e, h9⟩ | h9
    · exact ad k j _ q h9 hq rfl
    · exact Nat.not_le.mpr hlt h9
  refine rX_app.mpr ⟨⟨h1.1, h1.2.1, fun k q hq => fr_A h hA _ (h1.2.2 k q hq)⟩, ⟨a2.1.kept (fun k q hq => hk q.1 (hn k q hq).1 (hn k q hq).2), a2.2⟩, fun i j p q hp hq e => ?_⟩
  exact (hn j q hq).2 (e ▸ h1.2.2 i p hp)
section FrameCalls
variable {σ : Type} {K : Ctx} {D : va_G} {wf : σ → va_W} {w2 : va_W} {cs sl pc : Nat} {S S' : σ} {lv : List (Nat × Value)} {st st0 As : List Value} {cc cc2 : ByteArray} {own C : String} {Kf0 : State → Prop} {Kf : (Nat → Prop) → State → Prop} {fr lo fr2 lo2 idx maxL k b : Nat} {y : MethodName} {ret : Option FieldType}
def KfAll (Kf : (Nat → Prop) → State → Prop) : Prop := (∀ A, KfOk A (Kf A)) ∧ ∀ (A A' : Nat → Prop) (U : State), Kf A U → (∀ q, A' q → A q) → Kf A' U
theorem fr_pre (F : Fx K cc own Kf0 fr lo) (hK : Kf (kA K) (ks K)) (hok : KfAll Kf) {w1 : va_W} {H : Heap} {locs : List Loc} (hX : rX D (kA K) (w1 ++ w2) H) (hS : va_S (kA K) (ks K).heap H locs) : ∀ U : State, U.heap = H → (ks K).WarmedH U.vm → rX D (fA w1 H.size) w1 U.heap ∧ Kf (fA w1 H.size) U ∧ ∀ q, U.heap.size ≤ q → fA w1 H.size q := fun U hU hW =>
  ⟨by rw [hU]; exact fr_in hX, hok.2 _ _ U ((hok.1 (kA K)).2 (ks K) U locs hK hW (by rw [hU]; exact hS)) (fr_A hX (fun q hq => F.2.2.2.2.2.2.1 q (Nat.le_trans hS.1 hq))), fun q hq => Or.inr (by rw [← hU]; exact hq)⟩
theorem g_fVi (n : Nat) {r : Int32} (F : Fx K cc own Kf0 fr lo) (hK : Kf (kA K) (ks K)) (hok : KfAll Kf) (hM : ∀ A, Ci (kl K) y cc2 maxL ret fr2 lo2 (fun (u : σ) H => rX D A (wf u) H) (Kf A) A S (.ref b :: As) r S') (wy : Wy y cc2 maxL ret C k) (hl : Cond.methodLink own idx y ∈ wT) (hrc : Rcv K (rX D (kA K)) (wf S ++ w2) b C) (hR : fr2 + 1 ≤ fr ∧ 8 + (maxL + 11) + lo2 ≤ lo) (hst : st0 = As.reverse ++ .ref b :: st) (hk : As.length = k) (hcat : (st.map fun v => v.category).sum ≤ 8) (hcs : cs ≤ (kR K).cells ∧ sl ≤ (kR K).slots) (d : decode cc pc = .ok (.invokevirtual idx, 3)) (hn : pc + 3 = n) (kk : G K (rX D (kA K)) cs sl n (wf S' ++ w2) lv (.int r :: st)) : G K (rX D (kA K)) cs sl pc (wf S ++ w2) lv st0 := by
  subst hn
  intro H locs ls hX hS hls
  have hA : ∀ q, H.size ≤ q → kA K q := fun q hq => F.2.2.2.2.2.2.1 q (Nat.le_trans hS.1 hq)
  refine va_calli (va_runV (As := As) (rest := st) ⟨F.1, F.2.1, F.2.2.1, F.2.2.2.1, F.2.2.2.2.1⟩ (hM (fA (wf S) H.size)) (cw_V F wy hl ⟨rfl, rfl, rfl, rfl⟩ hR) ⟨cPre_blind (hok.1 _), hrc H locs hX hS, fun U hU hW => ⟨rfl, fr_pre F hK hok hX hS U hU hW⟩⟩ rfl hk hls.1 hst (lv_room hcat) d hcs) hS (fun q _ h => fr_A hX hA q h) (fun q h => fr_A hX hA q h) (fun r' u t H1 locs1 ht hvm hw hB hz1 hk1 hS1 => ?_)
  obtain ⟨rfl, rfl⟩ := hw
  have hB : rX D (fA (wf S) H.size) (wf u) t.heap := hB
  rw [ht] at hB
  exact kk H1 locs1 ls (fr_back hX hB hk1 hA) hS1 hls
end FrameCalls
