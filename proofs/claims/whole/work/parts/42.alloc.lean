/-! Sportsmen are made: the world grows. -/
def cn (h : Nat → Bool) : Nat := ((List.range 12).filter h).length
def hle (h h' : Nat → Bool) : Prop := ∀ j, h j = true → h' j = true
def agr (h : Nat → Bool) (sa sa' : Nat → Nat) : Prop := ∀ j c, h j = true → c < 5 → sa' (5 * j + c) = sa (5 * j + c)
theorem hle_refl (h : Nat → Bool) : hle h h := fun _ e => e
theorem hle_trans {a b c : Nat → Bool} (h1 : hle a b) (h2 : hle b c) : hle a c := fun j e => h2 j (h1 j e)
theorem agr_refl (h : Nat → Bool) (sa : Nat → Nat) : agr h sa sa := fun _ _ _ _ => rfl
theorem agr_trans {h h1 : Nat → Bool} {sa sa1 sa2 : Nat → Nat} (a : agr h sa sa1) (l : hle h h1) (b : agr h1 sa1 sa2) : agr h sa sa2 := fun j c e hc => (b j c (l j e) hc).trans (a j c e hc)
theorem filt_mono {h h' : Nat → Bool} (hl : hle h h') : ∀ L : List Nat, (L.filter h).length ≤ (L.filter h').length
  | [] => Nat.le_refl _
  | a :: L => by
    have ih := filt_mono hl L
    by_cases e : h a = true
    · rw [List.filter_cons_of_pos e, List.filter_cons_of_pos (hl a e)]; simp only [List.length_cons]; omega
    · rw [List.filter_cons_of_neg e]
      by_cases e' : h' a = true
      · rw [List.filter_cons_of_pos e']; simp only [List.length_cons]; omega
      · rw [List.filter_cons_of_neg e']; exact ih
theorem cn_mono {h h' : Nat → Bool} (hl : hle h h') : cn h ≤ cn h' := filt_mono hl _
theorem cn_le (h : Nat → Bool) : cn h ≤ 12 := by
  have e := List.length_filter_le h (List.range 12)
  rw [List.length_range] at e; exact e
theorem filt_up {h : Nat → Bool} {j : Nat} (hj : h j = false) : ∀ L : List Nat, L.Pairwise (· < ·) → (L.filter (va_up h j true)).length = (L.filter h).length + (if j ∈ L then 1 else 0)
  | [], _ => by simp
  | a :: L, hp => by
    have hp' := List.pairwise_cons.mp hp
    have ih := filt_up hj L hp'.2
    by_cases e : a = j
    · subst e
      have hn : a ∉ L := fun z => Nat.lt_irrefl _ (hp'.1 a z)
      rw [List.filter_cons_of_pos (by unfold va_up; simp), List.filter_cons_of_neg (by rw [hj]; decide)]
      rw [if_neg hn] at ih
      simp only [List.length_cons, List.mem_cons, true_or, if_true]
      omega
    · have ev : va_up h j true a = h a := by unfold va_up; exact if_neg e
      have em : (j ∈ a :: L) = (j ∈ L) := by
        rw [List.mem_cons]; exact propext ⟨fun z => z.elim (fun z => absurd z.symm e) id, Or.inr⟩
      simp only [em]
      by_cases e2 : h a = true
      · rw [List.filter_cons_of_pos (by rw [ev]; exact e2), List.filter_cons_of_pos e2]; simp only [List.length_cons]; omega
      · rw [List.filter_cons_of_neg (by rw [ev]; exact e2), List.filter_cons_of_neg e2]; exact ih
theorem cn_up {h : Nat → Bool} {j : Nat} (hj : h j = false) (h12 : j < 12) : cn (va_up h j true) = cn h + 1 := by
  have e := filt_up hj (List.range 12) List.pairwise_lt_range
  rw [if_pos (List.mem_range.mpr h12)] at e
  exact e
theorem hle_up (h : Nat → Bool) (j : Nat) : hle h (va_up h j true) := fun i e => by
  unfold va_up
  by_cases z : i = j
  · rw [if_pos z]
  · rw [if_neg z]; exact e
theorem cNm_lt (h : Nat → Bool) : (cNm h).Pairwise (· < ·) := by
  unfold cNm
  rw [List.pairwise_append]
  refine ⟨List.pairwise_lt_range, ?_, ?_⟩
  · rw [List.pairwise_flatMap]
    refine ⟨fun j _ => ?_, List.pairwise_lt_range.imp (fun {a b} hab x hx y hy => ?_)⟩
    · split
      · simp only [List.pairwise_cons, List.mem_cons, List.not_mem_nil, or_false, forall_eq_or_imp, forall_eq, List.Pairwise.nil, and_true]
        refine ⟨⟨?_, ?_, ?_, ?_⟩, ⟨?_, ?_, ?_⟩, ⟨?_, ?_⟩, ?_, ?_⟩ <;> first | omega | (intro a ha; cases ha)
      · exact List.Pairwise.nil
    · split at hx
      · split at hy
        · simp only [List.mem_cons, List.not_mem_nil, or_false] at hx hy
          omega
        · cases hy
      · cases hx
  · intro a ha b hb
    have ha := List.mem_range.mp ha
    obtain ⟨j, -, hb⟩ := List.mem_flatMap.mp hb
    split at hb
    · simp only [List.mem_cons, List.not_mem_nil, or_false] at hb
      omega
    · cases hb
theorem cNm_mem {h : Nat → Bool} {n : Nat} (hn : n ∈ cNm h) : n < 16 ∨ ∃ j c, j < 12 ∧ h j = true ∧ c < 5 ∧ n = 16 + 5 * j + c := by
  rcases List.mem_append.mp hn with hn | hn
  · exact Or.inl (List.mem_range.mp hn)
  · obtain ⟨j, hj, hn⟩ := List.mem_flatMap.mp hn
    split at hn
    · next hh =>
      simp only [List.mem_cons, List.not_mem_nil, or_false] at hn
      refine Or.inr ⟨j, n - 16 - 5 * j, List.mem_range.mp hj, hh, ?_, ?_⟩ <;> omega
    · cases hn
theorem pos_inj {L : List Nat} (hL : L.Pairwise (· < ·)) {i k n : Nat} (h1 : L[i]? = some n) (h2 : L[k]? = some n) : i = k := by
  obtain ⟨l1, e1⟩ := List.getElem?_eq_some_iff.mp h1
  obtain ⟨l2, e2⟩ := List.getElem?_eq_some_iff.mp h2
  have hp := List.pairwise_iff_getElem.mp hL
  rcases Nat.lt_trichotomy i k with z | z | z
  · have := hp i k l1 l2 z; omega
  · exact z
  · have := hp k i l2 l1 z; omega
theorem nW_inv {ad : Nat → Nat} {L : List Nat} {cf : Nat → va_E} {k : Nat} {x : Nat × va_E} (h : (nW ad L cf)[k]? = some x) : ∃ n, L[k]? = some n ∧ x = (ad n, cf n) := by
  unfold nW at h
  rw [List.getElem?_map] at h
  cases hL : L[k]? with
  | none => rw [hL] at h; cases h
  | some n => rw [hL] at h; exact ⟨n, rfl, (Option.some.inj h).symm⟩
theorem nW_build {D : va_G} {A : Nat → Prop} {ad : Nat → Nat} {L : List Nat} {cf : Nat → va_E} {H : Heap} (hL : L.Pairwise (· < ·)) (h1 : ∀ n ∈ L, va_at D vwCl (ad n, cf n) H) (h2 : ∀ n ∈ L, A (ad n)) (h3 : ∀ n ∈ L, ∀ n' ∈ L, ad n = ad n' → n = n') : va_P D vwCl (nW ad L cf) H ∧ va_D A (nW ad L cf) := by
  refine ⟨fun k x hk => ?_, fun i j x y hi hj hxy => ?_, fun k x hk => ?_⟩
  · obtain ⟨n, hn, rfl⟩ := nW_inv hk
    exact h1 n (List.mem_of_getElem? hn)
  · obtain ⟨n, hn, rfl⟩ := nW_inv hi
    obtain ⟨n', hn', rfl⟩ := nW_inv hj
    have e := h3 n (List.mem_of_getElem? hn) n' (List.mem_of_getElem? hn') hxy
    subst e
    exact pos_inj hL hn hn'
  · obtain ⟨n, hn, rfl⟩ := nW_inv hk
    exact h2 n (List.mem_of_getElem? hn)
theorem nW_parts {D : va_G} {A : Nat → Prop} {ad : Nat → Nat} {L : List Nat} {cf : Nat → va_E} {new : va_W} {H : Heap} (hP : va_P D vwCl (nW ad L cf ++ new) H) (hD : va_D A (nW ad L cf ++ new)) :
    (∀ n ∈ L, va_at D vwCl (ad n, cf n) H ∧ A (ad n)) ∧ (∀ (k : Nat) (x : Nat × va_E), new[k]? = some x → va_at D vwCl x H ∧ A x.1) ∧ (∀ (k k' n n' : Nat), L[k]? = some n → L[k']? = some n' → ad n = ad n' → k = k') ∧ (∀ n ∈ L, ∀ (k : Nat) (x : Nat × va_E), new[k]? = some x → ad n ≠ x.1) ∧ (∀ (i j : Nat) (x y : Nat × va_E), new[i]? = some x → new[j]? = some y → x.1 = y.1 → i = j) := by
  have lo : ∀ (k : Nat) (x : Nat × va_E), (nW ad L cf)[k]? = some x → (nW ad L cf ++ new)[k]? = some x := fun k x hk => by
    rw [List.getElem?_append_left (List.getElem?_eq_some_iff.mp hk).1]; exact hk
  have hi : ∀ (k : Nat) (x : Nat × va_E), new[k]? = some x → (nW ad L cf ++ new)[(nW ad L cf).length + k]? = some x := fun k x hk => (pre_get _ new k).trans hk
  refine ⟨fun n hn => ?_, fun k x hk => ⟨hP _ x (hi k x hk), hD.2 _ x (hi k x hk)⟩, fun k k' n n' h1 h2 e => ?_, fun n hn k x hk e => ?_, fun i j x y h1 h2 e => ?_⟩
  · obtain ⟨k, hk, hq⟩ := nW_get (ad := ad) (cf := cf) hn
    exact ⟨hP k _ (lo k _ hq), hD.2 k _ (lo k _ hq)⟩
  · exact hD.1 k k' _ _ (lo k _ (nW_at (ad := ad) (cf := cf) h1)) (lo k' _ (nW_at (ad := ad) (cf := cf) h2)) e
  · obtain ⟨k', hk', hq⟩ := nW_get (ad := ad) (cf := cf) hn
    have l1 := (List.getElem?_eq_some_iff.mp hq).1
    have := hD.1 k' _ _ _ (lo k' _ hq) (hi k x hk) e
    omega
  · have := hD.1 _ _ _ _ (hi i x h1) (hi j y h2) e
    omega
/-- a new sportsman's fields and rows -/
def zP (S : CS) (j : Nat) : CS := (S.1, S.2.1, S.2.2.1, va_up S.2.2.2.1 j (fun _ => 0), va_up S.2.2.2.2 j (fun _ _ => 0))
theorem cP_zP {S : CS} {j j' f : Nat} : cP (zP S j) j' f = if j' = j then 0 else cP S j' f := by
  unfold cP zP va_up; by_cases e : j' = j <;> simp [e]
theorem cQ_zP {S : CS} {j j' c : Nat} : cQ (zP S j) j' c = if j' = j then (fun _ => 0) else cQ S j' c := by
  unfold cQ zP va_up; by_cases e : j' = j <;> simp [e]
def saU (sa : Nat → Nat) (j q a1 a2 a3 a4 : Nat) : Nat → Nat := fun n => if n = 5 * j then q else if n = 5 * j + 1 then a1 else if n = 5 * j + 2 then a2 else if n = 5 * j + 3 then a3 else if n = 5 * j + 4 then a4 else sa n
theorem saU_ne {sa : Nat → Nat} {j q a1 a2 a3 a4 j' c : Nat} (hj : j' ≠ j) (hc : c < 5) : saU sa j q a1 a2 a3 a4 (5 * j' + c) = sa (5 * j' + c) := by
  unfold saU
  rw [if_neg (by omega), if_neg (by omega), if_neg (by omega), if_neg (by omega), if_neg (by omega)]
theorem saU_agr {sa : Nat → Nat} {h : Nat → Bool} {j q a1 a2 a3 a4 : Nat} (hj : h j = false) : agr h sa (saU sa j q a1 a2 a3 a4) := fun j' c e hc => saU_ne (fun z => by rw [z, hj] at e; cases e) hc
theorem saU_0 {sa : Nat → Nat} {j q a1 a2 a3 a4 : Nat} : saU sa j q a1 a2 a3 a4 (5 * j) = q := if_pos rfl
theorem saU_1 {sa : Nat → Nat} {j q a1 a2 a3 a4 : Nat} : saU sa j q a1 a2 a3 a4 (5 * j + 1) = a1 := by unfold saU; rw [if_neg (by omega), if_pos rfl]
theorem saU_2 {sa : Nat → Nat} {j q a1 a2 a3 a4 : Nat} : saU sa j q a1 a2 a3 a4 (5 * j + 2) = a2 := by unfold saU; rw [if_neg (by omega), if_neg (by omega), if_pos rfl]
theorem saU_3 {sa : Nat → Nat} {j q a1 a2 a3 a4 : Nat} : saU sa j q a1 a2 a3 a4 (5 * j + 3) = a3 := by unfold saU; rw [if_neg (by omega), if_neg (by omega), if_neg (by omega), if_pos rfl]
theorem saU_4 {sa : Nat → Nat} {j q a1 a2 a3 a4 : Nat} : saU sa j q a1 a2 a3 a4 (5 * j + 4) = a4 := by unfold saU; rw [if_neg (by omega), if_neg (by omega), if_neg (by omega), if_neg (by omega), if_pos rfl]
theorem rows_cong {D : va_G} {a : Nat} {cO : ClassId} {f g : Nat → Option Nat} {H : Heap} (e : ∀ i, i < 6 → f i = g i) (h : va_at D vwCl (a, .inl (cO, 6, .inr (.inr (.inr (.inr f))))) H) : va_at D vwCl (a, .inl (cO, 6, .inr (.inr (.inr (.inr g))))) H := by
  have h : H[a]? = some (arrV cO 6 (fun j => va_rf (f j))) := h
  show H[a]? = some (arrV cO 6 (fun j => va_rf (g j)))
  rw [h]
  unfold arrV
  congr 3
  funext i
  show va_rf (f i.val) = va_rf (g i.val)
  rw [e i.val i.isLt]
