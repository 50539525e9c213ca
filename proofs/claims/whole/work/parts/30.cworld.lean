/-! A world by names: the cells of the names L, at the addresses ad, holding cf. -/
def nW (ad : Nat → Nat) (L : List Nat) (cf : Nat → va_E) : va_W := L.map (fun n => (ad n, cf n))
theorem nW_at {ad : Nat → Nat} {L : List Nat} {cf : Nat → va_E} {k n : Nat} (h : L[k]? = some n) : (nW ad L cf)[k]? = some (ad n, cf n) := by
  unfold nW; rw [List.getElem?_map, h]; rfl
theorem nW_get {ad : Nat → Nat} {L : List Nat} {cf : Nat → va_E} {n : Nat} (h : n ∈ L) : ∃ k : Nat, L[k]? = some n ∧ (nW ad L cf)[k]? = some (ad n, cf n) := by
  obtain ⟨k, hk⟩ := List.getElem?_of_mem h
  exact ⟨k, hk, nW_at hk⟩
theorem nW_set {A : Nat → Prop} {ad : Nat → Nat} {L : List Nat} {cf cf' : Nat → va_E} {k n : Nat} {e : va_E} (hD : va_D A (nW ad L cf)) (hk : L[k]? = some n) (he : cf' n = e) (ho : ∀ n', n' ≠ n → cf' n' = cf n') : (nW ad L cf).set k (ad n, e) = nW ad L cf' := by
  apply List.ext_getElem?
  intro i
  by_cases hi : i = k
  · subst hi
    have hl : i < (nW ad L cf).length := (List.getElem?_eq_some_iff.mp (nW_at (ad := ad) (cf := cf) hk)).1
    rw [List.getElem?_set_self hl, nW_at (ad := ad) (cf := cf') hk, he]
  · rw [List.getElem?_set_ne (Ne.symm hi)]
    unfold nW
    rw [List.getElem?_map, List.getElem?_map]
    cases hL : L[i]? with
    | none => rfl
    | some n' =>
      have hne : n' ≠ n := fun z => by
        subst z
        exact hi (hD.1 i k (ad n', cf n') (ad n', cf n') (nW_at hL) (nW_at hk) rfl)
      simp only [Option.map_some]
      rw [ho n' hne]
/-! THE CLASS'S STATE: its scalars, registers, arrays, sportsmen, sportsmen's arrays. -/
abbrev CS : Type := (Nat → Int32) × (Nat → Nat → Int32) × (Nat → Nat → Int32) × (Nat → Nat → Int32) × (Nat → Nat → Nat → Int32)
def cF (S : CS) (k : Nat) : Int32 := S.1 k
def cR (S : CS) (r f : Nat) : Int32 := S.2.1 r f
def cA (S : CS) (k : Nat) : Nat → Int32 := S.2.2.1 k
def cP (S : CS) (j f : Nat) : Int32 := S.2.2.2.1 j f
def cQ (S : CS) (j c : Nat) : Nat → Int32 := S.2.2.2.2 j c
def sF (S : CS) (k : Nat) (v : Int32) : CS := (va_up S.1 k v, S.2)
def sR (S : CS) (r f : Nat) (v : Int32) : CS := (S.1, va_up S.2.1 r (va_up (S.2.1 r) f v), S.2.2)
def sAw (S : CS) (k : Nat) (f : Nat → Int32) : CS := (S.1, S.2.1, va_up S.2.2.1 k f, S.2.2.2)
def sA (S : CS) (k i : Nat) (v : Int32) : CS := sAw S k (upd (cA S k) i v)
def sP (S : CS) (j f : Nat) (v : Int32) : CS := (S.1, S.2.1, S.2.2.1, va_up S.2.2.2.1 j (va_up (S.2.2.2.1 j) f v), S.2.2.2.2)
def sQw (S : CS) (j c : Nat) (f : Nat → Int32) : CS := (S.1, S.2.1, S.2.2.1, S.2.2.2.1, va_up S.2.2.2.2 j (va_up (S.2.2.2.2 j) c f))
def sQ (S : CS) (j c i : Nat) (v : Int32) : CS := sQw S j c (upd (cQ S j c) i v)
/-- what stays: the classes' numbers, the array classes (int, boolean, byte, Sportsman), the static arrays, the texts, the fixed cells' addresses -/
abbrev CB : Type := va_G × (Nat → ClassId) × (Nat → Nat) × (Nat → Nat) × (Nat → Nat) × (Nat → Nat)
abbrev cAf (B : CB) (n : Nat) : Nat := B.2.2.2.2.2 n
def cAd (B : CB) (sa : Nat → Nat) (n : Nat) : Nat := if n < 16 then cAf B n else sa (n - 16)
def cFix (B : CB) (sa : Nat → Nat) (h : Nat → Bool) (lk : Nat × Nat) (S : CS) (n : Nat) : va_E := match n with
  | 0 => .inr (5, [.ref (cAf B (1 + lk.1)), .ref (cAf B (1 + lk.2)), .ref (cAf B 7), .ref (cAf B 11), .ref (cAf B 13), .ref (cAf B 15), .int (cF S 0)])
  | 1 => .inr (0, [.int (cR S 0 0), .int (cR S 0 1), .int (cR S 0 2), .ref (cAf B 3), .ref (cAf B 5)])
  | 2 => .inr (0, [.int (cR S 1 0), .int (cR S 1 1), .int (cR S 1 2), .ref (cAf B 4), .ref (cAf B 6)])
  | 3 => .inl (B.2.1 0, 6, .inl (cA S 0))
  | 4 => .inl (B.2.1 0, 6, .inl (cA S 1))
  | 5 => .inl (B.2.1 3, 6, .inr (.inr (.inr (.inr (fun i => if h i = true then some (sa (5 * i)) else none)))))
  | 6 => .inl (B.2.1 3, 6, .inr (.inr (.inr (.inr (fun i => if h (6 + i) = true then some (sa (5 * (6 + i))) else none)))))
  | 7 => .inr (2, [.int (cF S 1), .int (cF S 2), .int (cF S 3), .int (cF S 4), .int (cF S 5), .int (cF S 6), .int (cF S 7), .ref (cAf B 8), .ref (cAf B 9), .ref (cAf B 10)])
  | 8 => .inl (B.2.1 0, 61, .inl (cA S 2))
  | 9 => .inl (B.2.1 1, 61, .inl (cA S 3))
  | 10 => .inl (B.2.1 0, 61, .inl (cA S 4))
  | 11 => .inr (3, [.int (cF S 8), .int (cF S 9), .int (cF S 10), .int (cF S 11), .int (cF S 12), .ref (cAf B 12)])
  | 12 => .inl (B.2.1 2, 400, .inl (cA S 5))
  | 13 => .inr (4, [.int (cF S 13), .ref (cAf B 11), .ref (cAf B 14), .int (cF S 14)])
  | 14 => .inl (B.2.1 0, 5, .inl (cA S 6))
  | _ => .inl (B.2.1 0, 6, .inl (cA S 7))
def cSpc (B : CB) (sa : Nat → Nat) (S : CS) (j c : Nat) : va_E := if c = 0 then .inr (1, [.int (cP S j 0), .int (cP S j 1), .int (cP S j 2), .int (cP S j 3), .int (cP S j 4), .int (cP S j 5), .int (cP S j 6), .ref (sa (5 * j + 1)), .ref (sa (5 * j + 2)), .ref (sa (5 * j + 3)), .ref (sa (5 * j + 4))]) else .inl (B.2.1 0, if c = 4 then 1100 else 60, .inl (cQ S j (c - 1)))
def cCell (B : CB) (sa : Nat → Nat) (h : Nat → Bool) (lk : Nat × Nat) (S : CS) (n : Nat) : va_E := if n < 16 then cFix B sa h lk S n else cSpc B sa S ((n - 16) / 5) ((n - 16) % 5)
def cNm (h : Nat → Bool) : List Nat := List.range 16 ++ (List.range 12).flatMap (fun j => if h j = true then [16 + 5 * j, 17 + 5 * j, 18 + 5 * j, 19 + 5 * j, 20 + 5 * j] else [])
def cWf (h : Nat → Bool) (lk : Nat × Nat) : Prop := lk.1 < 2 ∧ lk.2 < 2 ∧ ∀ j, h j = true → j < 12
abbrev cWl (B : CB) (sa : Nat → Nat) (h : Nat → Bool) (lk : Nat × Nat) (S : CS) : va_W := nW (cAd B sa) (cNm h) (cCell B sa h lk S)
def cX (B : CB) (A : Nat → Prop) (sa : Nat → Nat) (h : Nat → Bool) (lk : Nat × Nat) (S : CS) (H : Heap) : Prop := va_P B.1 vwCl (cWl B sa h lk S) H ∧ va_D A (cWl B sa h lk S)
theorem cNm_fix {h : Nat → Bool} {n : Nat} (hn : n < 16) : n ∈ cNm h := List.mem_append_left _ (List.mem_range.mpr hn)
theorem cNm_sp {h : Nat → Bool} {j c : Nat} (hj : h j = true) (h12 : j < 12) (hc : c < 5) : 16 + 5 * j + c ∈ cNm h := by
  refine List.mem_append_right _ (List.mem_flatMap.mpr ⟨j, List.mem_range.mpr h12, ?_⟩)
  rw [if_pos hj]
  rcases (show c = 0 ∨ c = 1 ∨ c = 2 ∨ c = 3 ∨ c = 4 by omega) with rfl | rfl | rfl | rfl | rfl
  · exact List.mem_cons_self
  · exact List.mem_cons_of_mem _ (by rw [show 16 + 5 * j + 1 = 17 + 5 * j by omega]; exact List.mem_cons_self)
  · exact List.mem_cons_of_mem _ (List.mem_cons_of_mem _ (by rw [show 16 + 5 * j + 2 = 18 + 5 * j by omega]; exact List.mem_cons_self))
  · exact List.mem_cons_of_mem _ (List.mem_cons_of_mem _ (List.mem_cons_of_mem _ (by rw [show 16 + 5 * j + 3 = 19 + 5 * j by omega]; exact List.mem_cons_self)))
  · exact List.mem_cons_of_mem _ (List.mem_cons_of_mem _ (List.mem_cons_of_mem _ (List.mem_cons_of_mem _ (by rw [show 16 + 5 * j + 4 = 20 + 5 * j by omega]; exact List.mem_cons_self))))
section CellLemmas
variable {B : CB} {sa : Nat → Nat} {h : Nat → Bool} {lk : Nat × Nat} {S : CS}
theorem cAd_fix {n : Nat} (hn : n < 16) : cAd B sa n = cAf B n := if_pos hn
theorem cAd_sp (j c : Nat) : cAd B sa (16 + 5 * j + c) = sa (5 * j + c) := by
  unfold cAd; rw [if_neg (by omega), show 16 + 5 * j + c - 16 = 5 * j + c by omega]
theorem cCell_fix {n : Nat} (hn : n < 16) : cCell B sa h lk S n = cFix B sa h lk S n := if_pos hn
theorem cCell_sp {j c : Nat} (hc : c < 5) : cCell B sa h lk S (16 + 5 * j + c) = cSpc B sa S j c := by
  unfold cCell; rw [if_neg (by omega), show (16 + 5 * j + c - 16) / 5 = j by omega, show (16 + 5 * j + c - 16) % 5 = c by omega]
theorem cCell_reg {r : Nat} (hr : r < 2) : cCell B sa h lk S (1 + r) = .inr (0, [.int (cR S r 0), .int (cR S r 1), .int (cR S r 2), .ref (cAf B (3 + r)), .ref (cAf B (5 + r))]) := by
  rcases (show r = 0 ∨ r = 1 by omega) with rfl | rfl <;> rfl
theorem cCell_set {r : Nat} (hr : r < 2) : cCell B sa h lk S (3 + r) = .inl (B.2.1 0, 6, .inl (cA S r)) := by
  rcases (show r = 0 ∨ r = 1 by omega) with rfl | rfl <;> rfl
theorem cCell_rows {r : Nat} (hr : r < 2) : cCell B sa h lk S (5 + r) = .inl (B.2.1 3, 6, .inr (.inr (.inr (.inr (fun i => if h (6 * r + i) = true then some (sa (5 * (6 * r + i))) else none))))) := by
  rcases (show r = 0 ∨ r = 1 by omega) with rfl | rfl
  · simp only [Nat.mul_zero, Nat.zero_add]; rfl
  · rfl
/-- a change of the state that one name's cell alone shows -/
theorem cCell_frame {S' : CS} {m : Nat} (h1 : ∀ n, n < 16 → n ≠ m → cFix B sa h lk S' n = cFix B sa h lk S n) (h2 : ∀ j c, c < 5 → 16 + 5 * j + c ≠ m → cSpc B sa S' j c = cSpc B sa S j c) : ∀ n, n ≠ m → cCell B sa h lk S' n = cCell B sa h lk S n := by
  intro n hn
  by_cases hlt : n < 16
  · rw [cCell_fix hlt, cCell_fix hlt]; exact h1 n hlt hn
  · have e : n = 16 + 5 * ((n - 16) / 5) + (n - 16) % 5 := by omega
    have hc : (n - 16) % 5 < 5 := Nat.mod_lt _ (by decide)
    rw [e, cCell_sp hc, cCell_sp hc]
    exact h2 _ _ hc (by rw [← e]; exact hn)

theorem fr_F0 (v : Int32) : ∀ n, n ≠ 0 → cCell B sa h lk (sF S 0 v) n = cCell B sa h lk S n := by
  refine cCell_frame (fun n hn hne => ?_) (fun j c _ _ => rfl)
  match n, hn, hne with
    | 0, _, h => exact absurd rfl h
    | 1, _, _ => rfl
    | 2, _, _ => rfl
    | 3, _, _ => rfl
    | 4, _, _ => rfl
    | 5, _, _ => rfl
    | 6, _, _ => rfl
    | 7, _, _ => rfl
    | 8, _, _ => rfl
    | 9, _, _ => rfl
    | 10, _, _ => rfl
    | 11, _, _ => rfl
    | 12, _, _ => rfl
    | 13, _, _ => rfl
    | 14, _, _ => rfl
    | 15, _, _ => rfl
    | n + 16, hn, _ => exact absurd hn (by omega)
theorem fr_F1 (v : Int32) : ∀ n, n ≠ 7 → cCell B sa h lk (sF S 1 v) n = cCell B sa h lk S n := by
  refine cCell_frame (fun n hn hne => ?_) (fun j c _ _ => rfl)
  match n, hn, hne with
    | 0, _, _ => rfl
    | 1, _, _ => rfl
    | 2, _, _ => rfl
    | 3, _, _ => rfl
    | 4, _, _ => rfl
    | 5, _, _ => rfl
    | 6, _, _ => rfl
    | 7, _, h => exact absurd rfl h
    | 8, _, _ => rfl
    | 9, _, _ => rfl
    | 10, _, _ => rfl
    | 11, _, _ => rfl
    | 12, _, _ => rfl
    | 13, _, _ => rfl
    | 14, _, _ => rfl
    | 15, _, _ => rfl
    | n + 16, hn, _ => exact absurd hn (by omega)
theorem fr_F2 (v : Int32) : ∀ n, n ≠ 7 → cCell B sa h lk (sF S 2 v) n = cCell B sa h lk S n := by
  refine cCell_frame (fun n hn hne => ?_) (fun j c _ _ => rfl)
  match n, hn, hne with
    | 0, _, _ => rfl
    | 1, _, _ => rfl
    | 2, _, _ => rfl
    | 3, _, _ => rfl
    | 4, _, _ => rfl
    | 5, _, _ => rfl
    | 6, _, _ => rfl
    | 7, _, h => exact absurd rfl h
    | 8, _, _ => rfl
    | 9, _, _ => rfl
    | 10, _, _ => rfl
    | 11, _, _ => rfl
    | 12, _, _ => rfl
    | 13, _, _ => rfl
    | 14, _, _ => rfl
    | 15, _, _ => rfl
    | n + 16, hn, _ => exact absurd hn (by omega)
theorem fr_F3 (v : Int32) : ∀ n, n ≠ 7 → cCell B sa h lk (sF S 3 v) n = cCell B sa h lk S n := by
  refine cCell_frame (fun n hn hne => ?_) (fun j c _ _ => rfl)
  match n, hn, hne with
    | 0, _, _ => rfl
    | 1, _, _ => rfl
    | 2, _, _ => rfl
    | 3, _, _ => rfl
    | 4, _, _ => rfl
    | 5, _, _ => rfl
    | 6, _, _ => rfl
    | 7, _, h => exact absurd rfl h
    | 8, _, _ => rfl
    | 9, _, _ => rfl
    | 10, _, _ => rfl
    | 11, _, _ => rfl
    | 12, _, _ => rfl
    | 13, _, _ => rfl
    | 14, _, _ => rfl
    | 15, _, _ => rfl
    | n + 16, hn, _ => exact absurd hn (by omega)
theorem fr_F4 (v : Int32) : ∀ n, n ≠ 7 → cCell B sa h lk (sF S 4 v) n = cCell B sa h lk S n := by
  refine cCell_frame (fun n hn hne => ?_) (fun j c _ _ => rfl)
  match n, hn, hne with
    | 0, _, _ => rfl
    | 1, _, _ => rfl
    | 2, _, _ => rfl
    | 3, _, _ => rfl
    | 4, _, _ => rfl
    | 5, _, _ => rfl
    | 6, _, _ => rfl
    | 7, _, h => exact absurd rfl h
    | 8, _, _ => rfl
    | 9, _, _ => rfl
    | 10, _, _ => rfl
    | 11, _, _ => rfl
    | 12, _, _ => rfl
    | 13, _, _ => rfl
    | 14, _, _ => rfl
    | 15, _, _ => rfl
    | n + 16, hn, _ => exact absurd hn (by omega)
theorem fr_F5 (v : Int32) : ∀ n, n ≠ 7 → cCell B sa h lk (sF S 5 v) n = cCell B sa h lk S n := by
  refine cCell_frame (fun n hn hne => ?_) (fun j c _ _ => rfl)
  match n, hn, hne with
    | 0, _, _ => rfl
    | 1, _, _ => rfl
    | 2, _, _ => rfl
    | 3, _, _ => rfl
    | 4, _, _ => rfl
    | 5, _, _ => rfl
    | 6, _, _ => rfl
    | 7, _, h => exact absurd rfl h
    | 8, _, _ => rfl
    | 9, _, _ => rfl
    | 10, _, _ => rfl
    | 11, _, _ => rfl
    | 12, _, _ => rfl
    | 13, _, _ => rfl
    | 14, _, _ => rfl
    | 15, _, _ => rfl
    | n + 16, hn, _ => exact absurd hn (by omega)
theorem fr_F6 (v : Int32) : ∀ n, n ≠ 7 → cCell B sa h lk (sF S 6 v) n = cCell B sa h lk S n := by
  refine cCell_frame (fun n hn hne => ?_) (fun j c _ _ => rfl)
  match n, hn, hne with
    | 0, _, _ => rfl
    | 1, _, _ => rfl
    | 2, _, _ => rfl
    | 3, _, _ => rfl
    | 4, _, _ => rfl
    | 5, _, _ => rfl
    | 6, _, _ => rfl
    | 7, _, h => exact absurd rfl h
    | 8, _, _ => rfl
    | 9, _, _ => rfl
    | 10, _, _ => rfl
    | 11, _, _ => rfl
    | 12, _, _ => rfl
    | 13, _, _ => rfl
    | 14, _, _ => rfl
    | 15, _, _ => rfl
    | n + 16, hn, _ => exact absurd hn (by omega)
theorem fr_F7 (v : Int32) : ∀ n, n ≠ 7 → cCell B sa h lk (sF S 7 v) n = cCell B sa h lk S n := by
  refine cCell_frame (fun n hn hne => ?_) (fun j c _ _ => rfl)
  match n, hn, hne with
    | 0, _, _ => rfl
    | 1, _, _ => rfl
    | 2, _, _ => rfl
    | 3, _, _ => rfl
    | 4, _, _ => rfl
    | 5, _, _ => rfl
    | 6, _, _ => rfl
    | 7, _, h => exact absurd rfl h
    | 8, _, _ => rfl
    | 9, _, _ => rfl
    | 10, _, _ => rfl
    | 11, _, _ => rfl
    | 12, _, _ => rfl
    | 13, _, _ => rfl
    | 14, _, _ => rfl
    | 15, _, _ => rfl
    | n + 16, hn, _ => exact absurd hn (by omega)
theorem fr_F8 (v : Int32) : ∀ n, n ≠ 11 → cCell B sa h lk (sF S 8 v) n = cCell B sa h lk S n := by
  refine cCell_frame (fun n hn hne => ?_) (fun j c _ _ => rfl)
  match n, hn, hne with
    | 0, _, _ => rfl
    | 1, _, _ => rfl
    | 2, _, _ => rfl
    | 3, _, _ => rfl
    | 4, _, _ => rfl
    | 5, _, _ => rfl
    | 6, _, _ => rfl
    | 7, _, _ => rfl
    | 8, _, _ => rfl
    | 9, _, _ => rfl
    | 10, _, _ => rfl
    | 11, _, h => exact absurd rfl h
    | 12, _, _ => rfl
    | 13, _, _ => rfl
    | 14, _, _ => rfl
    | 15, _, _ => rfl
    | n + 16, hn, _ => exact absurd hn (by omega)
theorem fr_F9 (v : Int32) : ∀ n, n ≠ 11 → cCell B sa h lk (sF S 9 v) n = cCell B sa h lk S n := by
  refine cCell_frame (fun n hn hne => ?_) (fun j c _ _ => rfl)
  match n, hn, hne with
    | 0, _, _ => rfl
    | 1, _, _ => rfl
    | 2, _, _ => rfl
    | 3, _, _ => rfl
    | 4, _, _ => rfl
    | 5, _, _ => rfl
    | 6, _, _ => rfl
    | 7, _, _ => rfl
    | 8, _, _ => rfl
    | 9, _, _ => rfl
    | 10, _, _ => rfl
    | 11, _, h => exact absurd rfl h
    | 12, _, _ => rfl
    | 13, _, _ => rfl
    | 14, _, _ => rfl
    | 15, _, _ => rfl
    | n + 16, hn, _ => exact absurd hn (by omega)
theorem fr_F10 (v : Int32) : ∀ n, n ≠ 11 → cCell B sa h lk (sF S 10 v) n = cCell B sa h lk S n := by
  refine cCell_frame (fun n hn hne => ?_) (fun j c _ _ => rfl)
  match n, hn, hne with
    | 0, _, _ => rfl
    | 1, _, _ => rfl
    | 2, _, _ => rfl
    | 3, _, _ => rfl
    | 4, _, _ => rfl
    | 5, _, _ => rfl
    | 6, _, _ => rfl
    | 7, _, _ => rfl
    | 8, _, _ => rfl
    | 9, _, _ => rfl
    | 10, _, _ => rfl
    | 11, _, h => exact absurd rfl h
    | 12, _, _ => rfl
    | 13, _, _ => rfl
    | 14, _, _ => rfl
    | 15, _, _ => rfl
    | n + 16, hn, _ => exact absurd hn (by omega)
theorem fr_F11 (v : Int32) : ∀ n, n ≠ 11 → cCell B sa h lk (sF S 11 v) n = cCell B sa h lk S n := by
  refine cCell_frame (fun n hn hne => ?_) (fun j c _ _ => rfl)
  match n, hn, hne with
    | 0, _, _ => rfl
    | 1, _, _ => rfl
    | 2, _, _ => rfl
    | 3, _, _ => rfl
    | 4, _, _ => rfl
    | 5, _, _ => rfl
    | 6, _, _ => rfl
    | 7, _, _ => rfl
    | 8, _, _ => rfl
    | 9, _, _ => rfl
    | 10, _, _ => rfl
    | 11, _, h => exact absurd rfl h
    | 12, _, _ => rfl
    | 13, _, _ => rfl
    | 14, _, _ => rfl
    | 15, _, _ => rfl
    | n + 16, hn, _ => exact absurd hn (by omega)
theorem fr_F12 (v : Int32) : ∀ n, n ≠ 11 → cCell B sa h lk (sF S 12 v) n = cCell B sa h lk S n := by
  refine cCell_frame (fun n hn hne => ?_) (fun j c _ _ => rfl)
  match n, hn, hne with
    | 0, _, _ => rfl
    | 1, _, _ => rfl
    | 2, _, _ => rfl
    | 3, _, _ => rfl
    | 4, _, _ => rfl
    | 5, _, _ => rfl
    | 6, _, _ => rfl
    | 7, _, _ => rfl
    | 8, _, _ => rfl
    | 9, _, _ => rfl
    | 10, _, _ => rfl
    | 11, _, h => exact absurd rfl h
    | 12, _, _ => rfl
    | 13, _, _ => rfl
    | 14, _, _ => rfl
    | 15, _, _ => rfl
    | n + 16, hn, _ => exact absurd hn (by omega)
theorem fr_F13 (v : Int32) : ∀ n, n ≠ 13 → cCell B sa h lk (sF S 13 v) n = cCell B sa h lk S n := by
  refine cCell_frame (fun n hn hne => ?_) (fun j c _ _ => rfl)
  match n, hn, hne with
    | 0, _, _ => rfl
    | 1, _, _ => rfl
    | 2, _, _ => rfl
    | 3, _, _ => rfl
    | 4, _, _ => rfl
    | 5, _, _ => rfl
    | 6, _, _ => rfl
    | 7, _, _ => rfl
    | 8, _, _ => rfl
    | 9, _, _ => rfl
    | 10, _, _ => rfl
    | 11, _, _ => rfl
    | 12, _, _ => rfl
    | 13, _, h => exact absurd rfl h
    | 14, _, _ => rfl
    | 15, _, _ => rfl
    | n + 16, hn, _ => exact absurd hn (by omega)
theorem fr_F14 (v : Int32) : ∀ n, n ≠ 13 → cCell B sa h lk (sF S 14 v) n = cCell B sa h lk S n := by
  refine cCell_frame (fun n hn hne => ?_) (fun j c _ _ => rfl)
  match n, hn, hne with
    | 0, _, _ => rfl
    | 1, _, _ => rfl
    | 2, _, _ => rfl
    | 3, _, _ => rfl
    | 4, _, _ => rfl
    | 5, _, _ => rfl
    | 6, _, _ => rfl
    | 7, _, _ => rfl
    | 8, _, _ => rfl
    | 9, _, _ => rfl
    | 10, _, _ => rfl
    | 11, _, _ => rfl
    | 12, _, _ => rfl
    | 13, _, h => exact absurd rfl h
    | 14, _, _ => rfl
    | 15, _, _ => rfl
    | n + 16, hn, _ => exact absurd hn (by omega)
theorem fr_R0 {r : Nat} (hr : r < 2) (v : Int32) : ∀ n, n ≠ 1 + r → cCell B sa h lk (sR S r 0 v) n = cCell B sa h lk S n := by
  rcases (show r = 0 ∨ r = 1 by omega) with rfl | rfl
  · refine cCell_frame (fun n hn hne => ?_) (fun j c _ _ => rfl)
    match n, hn, hne with
      | 0, _, _ => rfl
      | 1, _, h => exact absurd rfl h
      | 2, _, _ => rfl
      | 3, _, _ => rfl
      | 4, _, _ => rfl
      | 5, _, _ => rfl
      | 6, _, _ => rfl
      | 7, _, _ => rfl
      | 8, _, _ => rfl
      | 9, _, _ => rfl
      | 10, _, _ => rfl
      | 11, _, _ => rfl
      | 12, _, _ => rfl
      | 13, _, _ => rfl
      | 14, _, _ => rfl
      | 15, _, _ => rfl
      | n + 16, hn, _ => exact absurd hn (by omega)
  · refine cCell_frame (fun n hn hne => ?_) (fun j c _ _ => rfl)
    match n, hn, hne with
      | 0, _, _ => rfl
      | 1, _, _ => rfl
      | 2, _, h => exact absurd rfl h
      | 3, _, _ => rfl
      | 4, _, _ => rfl
      | 5, _, _ => rfl
      | 6, _, _ => rfl
      | 7, _, _ => rfl
      | 8, _, _ => rfl
      | 9, _, _ => rfl
      | 10, _, _ => rfl
      | 11, _, _ => rfl
      | 12, _, _ => rfl
      | 13, _, _ => rfl
      | 14, _, _ => rfl
      | 15, _, _ => rfl
      | n + 16, hn, _ => exact absurd hn (by omega)
theorem fr_R1 {r : Nat} (hr : r < 2) (v : Int32) : ∀ n, n ≠ 1 + r → cCell B sa h lk (sR S r 1 v) n = cCell B sa h lk S n := by
  rcases (show r = 0 ∨ r = 1 by omega) with rfl | rfl
  · refine cCell_frame (fun n hn hne => ?_) (fun j c _ _ => rfl)
    match n, hn, hne with
      | 0, _, _ => rfl
      | 1, _, h => exact absurd rfl h
      | 2, _, _ => rfl
      | 3, _, _ => rfl
      | 4, _, _ => rfl
      | 5, _, _ => rfl
      | 6, _, _ => rfl
      | 7, _, _ => rfl
      | 8, _, _ => rfl
      | 9, _, _ => rfl
      | 10, _, _ => rfl
      | 11, _, _ => rfl
      | 12, _, _ => rfl
      | 13, _, _ => rfl
      | 14, _, _ => rfl
      | 15, _, _ => rfl
      | n + 16, hn, _ => exact absurd hn (by omega)
  · refine cCell_frame (fun n hn hne => ?_) (fun j c _ _ => rfl)
    match n, hn, hne with
      | 0, _, _ => rfl
      | 1, _, _ => rfl
      | 2, _, h => exact absurd rfl h
      | 3, _, _ => rfl
      | 4, _, _ => rfl
      | 5, _, _ => rfl
      | 6, _, _ => rfl
      | 7, _, _ => rfl
      | 8, _, _ => rfl
      | 9, _, _ => rfl
      | 10, _, _ => rfl
      | 11, _, _ => rfl
      | 12, _, _ => rfl
      | 13, _, _ => rfl
      | 14, _, _ => rfl
      | 15, _, _ => rfl
      | n + 16, hn, _ => exact absurd hn (by omega)
theorem fr_R2 {r : Nat} (hr : r < 2) (v : Int32) : ∀ n, n ≠ 1 + r → cCell B sa h lk (sR S r 2 v) n = cCell B sa h lk S n := by
  rcases (show r = 0 ∨ r = 1 by omega) with rfl | rfl
  · refine cCell_frame (fun n hn hne => ?_) (fun j c _ _ => rfl)
    match n, hn, hne with
      | 0, _, _ => rfl
      | 1, _, h => exact absurd rfl h
      | 2, _, _ => rfl
      | 3, _, _ => rfl
      | 4, _, _ => rfl
      | 5, _, _ => rfl
      | 6, _, _ => rfl
      | 7, _, _ => rfl
      | 8, _, _ => rfl
      | 9, _, _ => rfl
      | 10, _, _ => rfl
      | 11, _, _ => rfl
      | 12, _, _ => rfl
      | 13, _, _ => rfl
      | 14, _, _ => rfl
      | 15, _, _ => rfl
      | n + 16, hn, _ => exact absurd hn (by omega)
  · refine cCell_frame (fun n hn hne => ?_) (fun j c _ _ => rfl)
    match n, hn, hne with
      | 0, _, _ => rfl
      | 1, _, _ => rfl
      | 2, _, h => exact absurd rfl h
      | 3, _, _ => rfl
      | 4, _, _ => rfl
      | 5, _, _ => rfl
      | 6, _, _ => rfl
      | 7, _, _ => rfl
      | 8, _, _ => rfl
      | 9, _, _ => rfl
      | 10, _, _ => rfl
      | 11, _, _ => rfl
      | 12, _, _ => rfl
      | 13, _, _ => rfl
      | 14, _, _ => rfl
      | 15, _, _ => rfl
      | n + 16, hn, _ => exact absurd hn (by omega)
theorem fr_A2 (f : Nat → Int32) : ∀ n, n ≠ 8 → cCell B sa h lk (sAw S 2 f) n = cCell B sa h lk S n := by
  refine cCell_frame (fun n hn hne => ?_) (fun j c _ _ => rfl)
  match n, hn, hne with
    | 0, _, _ => rfl
    | 1, _, _ => rfl
    | 2, _, _ => rfl
    | 3, _, _ => rfl
    | 4, _, _ => rfl
    | 5, _, _ => rfl
    | 6, _, _ => rfl
    | 7, _, _ => rfl
    | 8, _, h => exact absurd rfl h
    | 9, _, _ => rfl
    | 10, _, _ => rfl
    | 11, _, _ => rfl
    | 12, _, _ => rfl
    | 13, _, _ => rfl
    | 14, _, _ => rfl
    | 15, _, _ => rfl
    | n + 16, hn, _ => exact absurd hn (by omega)
theorem fr_A3 (f : Nat → Int32) : ∀ n, n ≠ 9 → cCell B sa h lk (sAw S 3 f) n = cCell B sa h lk S n := by
  refine cCell_frame (fun n hn hne => ?_) (fun j c _ _ => rfl)
  match n, hn, hne with
    | 0, _, _ => rfl
    | 1, _, _ => rfl
    | 2, _, _ => rfl
    | 3, _, _ => rfl
    | 4, _, _ => rfl
    | 5, _, _ => rfl
    | 6, _, _ => rfl
    | 7, _, _ => rfl
    | 8, _, _ => rfl
    | 9, _, h => exact absurd rfl h
    | 10, _, _ => rfl
    | 11, _, _ => rfl
    | 12, _, _ => rfl
    | 13, _, _ => rfl
    | 14, _, _ => rfl
    | 15, _, _ => rfl
    | n + 16, hn, _ => exact absurd hn (by omega)
theorem fr_A4 (f : Nat → Int32) : ∀ n, n ≠ 10 → cCell B sa h lk (sAw S 4 f) n = cCell B sa h lk S n := by
  refine cCell_frame (fun n hn hne => ?_) (fun j c _ _ => rfl)
  match n, hn, hne with
    | 0, _, _ => rfl
    | 1, _, _ => rfl
    | 2, _, _ => rfl
    | 3, _, _ => rfl
    | 4, _, _ => rfl
    | 5, _, _ => rfl
    | 6, _, _ => rfl
    | 7, _, _ => rfl
    | 8, _, _ => rfl
    | 9, _, _ => rfl
    | 10, _, h => exact absurd rfl h
    | 11, _, _ => rfl
    | 12, _, _ => rfl
    | 13, _, _ => rfl
    | 14, _, _ => rfl
    | 15, _, _ => rfl
    | n + 16, hn, _ => exact absurd hn (by omega)
theorem fr_A5 (f : Nat → Int32) : ∀ n, n ≠ 12 → cCell B sa h lk (sAw S 5 f) n = cCell B sa h lk S n := by
  refine cCell_frame (fun n hn hne => ?_) (fun j c _ _ => rfl)
  match n, hn, hne with
    | 0, _, _ => rfl
    | 1, _, _ => rfl
    | 2, _, _ => rfl
    | 3, _, _ => rfl
    | 4, _, _ => rfl
    | 5, _, _ => rfl
    | 6, _, _ => rfl
    | 7, _, _ => rfl
    | 8, _, _ => rfl
    | 9, _, _ => rfl
    | 10, _, _ => rfl
    | 11, _, _ => rfl
    | 12, _, h => exact absurd rfl h
    | 13, _, _ => rfl
    | 14, _, _ => rfl
    | 15, _, _ => rfl
    | n + 16, hn, _ => exact absurd hn (by omega)
theorem fr_A6 (f : Nat → Int32) : ∀ n, n ≠ 14 → cCell B sa h lk (sAw S 6 f) n = cCell B sa h lk S n := by
  refine cCell_frame (fun n hn hne => ?_) (fun j c _ _ => rfl)
  match n, hn, hne with
    | 0, _, _ => rfl
    | 1, _, _ => rfl
    | 2, _, _ => rfl
    | 3, _, _ => rfl
    | 4, _, _ => rfl
    | 5, _, _ => rfl
    | 6, _, _ => rfl
    | 7, _, _ => rfl
    | 8, _, _ => rfl
    | 9, _, _ => rfl
    | 10, _, _ => rfl
    | 11, _, _ => rfl
    | 12, _, _ => rfl
    | 13, _, _ => rfl
    | 14, _, h => exact absurd rfl h
    | 15, _, _ => rfl
    | n + 16, hn, _ => exact absurd hn (by omega)
theorem fr_A7 (f : Nat → Int32) : ∀ n, n ≠ 15 → cCell B sa h lk (sAw S 7 f) n = cCell B sa h lk S n := by
  refine cCell_frame (fun n hn hne => ?_) (fun j c _ _ => rfl)
  match n, hn, hne with
    | 0, _, _ => rfl
    | 1, _, _ => rfl
    | 2, _, _ => rfl
    | 3, _, _ => rfl
    | 4, _, _ => rfl
    | 5, _, _ => rfl
    | 6, _, _ => rfl
    | 7, _, _ => rfl
    | 8, _, _ => rfl
    | 9, _, _ => rfl
    | 10, _, _ => rfl
    | 11, _, _ => rfl
    | 12, _, _ => rfl
    | 13, _, _ => rfl
    | 14, _, _ => rfl
    | 15, _, h => exact absurd rfl h
    | n + 16, hn, _ => exact absurd hn (by omega)
theorem fr_As {r : Nat} (hr : r < 2) (f : Nat → Int32) : ∀ n, n ≠ 3 + r → cCell B sa h lk (sAw S r f) n = cCell B sa h lk S n := by
  rcases (show r = 0 ∨ r = 1 by omega) with rfl | rfl
  · refine cCell_frame (fun n hn hne => ?_) (fun j c _ _ => rfl)
    match n, hn, hne with
      | 0, _, _ => rfl
      | 1, _, _ => rfl
      | 2, _, _ => rfl
      | 3, _, h => exact absurd rfl h
      | 4, _, _ => rfl
      | 5, _, _ => rfl
      | 6, _, _ => rfl
      | 7, _, _ => rfl
      | 8, _, _ => rfl
      | 9, _, _ => rfl
      | 10, _, _ => rfl
      | 11, _, _ => rfl
      | 12, _, _ => rfl
      | 13, _, _ => rfl
      | 14, _, _ => rfl
      | 15, _, _ => rfl
      | n + 16, hn, _ => exact absurd hn (by omega)
  · refine cCell_frame (fun n hn hne => ?_) (fun j c _ _ => rfl)
    match n, hn, hne with
      | 0, _, _ => rfl
      | 1, _, _ => rfl
      | 2, _, _ => rfl
      | 3, _, _ => rfl
      | 4, _, h => exact absurd rfl h
      | 5, _, _ => rfl
      | 6, _, _ => rfl
      | 7, _, _ => rfl
      | 8, _, _ => rfl
      | 9, _, _ => rfl
      | 10, _, _ => rfl
      | 11, _, _ => rfl
      | 12, _, _ => rfl
      | 13, _, _ => rfl
      | 14, _, _ => rfl
      | 15, _, _ => rfl
      | n + 16, hn, _ => exact absurd hn (by omega)
theorem cP_sP {j f j' f' : Nat} {v : Int32} : cP (sP S j f v) j' f' = if j' = j ∧ f' = f then v else cP S j' f' := by
  unfold cP sP va_up
  by_cases h1 : j' = j
  · subst h1
    by_cases h2 : f' = f
    · simp [h2]
    · simp [h2]
  · simp [h1]
theorem cQ_sQw {j c j' c' : Nat} {f : Nat → Int32} : cQ (sQw S j c f) j' c' = if j' = j ∧ c' = c then f else cQ S j' c' := by
  unfold cQ sQw va_up
  by_cases h1 : j' = j
  · subst h1
    by_cases h2 : c' = c
    · simp [h2]
    · simp [h2]
  · simp [h1]
theorem fr_P {j f : Nat} (v : Int32) : ∀ n, n ≠ 16 + 5 * j + 0 → cCell B sa h lk (sP S j f v) n = cCell B sa h lk S n := by
  refine cCell_frame (fun n _ _ => rfl) (fun j' c hc hne => ?_)
  unfold cSpc
  by_cases h0 : c = 0
  · have hj : j' ≠ j := fun z => hne (by rw [z, h0])
    rw [if_pos h0, if_pos h0]
    simp only [cP_sP, hj, false_and, if_false]
  · rw [if_neg h0, if_neg h0]; rfl
theorem fr_Q {j c0 : Nat} (f : Nat → Int32) : ∀ n, n ≠ 16 + 5 * j + (c0 + 1) → cCell B sa h lk (sQw S j c0 f) n = cCell B sa h lk S n := by
  refine cCell_frame (fun n _ _ => rfl) (fun j' c hc hne => ?_)
  unfold cSpc
  by_cases h0 : c = 0
  · rw [if_pos h0, if_pos h0]; rfl
  · have e : cQ (sQw S j c0 f) j' (c - 1) = cQ S j' (c - 1) := by
      rw [cQ_sQw, if_neg]
      rintro ⟨z1, z2⟩
      exact hne (by omega)
    rw [if_neg h0, if_neg h0, e]
end CellLemmas
