/-! From the entry to the loop. -/
theorem rX_iff {D : va_G} {A : Nat → Prop} {ws : va_W} {H : Heap} : rX D A ws H ↔ (∀ q ∈ ws, va_at D vwCl q H ∧ A q.1) ∧ ws.Pairwise (fun p q => p.1 ≠ q.1) := by
  constructor
  · intro ⟨hP, hD1, hD2⟩
    refine ⟨fun q hq => ?_, List.pairwise_iff_getElem.mpr fun i j hi hj hij e => ?_⟩
    · obtain ⟨k, hk⟩ := List.mem_iff_getElem?.mp hq
      exact ⟨hP k q hk, hD2 k q hk⟩
    · have := hD1 i j _ _ (List.getElem?_eq_getElem hi) (List.getElem?_eq_getElem hj) e
      omega
  · intro ⟨h1, h2⟩
    refine ⟨fun k q hk => (h1 q (List.mem_of_getElem? hk)).1, fun i j p q hi hj e => ?_, fun k q hk => (h1 q (List.mem_of_getElem? hk)).2⟩
    have h3 := List.pairwise_iff_getElem.mp h2
    obtain ⟨li, ei⟩ := List.getElem?_eq_some_iff.mp hi
    obtain ⟨lj, ej⟩ := List.getElem?_eq_some_iff.mp hj
    rcases Nat.lt_trichotomy i j with h | h | h
    · exact absurd (by rw [ei, ej]; exact e) (h3 i j li lj h)
    · exact h
    · exact absurd (by rw [ei, ej]; exact e.symm) (h3 j i lj li h)
theorem rX_perm {D : va_G} {A : Nat → Prop} {u v : va_W} {H : Heap} (hp : u.Perm v) (h : rX D A u H) : rX D A v H := by
  obtain ⟨h1, h2⟩ := rX_iff.mp h
  exact rX_iff.mpr ⟨fun q hq => h1 q (hp.mem_iff.mpr hq), (hp.pairwise_iff (fun {a b} h9 => h9.symm)).mp h2⟩
theorem rX_nil {D : va_G} {A : Nat → Prop} {H : Heap} : rX D A [] H := rX_iff.mpr ⟨(fun q hq => nomatch hq), List.Pairwise.nil⟩
def S0 : CS := (fun _ => 0, fun _ _ => 0, fun k => if k < 2 then cTab 2 else fun _ => 0, fun _ _ => 0, fun _ _ _ => 0)
def T0 : MS := (fun _ => 0, fun k => if k = 1 then (upd ((upd ((upd ((upd ((upd ((upd ((fun _ => 0)) 3 120)) 4 3)) 5 3)) 6 24)) 7 2)) 8 14) else if k = 3 then (upd ((upd ((upd ((upd ((upd ((upd ((fun _ => 0)) 0 1)) 1 2)) 2 0)) 3 0)) 4 0)) 5 1) else if k = 4 then (upd ((upd ((upd ((upd ((upd ((upd ((fun _ => 0)) 0 400)) 1 5)) 2 30)) 3 48)) 4 9)) 5 60) else fun _ => 0)
def h0 : Nat → Bool := fun _ => false
theorem start_c {D : va_G} {ci : Nat → ClassId} {st kk vv : Nat → Nat} {A : Nat → Prop} {H : Heap} {q0 p0 p1 p2 p3 p4 p5 p6 p7 p8 p9 p10 p11 p12 p13 p14 : Nat} (h : rX D A [(q0, .inr (5, [.ref p0, .ref p3, .ref p6, .ref p10, .ref p12, .ref p14, .int 0])), (p0, .inr (0, [.int 0, .int 0, .int 0, .ref p1, .ref p2])), (p1, .inl (ci 0, 6, .inl (cTab 2))), (p2, .inl (ci 3, 6, .inr (.inr (.inr (.inr (fun _ => none)))))), (p3, .inr (0, [.int 0, .int 0, .int 0, .ref p4, .ref p5])), (p4, .inl (ci 0, 6, .inl (cTab 2))), (p5, .inl (ci 3, 6, .inr (.inr (.inr (.inr (fun _ => none)))))), (p6, .inr (2, [.int 0, .int 0, .int 0, .int 0, .int 0, .int 0, .int 0, .ref p7, .ref p8, .ref p9])), (p7, .inl (ci 0, 61, .inl (fun _ => 0))), (p8, .inl (ci 1, 61, .inl (fun _ => 0))), (p9, .inl (ci 0, 61, .inl (fun _ => 0))), (p10, .inr (3, [.int 0, .int 0, .int 0, .int 0, .int 0, .ref p11])), (p11, .inl (ci 2, 400, .inl (fun _ => 0))), (p12, .inr (4, [.int 0, .ref p10, .ref p13, .int 0])), (p13, .inl (ci 0, 5, .inl (fun _ => 0))), (p14, .inl (ci 0, 6, .inl (fun _ => 0)))] H) : rX D A (cWl (D, ci, st, kk, vv, fun n => [q0, p0, p3, p1, p4, p2, p5, p6, p7, p8, p9, p10, p11, p12, p13, p14].getD n 0) (fun _ => 0) h0 (0, 1) S0) H := by
  have h1 := rX_perm (List.Perm.append_left ([(q0, .inr (5, [.ref p0, .ref p3, .ref p6, .ref p10, .ref p12, .ref p14, .int 0])), (p0, .inr (0, [.int 0, .int 0, .int 0, .ref p1, .ref p2]))] : va_W) (List.perm_append_comm_assoc ([(p1, .inl (ci 0, 6, .inl (cTab 2))), (p2, .inl (ci 3, 6, .inr (.inr (.inr (.inr (fun _ => none))))))] : va_W) ([(p3, .inr (0, [.int 0, .int 0, .int 0, .ref p4, .ref p5]))] : va_W) ([(p4, .inl (ci 0, 6, .inl (cTab 2))), (p5, .inl (ci 3, 6, .inr (.inr (.inr (.inr (fun _ => none)))))), (p6, .inr (2, [.int 0, .int 0, .int 0, .int 0, .int 0, .int 0, .int 0, .ref p7, .ref p8, .ref p9])), (p7, .inl (ci 0, 61, .inl (fun _ => 0))), (p8, .inl (ci 1, 61, .inl (fun _ => 0))), (p9, .inl (ci 0, 61, .inl (fun _ => 0))), (p10, .inr (3, [.int 0, .int 0, .int 0, .int 0, .int 0, .ref p11])), (p11, .inl (ci 2, 400, .inl (fun _ => 0))), (p12, .inr (4, [.int 0, .ref p10, .ref p13, .int 0])), (p13, .inl (ci 0, 5, .inl (fun _ => 0))), (p14, .inl (ci 0, 6, .inl (fun _ => 0)))] : va_W))) h
  exact rX_perm (List.Perm.append_left ([(q0, .inr (5, [.ref p0, .ref p3, .ref p6, .ref p10, .ref p12, .ref p14, .int 0])), (p0, .inr (0, [.int 0, .int 0, .int 0, .ref p1, .ref p2])), (p3, .inr (0, [.int 0, .int 0, .int 0, .ref p4, .ref p5])), (p1, .inl (ci 0, 6, .inl (cTab 2)))] : va_W) (List.perm_append_comm_assoc ([(p2, .inl (ci 3, 6, .inr (.inr (.inr (.inr (fun _ => none))))))] : va_W) ([(p4, .inl (ci 0, 6, .inl (cTab 2)))] : va_W) ([(p5, .inl (ci 3, 6, .inr (.inr (.inr (.inr (fun _ => none)))))), (p6, .inr (2, [.int 0, .int 0, .int 0, .int 0, .int 0, .int 0, .int 0, .ref p7, .ref p8, .ref p9])), (p7, .inl (ci 0, 61, .inl (fun _ => 0))), (p8, .inl (ci 1, 61, .inl (fun _ => 0))), (p9, .inl (ci 0, 61, .inl (fun _ => 0))), (p10, .inr (3, [.int 0, .int 0, .int 0, .int 0, .int 0, .ref p11])), (p11, .inl (ci 2, 400, .inl (fun _ => 0))), (p12, .inr (4, [.int 0, .ref p10, .ref p13, .int 0])), (p13, .inl (ci 0, 5, .inl (fun _ => 0))), (p14, .inl (ci 0, 6, .inl (fun _ => 0)))] : va_W))) h1
