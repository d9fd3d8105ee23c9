/-! the cells behind the constructors, and level 2's start. Written by wip/whole/mk45.py -/
def lG1 : List ((Nat × Nat) ⊕ (Nat × List Value)) := [.inr (7, [.ref 2, .ref 4, .ref 78, .ref 85, .ref 91, .ref 115, .int 300]), .inr (4, [.int 1000, .ref 3, .int 0]), .inl (0, 8), .inr (1, [.ref 5, .ref 29, .ref 50, .ref 52, .ref 54, .ref 56, .ref 58, .ref 60, .ref 62, .ref 64, .ref 66, .ref 68, .ref 70, .ref 72, .ref 74, .ref 76, .int 0]), .inr (6, [.ref 6, .ref 8, .ref 10, .ref 12, .ref 14, .ref 16, .ref 18, .ref 20, .ref 22, .ref 24, .ref 26, .int 0, .int 0, .int 0, .int 0, .int 0]), .inr (4, [.int 1000, .ref 7, .int 0]), .inl (0, 8), .inr (4, [.int 300, .ref 9, .int 0]), .inl (0, 8), .inr (4, [.int 300, .ref 11, .int 0]), .inl (0, 8), .inr (4, [.int 300, .ref 13, .int 0]), .inl (0, 8), .inr (4, [.int 300, .ref 15, .int 0]), .inl (0, 8), .inr (4, [.int 1000, .ref 17, .int 0]), .inl (0, 8), .inr (4, [.int 300, .ref 19, .int 0]), .inl (0, 8), .inr (4, [.int 300, .ref 21, .int 0]), .inl (0, 8), .inr (4, [.int 300, .ref 23, .int 0]), .inl (0, 8), .inr (4, [.int 300, .ref 25, .int 0]), .inl (0, 8), .inr (5, [.ref 27]), .inr (4, [.int 8, .ref 28, .int 0]), .inl (0, 8), .inr (3, [.ref 30, .ref 32, .ref 34, .ref 36, .ref 38, .ref 40, .ref 42, .ref 44, .ref 46, .ref 48, .int 0, .int 0, .int 0, .int 0]), .inr (4, [.int 1000, .ref 31, .int 0]), .inl (0, 8), .inr (4, [.int 72, .ref 33, .int 0]), .inl (0, 8), .inr (4, [.int 72, .ref 35, .int 0]), .inl (0, 8), .inr (4, [.int 72, .ref 37, .int 0]), .inl (0, 8), .inr (4, [.int 12, .ref 39, .int 0]), .inl (0, 8), .inr (4, [.int 12, .ref 41, .int 0]), .inl (0, 8), .inr (4, [.int 12, .ref 43, .int 0]), .inl (0, 8), .inr (4, [.int 400, .ref 45, .int 0]), .inl (0, 8), .inr (4, [.int 400, .ref 47, .int 0]), .inl (0, 8), .inr (4, [.int 400, .ref 49, .int 0]), .inl (0, 8), .inr (4, [.int 12, .ref 51, .int 0]), .inl (0, 8), .inr (4, [.int 12, .ref 53, .int 0]), .inl (0, 8), .inr (4, [.int 300, .ref 55, .int 0]), .inl (0, 8), .inr (4, [.int 300, .ref 57, .int 0]), .inl (0, 8), .inr (4, [.int 300, .ref 59, .int 0]), .inl (0, 8), .inr (4, [.int 300, .ref 61, .int 0]), .inl (0, 8), .inr (4, [.int 300, .ref 63, .int 0]), .inl (0, 8), .inr (4, [.int 300, .ref 65, .int 0]), .inl (0, 8), .inr (4, [.int 300, .ref 67, .int 0]), .inl (0, 8), .inr (4, [.int 300, .ref 69, .int 0]), .inl (0, 8), .inr (4, [.int 6, .ref 71, .int 0]), .inl (0, 8), .inr (4, [.int 6, .ref 73, .int 0]), .inl (0, 8), .inr (4, [.int 400, .ref 75, .int 0]), .inl (0, 8), .inr (4, [.int 400, .ref 77, .int 0]), .inl (0, 8), .inr (0, [.ref 79, .ref 81, .ref 83]), .inr (4, [.int 9, .ref 80, .int 0]), .inl (0, 8), .inr (4, [.int 9, .ref 82, .int 0]), .inl (0, 8), .inr (4, [.int 300, .ref 84, .int 0]), .inl (0, 8), .inr (2, [.ref 86, .ref 88]), .inr (4, [.int 4539, .ref 87, .int 0]), .inl (0, 8), .inr (5, [.ref 89]), .inr (4, [.int 8, .ref 90, .int 0]), .inl (0, 8), .inr (6, [.ref 92, .ref 94, .ref 96, .ref 98, .ref 100, .ref 102, .ref 104, .ref 106, .ref 108, .ref 110, .ref 112, .int 0, .int 0, .int 0, .int 0, .int 0]), .inr (4, [.int 1000, .ref 93, .int 0]), .inl (0, 8), .inr (4, [.int 300, .ref 95, .int 0]), .inl (0, 8), .inr (4, [.int 300, .ref 97, .int 0]), .inl (0, 8), .inr (4, [.int 300, .ref 99, .int 0]), .inl (0, 8), .inr (4, [.int 300, .ref 101, .int 0]), .inl (0, 8), .inr (4, [.int 1000, .ref 103, .int 0]), .inl (0, 8), .inr (4, [.int 300, .ref 105, .int 0]), .inl (0, 8), .inr (4, [.int 300, .ref 107, .int 0]), .inl (0, 8), .inr (4, [.int 300, .ref 109, .int 0]), .inl (0, 8), .inr (4, [.int 300, .ref 111, .int 0]), .inl (0, 8), .inr (5, [.ref 113]), .inr (4, [.int 8, .ref 114, .int 0]), .inl (0, 8), .inr (3, [.ref 116, .ref 118, .ref 120, .ref 122, .ref 124, .ref 126, .ref 128, .ref 130, .ref 132, .ref 134, .int 0, .int 0, .int 0, .int 0]), .inr (4, [.int 1000, .ref 117, .int 0]), .inl (0, 8), .inr (4, [.int 72, .ref 119, .int 0]), .inl (0, 8), .inr (4, [.int 72, .ref 121, .int 0]), .inl (0, 8), .inr (4, [.int 72, .ref 123, .int 0]), .inl (0, 8), .inr (4, [.int 12, .ref 125, .int 0]), .inl (0, 8), .inr (4, [.int 12, .ref 127, .int 0]), .inl (0, 8), .inr (4, [.int 12, .ref 129, .int 0]), .inl (0, 8), .inr (4, [.int 400, .ref 131, .int 0]), .inl (0, 8), .inr (4, [.int 400, .ref 133, .int 0]), .inl (0, 8), .inr (4, [.int 400, .ref 135, .int 0]), .inl (0, 8)]
def lG2 : List ((Nat × Nat) ⊕ (Nat × List Value)) := [.inr (7, [.ref 2, .ref 4, .ref 78, .ref 85, .ref 91, .ref 115, .int 300]), .inr (4, [.int 1000, .ref 3, .int 0]), .inl (0, 8), .inr (1, [.ref 5, .ref 29, .ref 50, .ref 52, .ref 54, .ref 56, .ref 58, .ref 60, .ref 62, .ref 64, .ref 66, .ref 68, .ref 70, .ref 72, .ref 74, .ref 76, .int 0]), .inr (6, [.ref 6, .ref 8, .ref 10, .ref 12, .ref 14, .ref 16, .ref 18, .ref 20, .ref 22, .ref 24, .ref 26, .int 0, .int 0, .int 0, .int 0, .int 0]), .inr (4, [.int 1000, .ref 7, .int 0]), .inl (0, 8), .inr (4, [.int 300, .ref 9, .int 0]), .inl (0, 8), .inr (4, [.int 300, .ref 11, .int 0]), .inl (0, 8), .inr (4, [.int 300, .ref 13, .int 0]), .inl (0, 8), .inr (4, [.int 300, .ref 15, .int 0]), .inl (0, 8), .inr (4, [.int 1000, .ref 17, .int 0]), .inl (0, 8), .inr (4, [.int 300, .ref 19, .int 0]), .inl (0, 8), .inr (4, [.int 300, .ref 21, .int 0]), .inl (0, 8), .inr (4, [.int 300, .ref 23, .int 0]), .inl (0, 8), .inr (4, [.int 300, .ref 25, .int 0]), .inl (0, 8), .inr (5, [.ref 27]), .inr (4, [.int 8, .ref 28, .int 0]), .inl (0, 8), .inr (3, [.ref 30, .ref 32, .ref 34, .ref 36, .ref 38, .ref 40, .ref 42, .ref 44, .ref 46, .ref 48, .int 0, .int 0, .int 0, .int 0]), .inr (4, [.int 1000, .ref 31, .int 0]), .inl (0, 8), .inr (4, [.int 72, .ref 33, .int 0]), .inl (0, 8), .inr (4, [.int 72, .ref 35, .int 0]), .inl (0, 8), .inr (4, [.int 72, .ref 37, .int 0]), .inl (0, 8), .inr (4, [.int 12, .ref 39, .int 0]), .inl (0, 8), .inr (4, [.int 12, .ref 41, .int 0]), .inl (0, 8), .inr (4, [.int 12, .ref 43, .int 0]), .inl (0, 8), .inr (4, [.int 400, .ref 45, .int 0]), .inl (0, 8), .inr (4, [.int 400, .ref 47, .int 0]), .inl (0, 8), .inr (4, [.int 400, .ref 49, .int 0]), .inl (0, 8), .inr (4, [.int 12, .ref 51, .int 0]), .inl (0, 8), .inr (4, [.int 12, .ref 53, .int 0]), .inl (0, 8), .inr (4, [.int 300, .ref 55, .int 0]), .inl (0, 8), .inr (4, [.int 300, .ref 57, .int 0]), .inl (0, 8), .inr (4, [.int 300, .ref 59, .int 0]), .inl (0, 8), .inr (4, [.int 300, .ref 61, .int 0]), .inl (0, 8), .inr (4, [.int 300, .ref 63, .int 0]), .inl (0, 8), .inr (4, [.int 300, .ref 65, .int 0]), .inl (0, 8), .inr (4, [.int 300, .ref 67, .int 0]), .inl (0, 8), .inr (4, [.int 300, .ref 69, .int 0]), .inl (0, 8), .inr (4, [.int 6, .ref 71, .int 0]), .inl (0, 8), .inr (4, [.int 6, .ref 73, .int 0]), .inl (0, 8), .inr (4, [.int 400, .ref 75, .int 0]), .inl (0, 8), .inr (4, [.int 400, .ref 77, .int 0]), .inl (0, 8), .inr (0, [.ref 79, .ref 81, .ref 83]), .inr (4, [.int 9, .ref 80, .int 0]), .inl (0, 8), .inr (4, [.int 9, .ref 82, .int 0]), .inl (0, 8), .inr (4, [.int 300, .ref 84, .int 0]), .inl (0, 8), .inr (2, [.ref 86, .ref 88]), .inr (4, [.int 4539, .ref 87, .int 0]), .inl (0, 8), .inr (5, [.ref 89]), .inr (4, [.int 8, .ref 90, .int 0]), .inl (0, 8), .inr (6, [.ref 92, .ref 94, .ref 96, .ref 98, .ref 100, .ref 102, .ref 104, .ref 106, .ref 108, .ref 110, .ref 112, .int 0, .int 0, .int 0, .int 0, .int 0]), .inr (4, [.int 1000, .ref 93, .int 0]), .inl (0, 8), .inr (4, [.int 300, .ref 95, .int 0]), .inl (0, 8), .inr (4, [.int 300, .ref 97, .int 0]), .inl (0, 8), .inr (4, [.int 300, .ref 99, .int 0]), .inl (0, 8), .inr (4, [.int 300, .ref 101, .int 0]), .inl (0, 8), .inr (4, [.int 1000, .ref 103, .int 0]), .inl (0, 8), .inr (4, [.int 300, .ref 105, .int 0]), .inl (0, 8), .inr (4, [.int 300, .ref 107, .int 0]), .inl (0, 8), .inr (4, [.int 300, .ref 109, .int 0]), .inl (0, 8), .inr (4, [.int 300, .ref 111, .int 0]), .inl (0, 8), .inr (5, [.ref 113]), .inr (4, [.int 8, .ref 114, .int 0]), .inl (0, 8), .inr (3, [.ref 116, .ref 118, .ref 120, .ref 122, .ref 124, .ref 126, .ref 128, .ref 130, .ref 132, .ref 134, .int 0, .int 0, .int 0, .int 0]), .inr (4, [.int 1000, .ref 117, .int 0]), .inl (0, 8), .inr (4, [.int 72, .ref 119, .int 0]), .inl (0, 8), .inr (4, [.int 72, .ref 121, .int 0]), .inl (0, 8), .inr (4, [.int 72, .ref 123, .int 0]), .inl (0, 8), .inr (4, [.int 12, .ref 125, .int 0]), .inl (0, 8), .inr (4, [.int 12, .ref 127, .int 0]), .inl (0, 8), .inr (4, [.int 12, .ref 129, .int 0]), .inl (0, 8), .inr (4, [.int 400, .ref 131, .int 0]), .inl (0, 8), .inr (4, [.int 400, .ref 133, .int 0]), .inl (0, 8), .inr (4, [.int 400, .ref 135, .int 0]), .inl (0, 8), .inr (8, [.ref 137, .int 0, .ref 138, .int 0, .int 0, .ref 139, .ref 140, .ref 141, .ref 142, .ref 143, .int 0, .ref 144, .ref 145, .ref 146, .int 0, .ref 147, .ref 148, .ref 149, .ref 150, .int 0, .ref 151, .int 0, .ref 152, .ref 153, .ref 154, .int 0, .ref 155, .ref 156, .ref 157, .ref 158, .int 0, .ref 159, .ref 160, .ref 161, .ref 162, .ref 163, .int 300, .ref 164, .ref 165, .ref 166, .ref 167, .ref 168, .ref 169, .int 0, .ref 170, .ref 171, .ref 172, .int 0, .int 0, .ref 173, .ref 174, .int 0, .ref 175, .ref 176, .ref 177, .int 0, .ref 178, .ref 179, .ref 180, .int 0, .ref 181, .ref 182, .ref 183, .ref 184, .int 0, .ref 185, .int 0, .int 0, .int 0, .int 0, .ref 186, .ref 187, .ref 188, .ref 189]), .inl (0, 1000), .inl (0, 1000), .inl (0, 1000), .inl (0, 1000), .inl (0, 1000), .inl (1, 1001), .inl (1, 1001), .inl (0, 400), .inl (0, 400), .inl (1, 400), .inl (0, 300), .inl (0, 300), .inl (0, 300), .inl (0, 300), .inl (0, 301), .inl (0, 12), .inl (0, 12), .inl (0, 12), .inl (0, 80), .inl (0, 80), .inl (0, 80), .inl (0, 1000), .inl (0, 200), .inl (0, 200), .inl (0, 200), .inl (1, 200), .inl (1, 200), .inl (1, 12), .inl (1, 12), .inl (0, 12), .inl (1, 3600), .inl (1, 300), .inl (1, 300), .inl (0, 300), .inl (0, 300), .inl (0, 6000), .inl (0, 9), .inl (0, 9), .inl (0, 12), .inl (0, 12), .inl (0, 12), .inl (0, 80), .inl (0, 80), .inl (0, 80), .inl (0, 200), .inl (0, 200), .inl (0, 200), .inl (0, 200), .inl (0, 200), .inl (0, 6), .inl (0, 6), .inl (1, 301), .inl (0, 9)]
def lchk (o : Option (Int32 × lH)) (r : Int32) (l : List ((Nat × Nat) ⊕ (Nat × List Value))) (n : Nat) : Bool := match o with
  | some (r', (l', n')) => decide (r' = r) && decide (l' = l) && Nat.beq n' n
  | none => false
theorem lchk_of {o : Option (Int32 × lH)} {r : Int32} {l : List ((Nat × Nat) ⊕ (Nat × List Value))} {n : Nat} (h : lchk o r l n = true) : o = some (r, (l, n)) := by
  unfold lchk at h
  split at h
  · simp only [Bool.and_eq_true, decide_eq_true_eq] at h
    obtain ⟨⟨rfl, rfl⟩, h3⟩ := h
    rw [Nat.eq_of_beq_eq_true h3]
  · cases h
set_option maxRecDepth 1000000 in
set_option maxHeartbeats 8000000 in
theorem init_x : xdF OL 400 9 86 [.ref 1] ([.inr (7, xdf 7)], 0 + xN 7) = some (0, (lG1, 774)) := lchk_of (by decide +kernel)
set_option maxRecDepth 1000000 in
set_option maxHeartbeats 8000000 in
theorem init_m : xdF OL 6000 9 109 [.ref 136] (lG1 ++ [.inr (8, xdf 8)], 774 + xN 8) = some (0, (lG2, 25279)) := lchk_of (by decide +kernel)
def z0 (xs : Nat → Int32) : zS := (fun _ => [], fun a f => if a = 1 ∧ f = 6 then 300 else if a = 136 ∧ f = 36 then 300 else 0, fun a => if a = 0 then xs else fun _ => 0, fun a f => if a = 1 ∧ f = 4 then 91 else if a = 1 ∧ f = 5 then 115 else if a = 4 ∧ f = 0 then 5 else 29)
def zck (a : Nat) : Bool := bif Nat.beq (lkd a).1 2 then decide (lcell (lG2, 0) a = some (.inr (4, [.int (nI (zmo a)), .ref (a + 1), .int 0]))) && decide (lcell (lG2, 0) (a + 1) = some (.inl (0, 8))) && Nat.beq (lkd (a + 1)).1 0
  else bif Nat.beq (lkd a).1 1 then decide (lcell (lG2, 0) a = some (.inr ((lkd a).2.1, zmk (z0 fun _ => 0) a)))
  else bif Nat.beq (lkd a).1 3 then decide (lcell (lG2, 0) a = some (.inl ((lkd a).2.1, (lkd a).2.2))) else true
set_option maxRecDepth 1000000 in
theorem zck_all : (List.range 190).all zck = true := by decide +kernel
theorem zck_of {a : Nat} (h : (lkd a).1 ≠ 0) : zck a = true := by
  have h1 : a < 190 := by
    rcases Nat.lt_or_ge a 190 with q | q
    · exact q
    · rw [lkd_big (by omega)] at h; exact absurd rfl h
  exact List.all_eq_true.mp zck_all a (List.mem_range.mpr h1)
set_option maxRecDepth 1000000 in
theorem zsum_0 : (zRL.map fun _ => 8).sum = 496 := by decide +kernel
theorem z0_sim {L : Nat} {xs : Nat → Int32} {h : xH} (hS : lSim L xs h (lG2, 25279)) : zSim L h (z0 xs) := by
  have len : lG2.length = 189 := by decide +kernel
  have hz : h.2.1 = 190 := by rw [hS.2.1]; show lG2.length + 1 = 190; rw [len]
  have get : ∀ a e, lcell (lG2, 0) a = some e → h.1 a = some (lE e) := fun a e he => lSim_get hS (by cases a with | zero => exact he | succ k => exact he)
  refine ⟨fun a => a + 1, fun _ => 8, fun a ha => ?_, fun a b _ _ e => by simpa using e, fun a ha => ?_, fun a c hc => ?_, fun a t ht => ?_, ?_, fun a ha => ?_, by omega, by omega, ?_⟩
  · have h1 := zck_of (a := a) (by rw [zrow_k ha]; decide)
    simp only [zck, zrow_k ha, Nat.beq_refl, cond_true, Bool.and_eq_true, decide_eq_true_eq] at h1
    exact ⟨fun _ => 0, get a _ h1.1.1, get _ _ h1.1.2, Nat.zero_le _, Nat.zero_le _, Nat.le_refl _, Or.inl rfl, fun i hi => by simp [z0] at hi⟩
  · have h1 := zck_of (a := a) (by rw [zrow_k ha]; decide)
    simp only [zck, zrow_k ha, Nat.beq_refl, cond_true, Bool.and_eq_true, decide_eq_true_eq] at h1
    exact ⟨Nat.eq_of_beq_eq_true h1.2, Nat.succ_ne_zero a⟩
  · have hk := zob_k hc
    have h1 := zck_of (a := a) (by rw [hk.1]; decide)
    simp only [zck, hk.1, hk.2, show Nat.beq 1 2 = false from rfl, cond_false, Nat.beq_refl, cond_true, decide_eq_true_eq] at h1
    rw [get a _ h1]
    exact congrArg (fun q => some (Sum.inr (c, q))) (zmk_same (z := z0 xs) (z' := z0 fun _ => 0) (fun g => rfl) (fun g => rfl))
  · have hk := zar_k ht
    have h1 := zck_of (a := a) (by rw [hk.1]; decide)
    simp only [zck, hk.1, show Nat.beq 3 2 = false from rfl, show Nat.beq 3 1 = false from rfl, cond_false, Nat.beq_refl, cond_true, decide_eq_true_eq] at h1
    rw [get a _ h1, hk.2]
    have ha : a ≠ 0 := fun q => by rw [q, lkd_0] at hk; exact absurd hk.1 (by decide)
    simp only [lE, z0, if_neg ha, zln]
  · rw [hS.1]
    simp [z0]
  · rw [hz]
    rcases Nat.lt_or_ge a 190 with q | q
    · exact q
    · exfalso
      apply ha
      rw [hS.1]
      cases a with
      | zero => omega
      | succ k =>
        simp only [lnth_eq]
        rw [List.getElem?_eq_none (by rw [len]; omega)]
        rfl
  · rw [show h.2.2 = 25279 from hS.2.2]
    exact Nat.le_add_right _ _
/-- THE LAW's RUN FROM ITS LOOP ON, at level 2, is enough -/
theorem xgo {L : Nat} {xs : Nat → Int32} {z' : zS} (e : xruns (O2 L) (zden L 9) 164 18 [.ref 0, .ref 1, .ref 136, .int 0] [] (z0 xs) = some (1, z')) :
    ∃ g', xruns O1 (xden O1 xnp 9) 164 0 [.ref 0, .null, .null, .null] [] (xh0 1 0 L xs) = some (1, g') ∧ zSim L g' z' := by
  have hS0 : lSim L xs (xh0 1 0 L xs) ([], 0) := by
    refine ⟨?_, rfl, rfl⟩
    funext a
    cases a with
    | zero => rfl
    | succ k => rfl
  obtain ⟨-, -, -, oN, -⟩ := lSim_ops L xs
  rw [B164_0]
  obtain ⟨h1, n1, s1⟩ := oN _ _ 7 (1, [.inr (7, xdf 7)], 0 + xN 7) hS0 rfl
  rw [n1, Option.bind_some]
  obtain ⟨h2, n2, s2⟩ := xdF_sim 9 86 [.ref 1] h1 _ _ _ s1 init_x
  simp only
  rw [n2, Option.bind_some]
  obtain ⟨h3, n3, s3⟩ := oN _ _ 8 (136, lG1 ++ [.inr (8, xdf 8)], 774 + xN 8) s2 (by
    show olN (lG1, 774) 8 = _
    unfold olN
    rw [show lG1.length = 135 by decide +kernel]
    rfl)
  rw [n3, Option.bind_some]
  obtain ⟨h4, n4, s4⟩ := xdF_sim 9 109 [.ref 136] h3 _ _ _ s3 init_m
  simp only
  rw [n4, Option.bind_some]
  obtain ⟨h', g1, g2⟩ := xsim_runs (f := fun a => a) (S := zSim L) (zSim_ops L) (cl1 := xden O1 xnp 9) (cl2 := zden L 9) (fun m as h g r g' hS e => by rw [xrn_ids]; exact zsound 9 m as h g r g' hS e) (z0_sim s4) e
  exact ⟨h', g1, g2⟩
