set_option maxRecDepth 100000 in
theorem zrow_all : zRL.all zrow = true := by decide +kernel
set_option maxRecDepth 100000 in
theorem zmx_sum : (zRL.map fun a => max 8 (zmo a)).sum ≤ 30000 := by decide +kernel
theorem sum_le {f g : Nat → Nat} : ∀ (l : List Nat), (∀ a ∈ l, f a ≤ g a) → (l.map f).sum ≤ (l.map g).sum := by
  intro l
  induction l with
  | nil => intro _; exact Nat.le_refl _
  | cons b l ih =>
    intro h
    simp only [List.map_cons, List.sum_cons]
    have h1 := h b List.mem_cons_self
    have h2 := ih (fun a ha => h a (List.mem_cons_of_mem _ ha))
    omega
theorem sum_mul3 (f : Nat → Nat) : ∀ (l : List Nat), (l.map fun a => 3 * f a).sum = 3 * (l.map f).sum := by
  intro l
  induction l with
  | nil => rfl
  | cons b l ih => simp only [List.map_cons, List.sum_cons, ih]; omega
theorem zSim_room {L : Nat} {h : xH} {z : zS} (hS : zSim L h z) : h.2.1 ≤ 40000 ∧ h.2.2 ≤ 200000 := by
  obtain ⟨own, cap, s1, -, -, -, -, -, -, -, s9, s10⟩ := hS
  have hc : ∀ a ∈ zRL, cap a ≤ max 8 (zmo a) := by
    intro a ha
    obtain ⟨f, -, -, -, -, -, r6, -⟩ := s1 a (List.all_eq_true.mp zrow_all a ha)
    omega
  have h1 := sum_le zRL hc
  have h2 := sum_le (f := fun a => zal (cap a) (zmo a)) (g := fun a => 3 * max 8 (zmo a)) zRL (fun a ha => by
    have := hc a ha
    show zal (cap a) (zmo a) ≤ 3 * max 8 (zmo a)
    unfold zal
    split <;> omega)
  rw [sum_mul3] at h2
  have h3 := zmx_sum
  omega
/-- THE LAW, from its entry -/
theorem whole_start {p : Program} {e : Env} {s : State} {m : MethodId} {below : List Frame} {meth : Method} {c : Code} (l : Launch) {b L : Nat} {xs : Nat → Int32} (hL : L ≤ 3072) (C0 : lw_At p s m meth c b L xs) : W p l e room_1 s m #[Value.ref b] below meth c s.heap [] 0 0 (lw_Z below #[Value.ref b] s) (entryFrame m ([Value.ref b] : List Value).toArray 4) := by
  obtain ⟨z', e1⟩ := zlaw L xs hL
  obtain ⟨g', e2, hS⟩ := xgo e1
  have hbl : b < s.heap.size := by
    obtain ⟨-, -, -, -, -, -, -, h, -⟩ := C0
    exact h
  obtain ⟨h', e3, r1, r2⟩ := xreloc hbl e2
  obtain ⟨q1, q2⟩ := zSim_room hS
  exact whole_of l C0 e3 (by omega) (by omega)
