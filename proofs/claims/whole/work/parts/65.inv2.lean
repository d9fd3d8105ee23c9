/-! WORDS AND SENTENCES: what a step keeps -/
section
variable {T : CT} {n : Nat} {ch at' en bk : Nat → Nat} {F G : List Nat}
theorem InvT.tag (h : InvT T n ch at' en bk F G) (op : List Nat) (br : Bool) : InvT (cTag T op br) n ch at' en (if br = true then va_up bk n 1 else bk) F G := by
  obtain ⟨a1, a2, b, b', c, c', c'', d1, d2, d3, e, e', h1, i1, z, s1⟩ := h
  have hF : ∀ k, k < (T.1 1).length → F.getD k 0 < n := fun k hk => by have := b k hk; unfold InvB at this; omega
  have r1 : (cTag T op br).1 1 = T.1 1 := rfl
  have r8 : (cTag T op br).1 8 = T.1 8 := rfl
  cases br with
  | false => exact ⟨a1, a2, b, b', c, c', c'', d1, d2, d3, e, e', h1, i1, z, s1⟩
  | true =>
    simp only [if_true]
    have loc : ∀ i, i < n → va_up bk n 1 i = bk i := fun i hi => vn _ _ (by omega)
    refine ⟨a1, a2, b, b', ?_, c', c'', ?_, ?_, ?_, ?_, e', h1, i1, ?_, s1⟩
    · constructor
      · intro q; cases q
      · intro q; rw [vs] at q; omega
    · intro k hk
      have hk : k < (T.1 1).length := hk
      rw [wpl_loc loc k (fun j hj => ⟨rfl, rfl, hF _ (by omega)⟩)]
      exact d1 k hk
    · show T.1 8 = swl ch (va_up bk n 1) F G (T.1 1).length
      rw [swl_loc (fun i hi => ⟨rfl, loc i hi⟩) _ (fun j hj => ⟨rfl, rfl, hF _ hj⟩)]
      exact d2
    · intro k hk
      have hk : k < (T.1 1).length := hk
      rw [swl_loc (fun i hi => ⟨rfl, loc i hi⟩) _ (fun j hj => ⟨rfl, rfl, hF _ (by omega)⟩)]
      exact d3 k hk
    · intro w
      have w : (T.1 1).length ≠ 0 := w
      refine ⟨⟨fun _ => ⟨n, ?_, by omega, vs _ _ _⟩, fun _ => rfl⟩, (e w).2⟩
      have := b ((T.1 1).length - 1) (by omega)
      unfold InvB at this
      show G.getD ((T.1 1).length - 1) 0 < n
      omega
    · intro i hi
      rw [vn _ _ (by omega)]
      exact z i hi
theorem InvT.other (h : InvT T n ch at' en bk F G) {p c c' e : Nat} (hw : isWd c' = false) (h32 : c = 32 ↔ c' = 32) (hsp : spB c' = spB c) (w13 : T.2 13 ≤ 1) (w14 : T.2 14 ≤ 1) : InvT (cOther T c e) (n + 1) (va_up ch n c') (va_up at' n p) (va_up en n e) bk F G := by
  obtain ⟨a1, a2, b, b', c1, c2, c3, d1, d2, d3, e1, e2, h1, i1, z, s1⟩ := h
  have hF : ∀ k, k < (T.1 1).length → F.getD k 0 < n := fun k hk => by have := b k hk; unfold InvB at this; omega
  have loc : ∀ i, i < n → va_up ch n c' i = ch i := fun i hi => vn _ _ (by omega)
  have loce : ∀ i, i < n → va_up en n e i = en i := fun i hi => vn _ _ (by omega)
  have eN : nbE (va_up ch n c') (va_up en n e) n = nbE ch en n := nbE_loc n (fun i hi => ⟨loc i hi, loce i hi⟩)
  have hsp' : (c = 46 ∨ c = 33 ∨ c = 63) ↔ spB c' = true := by
    rw [hsp]
    unfold spB
    simp only [Bool.or_eq_true, decide_eq_true_eq, or_assoc]
  refine ⟨a1, a2, ?_, b', ?_, ?_, c3, ?_, ?_, ?_, ?_, ?_, ?_, ?_, ?_, s1⟩
  · intro k hk
    have hk : k < (T.1 1).length := hk
    obtain ⟨q1, q2, q3, q4, q5, q6, q7, q8⟩ := b k hk
    refine ⟨q1, by omega, ?_, ?_, q5, q6, ?_, ?_⟩
    · rw [vn _ _ (by omega)]; exact q3
    · rw [vn _ _ (by omega)]; exact q4
    · intro i hi
      have hi : i < (T.1 7).getD k 0 := hi
      rw [vn _ _ (by omega)]; exact q7 i hi
    · intro i h1 h2; rw [vn _ _ (by omega)]; exact q8 i h1 h2
  · rw [cOther_11]
    constructor
    · intro q; cases q
    · intro q
      rw [Nat.add_sub_cancel, vs, hw] at q
      cases q.2.1
  · intro _ q
    rw [Nat.add_sub_cancel, vs, hw] at q
    cases q
  · exact d1
  · show T.1 8 = swl (va_up ch n c') bk F G (T.1 1).length
    rw [swl_loc (fun i hi => ⟨loc i hi, rfl⟩) _ (fun j hj => ⟨rfl, rfl, hF _ hj⟩)]
    exact d2
  · intro k hk
    have hk : k < (T.1 1).length := hk
    rw [swl_loc (fun i hi => ⟨loc i hi, rfl⟩) _ (fun j hj => ⟨rfl, rfl, hF _ (by omega)⟩)]
    exact d3 k hk
  · intro w
    have w : (T.1 1).length ≠ 0 := w
    obtain ⟨q12, q13⟩ := e1 w
    obtain ⟨g1, g2, _, _, _, _, _, g8⟩ := b ((T.1 1).length - 1) (Nat.sub_one_lt w)
    have r12 : (cOther T c e).2 12 = T.2 12 := by
      unfold cOther
      simp only
      split <;> rfl
    constructor
    · rw [r12, q12]
      show (∃ s, G.getD ((T.1 1).length - 1) 0 < s ∧ s ≤ n ∧ bk s = 1) ↔ (∃ s, G.getD ((T.1 1).length - 1) 0 < s ∧ s ≤ n + 1 ∧ bk s = 1)
      constructor
      · intro ⟨s, x1, x2, x3⟩; exact ⟨s, x1, by omega, x3⟩
      · intro ⟨s, x1, x2, x3⟩
        refine ⟨s, x1, ?_, x3⟩
        by_cases q : s = n + 1
        · rw [q, z _ (by omega)] at x3; cases x3
        · omega
    · show (cOther T c e).2 13 = 1 ↔ (∃ s, G.getD ((T.1 1).length - 1) 0 < s ∧ s + 1 < n + 1 ∧ spB (va_up ch n c' s) = true ∧ va_up ch n c' (s + 1) = 32)
      have key : (∃ s, G.getD ((T.1 1).length - 1) 0 < s ∧ s + 1 < n + 1 ∧ spB (va_up ch n c' s) = true ∧ va_up ch n c' (s + 1) = 32) ↔ (T.2 13 = 1 ∨ (T.2 14 = 1 ∧ c' = 32)) := by
        rw [q13, e2]
        constructor
        · intro ⟨s, x1, x2, x3, x4⟩
          rw [vn _ _ (by omega)] at x3
          by_cases q : s + 1 = n
          · right
            rw [q, vs] at x4
            exact ⟨⟨by omega, by rw [← q]; exact x3⟩, x4⟩
          · left
            rw [vn _ _ q] at x4
            exact ⟨s, x1, by omega, x3, x4⟩
        · intro x
          rcases x with ⟨s, x1, x2, x3, x4⟩ | ⟨⟨x1, x2⟩, x3⟩
          · exact ⟨s, x1, by omega, by rw [vn _ _ (by omega)]; exact x3, by rw [vn _ _ (by omega)]; exact x4⟩
          · refine ⟨n - 1, ?_, by omega, by rw [vn _ _ (by omega)]; exact x2, by rw [show n - 1 + 1 = n by omega, vs]; exact x3⟩
            by_cases q : G.getD ((T.1 1).length - 1) 0 = n - 1
            · have := g8 (n - 1) (by omega) (by omega)
              unfold spB at x2
              simp only [Bool.or_eq_true, decide_eq_true_eq] at x2
              unfold isWd isSm isUp isFg at this
              simp only [Bool.or_eq_true, Bool.and_eq_true, decide_eq_true_eq] at this
              omega
            · omega
      rw [key]
      unfold cOther
      simp only
      by_cases q : c = 32
      · rw [if_pos q, vn _ _ (by omega), vs]
        have := h32.mp q
        by_cases q2 : T.2 13 ≠ 0 ∨ T.2 14 ≠ 0
        · rw [if_pos q2]
          constructor
          · intro _; omega
          · intro _; rfl
        · rw [if_neg q2]
          constructor
          · intro x; cases x
          · intro x; omega
      · rw [if_neg q, vn _ _ (by omega), vn _ _ (by omega), vn _ _ (by omega)]
        constructor
        · intro x; exact Or.inl x
        · intro x
          rcases x with x | x
          · exact x
          · exact absurd (h32.mpr x.2) q
  · rw [Nat.add_sub_cancel, vs]
    unfold cOther
    simp only
    by_cases q : c = 32
    · rw [if_pos q, vs, h32.mp q]
      constructor
      · intro x; cases x
      · intro x; exact absurd x.2 (by decide)
    · rw [if_neg q, vs]
      by_cases q2 : c = 46 ∨ c = 33 ∨ c = 63
      · rw [if_pos q2]
        exact ⟨fun _ => ⟨by omega, hsp'.mp q2⟩, fun _ => rfl⟩
      · rw [if_neg q2]
        constructor
        · intro x; cases x
        · intro x; exact absurd (hsp'.mpr x.2) q2
  · unfold cOther
    simp only
    unfold nbE
    rw [vs, vs, eN]
    by_cases q : c = 32
    · rw [if_pos q, if_pos (h32.mp q), vn _ _ (by omega), vn _ _ (by omega), vn _ _ (by omega)]
      exact h1
    · rw [if_neg q, if_neg (fun x => q (h32.mpr x)), vn _ _ (by omega), vs]
  · intro j hj
    have hj : j < (T.1 9).length := hj
    show (T.1 9).getD j 0 = nbE (va_up ch n c') (va_up en n e) (F.getD ((T.1 8).getD (j + 1) 0) 0)
    have hlt : F.getD ((T.1 8).getD (j + 1) 0) 0 ≤ n := by
      by_cases q : (T.1 8).getD (j + 1) 0 < (T.1 1).length
      · exact Nat.le_of_lt (hF _ q)
      · rw [gDn (by omega)]; omega
    rw [nbE_loc _ (fun i hi => ⟨loc i (by omega), loce i (by omega)⟩)]
    exact i1 j hj
  · intro i hi; exact z i (by omega)
end
