/-! WORDS AND SENTENCES: what a word sign keeps -/
theorem isWd_sp {c : Nat} (h : isWd c = true) : spB c = false := by
  have : spB c = true → False := by
    intro q
    unfold spB at q
    unfold isWd isSm isUp isFg at h
    simp only [Bool.or_eq_true, Bool.and_eq_true, decide_eq_true_eq] at q h
    omega
  cases hq : spB c with
  | false => rfl
  | true => exact absurd hq (fun q => this q)
section
variable {T : CT} {n : Nat} {ch at' en bk : Nat → Nat} {F G : List Nat}
theorem InvT.ext (h : InvT T n ch at' en bk F G) {p c : Nat} (hw : isWd c = true) (h11 : T.2 11 = 1) (w2 : (T.1 2).length = (T.1 1).length) (w7 : (T.1 7).length = (T.1 1).length) : InvT (cAdd T p (lo c)) (n + 1) (va_up ch n c) (va_up at' n p) (va_up en n (p + 1)) bk F (G.set ((T.1 1).length - 1) n) := by
  obtain ⟨a1, a2, b, b', c1, c2, c3, d1, d2, d3, e1, e2, h1, i1, z, s1⟩ := h
  obtain ⟨n0, nw, bn⟩ := c1.mp h11
  obtain ⟨w0, gl⟩ := c2 n0 nw
  have hF : ∀ k, k < (T.1 1).length → F.getD k 0 < n := fun k hk => Nat.lt_of_le_of_lt (b k hk).1 (b k hk).2.1
  have loc : ∀ i, i < n → va_up ch n c i = ch i := fun i hi => vn _ _ (by omega)
  have loce : ∀ i, i < n → va_up en n (p + 1) i = en i := fun i hi => vn _ _ (by omega)
  have eN : nbE (va_up ch n c) (va_up en n (p + 1)) n = nbE ch en n := nbE_loc n (fun i hi => ⟨loc i hi, loce i hi⟩)
  have c32 : c ≠ 32 := (isWd_not hw).2.2.1
  have wl : (T.1 1).length - 1 < (T.1 1).length := Nat.sub_one_lt w0
  have gG : ∀ j, j + 1 < (T.1 1).length → (G.set ((T.1 1).length - 1) n).getD j 0 = G.getD j 0 := fun j hj => gN (by omega)
  have gL : (G.set ((T.1 1).length - 1) n).getD ((T.1 1).length - 1) 0 = n := gS (by omega)
  have r7 : (cAdd T p (lo c)).1 7 = (T.1 7).set ((T.1 1).length - 1) ((T.1 7).getD ((T.1 1).length - 1) 0 + 1) := rfl
  have r5 : (cAdd T p (lo c)).1 5 = T.1 5 ++ [lo c] := rfl
  have r2 : (cAdd T p (lo c)).1 2 = (T.1 2).set ((T.1 1).length - 1) (p + 1) := rfl
  have r6 : (cAdd T p (lo c)).1 6 = T.1 6 := rfl
  have l7 : ((T.1 7).set ((T.1 1).length - 1) ((T.1 7).getD ((T.1 1).length - 1) 0 + 1)).getD ((T.1 1).length - 1) 0 = (T.1 7).getD ((T.1 1).length - 1) 0 + 1 := gS (by omega)
  have c3' := c3 w0
  refine ⟨a1, by rw [List.length_set]; exact a2, ?_, ?_, ?_, ?_, ?_, ?_, ?_, ?_, ?_, ?_, ?_, ?_, ?_, s1⟩
  · intro k hk
    have hk : k < (T.1 1).length := hk
    obtain ⟨q1, q2, q3, q4, q5, q6, q7, q8⟩ := b k hk
    unfold InvB
    rw [r7, r5, r2, r6]
    by_cases kl : k = (T.1 1).length - 1
    · subst kl
      rw [gL, gS (by omega), gS (by omega)]
      refine ⟨by omega, by omega, ?_, ?_, by omega, by rw [List.length_append]; simp only [List.length_cons, List.length_nil]; omega, ?_, ?_⟩
      · rw [vn _ _ (by omega)]; exact q3
      · rw [vs]
      · intro i hi
        by_cases il : i = (T.1 7).getD ((T.1 1).length - 1) 0
        · rw [gB (by omega), show F.getD ((T.1 1).length - 1) 0 + i = n by omega, vs]
        · rw [gA (by omega), vn _ _ (by omega)]
          exact q7 i (by omega)
      · intro i x1 x2
        by_cases il : i = n
        · rw [il, vs]; exact hw
        · rw [vn _ _ il]; exact q8 i x1 (by omega)
    · rw [gG k (by omega), gN (fun e => kl e.symm), gN (fun e => kl e.symm)]
      refine ⟨q1, by omega, ?_, ?_, q5, by rw [List.length_append]; simp only [List.length_cons, List.length_nil]; omega, ?_, ?_⟩
      · rw [vn _ _ (by omega)]; exact q3
      · rw [vn _ _ (by omega)]; exact q4
      · intro i hi
        rw [gA (by omega), vn _ _ (by omega)]
        exact q7 i hi
      · intro i x1 x2
        rw [vn _ _ (by omega)]; exact q8 i x1 x2
  · intro k hk
    have hk : k + 1 < (T.1 1).length := hk
    rw [gG k hk]
    exact b' k hk
  · rw [Nat.add_sub_cancel, vs]
    exact ⟨fun _ => ⟨by omega, hw, z _ (by omega)⟩, fun _ => h11⟩
  · intro _ _
    exact ⟨w0, gL⟩
  · intro _
    rw [r6, r7, r5]
    show (T.1 6).getD ((T.1 1).length - 1) 0 + ((T.1 7).set ((T.1 1).length - 1) ((T.1 7).getD ((T.1 1).length - 1) 0 + 1)).getD ((T.1 1).length - 1) 0 = (T.1 5 ++ [lo c]).length
    rw [gS (by omega), List.length_append]
    simp only [List.length_cons, List.length_nil]
    omega
  · intro k hk
    have hk : k < (T.1 1).length := hk
    rw [wpl_loc (n := n) (fun i hi => rfl) k (fun j hj => ⟨rfl, gG j (by omega), hF _ (by omega)⟩)]
    exact d1 k hk
  · show T.1 8 = swl (va_up ch n c) bk F (G.set ((T.1 1).length - 1) n) (T.1 1).length
    rw [swl_loc (n := n) (fun i hi => ⟨loc i hi, rfl⟩) _ (fun j hj => ⟨rfl, gG j hj, hF _ hj⟩)]
    exact d2
  · intro k hk
    have hk : k < (T.1 1).length := hk
    rw [swl_loc (n := n) (fun i hi => ⟨loc i hi, rfl⟩) _ (fun j hj => ⟨rfl, gG j (by omega), hF _ (by omega)⟩)]
    exact d3 k hk
  · intro _
    obtain ⟨q12, q13⟩ := e1 w0
    show (T.2 12 = 1 ↔ ∃ s, (G.set ((T.1 1).length - 1) n).getD ((T.1 1).length - 1) 0 < s ∧ s ≤ n + 1 ∧ bk s = 1) ∧ (T.2 13 = 1 ↔ ∃ s, (G.set ((T.1 1).length - 1) n).getD ((T.1 1).length - 1) 0 < s ∧ s + 1 < n + 1 ∧ _)
    rw [gL, q12, q13, gl]
    clear q12 q13 e1 c1 e2
    constructor
    · constructor
      · intro ⟨s, x1, x2, x3⟩
        have : s = n := by omega
        rw [this, bn] at x3
        cases x3
      · intro ⟨s, x1, x2, x3⟩
        rw [z s x1] at x3
        cases x3
    · constructor
      · intro ⟨s, x1, x2, _⟩; omega
      · intro ⟨s, x1, x2, _⟩; omega
  · rw [Nat.add_sub_cancel, vs, isWd_sp hw]
    constructor
    · intro q; cases q
    · intro q; cases q.2
  · unfold nbE
    rw [vs, vs, if_neg c32]
    rfl
  · intro j hj
    have hj : j < (T.1 9).length := hj
    show (T.1 9).getD j 0 = nbE (va_up ch n c) (va_up en n (p + 1)) (F.getD ((T.1 8).getD (j + 1) 0) 0)
    have hlt : F.getD ((T.1 8).getD (j + 1) 0) 0 ≤ n := by
      by_cases q : (T.1 8).getD (j + 1) 0 < (T.1 1).length
      · exact Nat.le_of_lt (hF _ q)
      · rw [gDn (by omega)]; exact Nat.zero_le _
    rw [nbE_loc _ (fun i hi => ⟨loc i (by omega), loce i (by omega)⟩)]
    exact i1 j hj
  · intro i hi; exact z i (by omega)
theorem InvT.new (h : InvT T n ch at' en bk F G) {p c : Nat} (hw : isWd c = true) (h11 : T.2 11 = 0) (w : WfT p T) : InvT (cAdd (cNew T p) p (lo c)) (n + 1) (va_up ch n c) (va_up at' n p) (va_up en n (p + 1)) bk (F ++ [n]) (G ++ [n]) := by
  obtain ⟨a1, a2, b, b', c1, c2, c3, d1, d2, d3, e1, e2, h1, i1, z, s1⟩ := h
  obtain ⟨w1, w2, w3, w4, w6, w7, w5, w8, w9, w9', w10, wo, w11, w12, w13, w14, w15⟩ := w
  have hF : ∀ k, k < (T.1 1).length → F.getD k 0 < n := fun k hk => Nat.lt_of_le_of_lt (b k hk).1 (b k hk).2.1
  have loc : ∀ i, i < n → va_up ch n c i = ch i := fun i hi => vn _ _ (by omega)
  have loce : ∀ i, i < n → va_up en n (p + 1) i = en i := fun i hi => vn _ _ (by omega)
  have eN : nbE (va_up ch n c) (va_up en n (p + 1)) n = nbE ch en n := nbE_loc n (fun i hi => ⟨loc i hi, loce i hi⟩)
  have c32 : c ≠ 32 := (isWd_not hw).2.2.1
  have gF : ∀ j, j < (T.1 1).length → (F ++ [n]).getD j 0 = F.getD j 0 := fun j hj => gA (by omega)
  have gG : ∀ j, j < (T.1 1).length → (G ++ [n]).getD j 0 = G.getD j 0 := fun j hj => gA (by omega)
  have fL : (F ++ [n]).getD (T.1 1).length 0 = n := gB a1.symm
  have gL : (G ++ [n]).getD (T.1 1).length 0 = n := gB a2.symm
  -- the rows
  have r1 : (cAdd (cNew T p) p (lo c)).1 1 = T.1 1 ++ [p] := rfl
  have r1l : ((cNew T p).1 1).length - 1 = (T.1 1).length := by
    show (T.1 1 ++ [p]).length - 1 = _
    rw [List.length_append]; rfl
  have r2 : (cAdd (cNew T p) p (lo c)).1 2 = (T.1 2 ++ [p]).set (T.1 1).length (p + 1) := by
    show (T.1 2 ++ [p]).set (((cNew T p).1 1).length - 1) (p + 1) = _
    rw [r1l]
  have r7 : (cAdd (cNew T p) p (lo c)).1 7 = (T.1 7 ++ [0]).set (T.1 1).length 1 := by
    show (T.1 7 ++ [0]).set (((cNew T p).1 1).length - 1) ((T.1 7 ++ [0]).getD (((cNew T p).1 1).length - 1) 0 + 1) = _
    rw [r1l, gB w7.symm]
  have r5 : (cAdd (cNew T p) p (lo c)).1 5 = T.1 5 ++ [lo c] := rfl
  have r6 : (cAdd (cNew T p) p (lo c)).1 6 = T.1 6 ++ [(T.1 5).length] := rfl
  have r3 : (cAdd (cNew T p) p (lo c)).1 3 = T.1 3 ++ [if (T.1 1).length = 0 then 0 else (T.1 3).getD ((T.1 3).length - 1) 0 + (if T.2 12 ≠ 0 then 11 else 1)] := rfl
  have r8 : (cAdd (cNew T p) p (lo c)).1 8 = if (T.1 1).length = 0 ∨ T.2 12 ≠ 0 ∨ T.2 13 ≠ 0 then T.1 8 ++ [(T.1 1).length] else T.1 8 := rfl
  have r4 : (cAdd (cNew T p) p (lo c)).1 4 = T.1 4 ++ [((cAdd (cNew T p) p (lo c)).1 8).length - 1] := rfl
  have r9 : (cAdd (cNew T p) p (lo c)).1 9 = if (T.1 1).length ≠ 0 ∧ (T.2 12 ≠ 0 ∨ T.2 13 ≠ 0) then T.1 9 ++ [T.2 15] else T.1 9 := rfl
  have lw : ((cAdd (cNew T p) p (lo c)).1 1).length = (T.1 1).length + 1 := by rw [r1, List.length_append]; rfl
  -- breaks and stops ahead of the new word
  have kB : (T.1 1).length ≠ 0 → (brW bk (F ++ [n]) (G ++ [n]) ((T.1 1).length - 1) = true ↔ T.2 12 ≠ 0) := by
    intro q
    rw [brW_iff, gG _ (Nat.sub_one_lt q), Nat.sub_one_add_one q, fL, ← (e1 q).1]
    exact ⟨fun x => by rw [x]; exact Nat.one_ne_zero, fun x => Nat.le_antisymm w12 (Nat.pos_of_ne_zero x)⟩
  have kS : (T.1 1).length ≠ 0 → (stW (va_up ch n c) (F ++ [n]) (G ++ [n]) ((T.1 1).length - 1) = true ↔ T.2 13 ≠ 0) := by
    intro q
    rw [stW_iff, gG _ (Nat.sub_one_lt q), Nat.sub_one_add_one q, fL]
    have e13 := (e1 q).2
    constructor
    · intro ⟨s, x1, x2, x3, x4⟩
      have hs : s + 1 ≠ n := by
        intro y
        rw [y, vs] at x4
        exact c32 x4
      rw [vn _ _ (by omega)] at x3
      rw [vn _ _ hs] at x4
      rw [e13.mpr ⟨s, x1, by omega, x3, x4⟩]
      exact Nat.one_ne_zero
    · intro x
      obtain ⟨s, x1, x2, x3, x4⟩ := e13.mp (Nat.le_antisymm w13 (Nat.pos_of_ne_zero x))
      exact ⟨s, x1, by omega, by rw [vn _ _ (by omega)]; exact x3, by rw [vn _ _ (by omega)]; exact x4⟩
  have swo : ∀ k, k ≤ (T.1 1).length → swl (va_up ch n c) bk (F ++ [n]) (G ++ [n]) k = swl ch bk F G k := fun k hk => swl_loc (n := n) (fun i hi => ⟨loc i hi, rfl⟩) k (fun j hj => ⟨gF _ (by omega), gG _ (by omega), hF _ (by omega)⟩)
  have e8 : (cAdd (cNew T p) p (lo c)).1 8 = swl (va_up ch n c) bk (F ++ [n]) (G ++ [n]) ((T.1 1).length + 1) := by
    rw [r8]
    conv => rhs; unfold swl
    rw [swo _ (Nat.le_refl _), ← d2]
    by_cases q : (T.1 1).length = 0
    · rw [if_pos (Or.inl q), if_pos (Or.inl q)]
    · have k1 := kB q
      have k2 := kS q
      by_cases q2 : T.2 12 ≠ 0
      · rw [if_pos (Or.inr (Or.inl q2)), if_pos (Or.inr (Or.inl (k1.mpr q2)))]
      · by_cases q3 : T.2 13 ≠ 0
        · rw [if_pos (Or.inr (Or.inr q3)), if_pos (Or.inr (Or.inr (k2.mpr q3)))]
        · rw [if_neg, if_neg]
          · intro x
            rcases x with x | x | x
            · exact q x
            · exact q2 (k1.mp x)
            · exact q3 (k2.mp x)
          · intro x
            rcases x with x | x | x
            · exact q x
            · exact q2 x
            · exact q3 x
  refine ⟨by rw [lw, List.length_append, a1]; rfl, by rw [lw, List.length_append, a2]; rfl, ?_, ?_, ?_, ?_, ?_, ?_, ?_, ?_, ?_, ?_, ?_, ?_, ?_, ?_⟩
  · intro k hk
    rw [lw] at hk
    unfold InvB
    rw [r1, r2, r7, r5, r6]
    by_cases kl : k = (T.1 1).length
    · subst kl
      rw [fL, gL, gB rfl, gS (by rw [List.length_append]; simp; omega), gS (by rw [List.length_append]; simp; omega), gB w6.symm]
      refine ⟨by omega, by omega, ?_, ?_, by omega, by rw [List.length_append]; simp, ?_, ?_⟩
      · rw [vs]
      · rw [vs]
      · intro i hi
        have : i = 0 := by omega
        subst this
        show (T.1 5 ++ [lo c]).getD (T.1 5).length 0 = lo (va_up ch n c n)
        rw [gB rfl, vs]
      · intro i x1 x2
        have : i = n := by omega
        rw [this, vs]; exact hw
    · obtain ⟨q1, q2, q3, q4, q5, q6, q7, q8⟩ := b k (by omega)
      rw [gF k (by omega), gG k (by omega), gA (by omega), gN (fun e => kl e.symm), gA (by omega), gN (fun e => kl e.symm), gA (by omega), gA (by omega)]
      refine ⟨q1, by omega, ?_, ?_, q5, by rw [List.length_append]; simp only [List.length_cons, List.length_nil]; omega, ?_, ?_⟩
      · rw [vn _ _ (by omega)]; exact q3
      · rw [vn _ _ (by omega)]; exact q4
      · intro i hi
        rw [gA (by omega), vn _ _ (by omega)]
        exact q7 i hi
      · intro i x1 x2
        rw [vn _ _ (by omega)]; exact q8 i x1 x2
  · intro k hk
    rw [lw] at hk
    by_cases kl : k + 1 = (T.1 1).length
    · rw [kl, fL, gG k (by omega)]
      exact (b k (by omega)).2.1
    · rw [gF _ (by omega), gG k (by omega)]
      exact b' k (by omega)
  · rw [Nat.add_sub_cancel, vs]
    exact ⟨fun _ => ⟨by omega, hw, z _ (by omega)⟩, fun _ => rfl⟩
  · intro _ _
    rw [lw]
    exact ⟨by omega, by rw [Nat.add_sub_cancel, gL, Nat.add_sub_cancel]⟩
  · intro _
    rw [lw, r6, r7, r5, Nat.add_sub_cancel, gB w6.symm, gS (by rw [List.length_append]; simp; omega), List.length_append]
    rfl
  · intro k hk
    rw [lw] at hk
    rw [r3]
    by_cases kl : k = (T.1 1).length
    · rw [gB (by omega), kl]
      by_cases q : (T.1 1).length = 0
      · rw [if_pos q, q]; rfl
      · rw [if_neg q, w3, show wpl bk (F ++ [n]) (G ++ [n]) (T.1 1).length = wpl bk (F ++ [n]) (G ++ [n]) (((T.1 1).length - 1) + 1) by rw [Nat.sub_one_add_one q]]
        conv => rhs; unfold wpl
        rw [wpl_loc (n := n) (fun i hi => rfl) ((T.1 1).length - 1) (fun j hj => ⟨gF _ (by omega), gG _ (by omega), hF _ (by omega)⟩), d1 _ (Nat.sub_one_lt q)]
        congr 1
        have k1 := kB q
        by_cases q2 : T.2 12 ≠ 0
        · rw [if_pos q2, if_pos (k1.mpr q2)]
        · rw [if_neg q2, if_neg (fun x => q2 (k1.mp x))]
    · rw [gA (by omega), wpl_loc (n := n) (fun i hi => rfl) k (fun j hj => ⟨gF _ (by omega), gG _ (by omega), hF _ (by omega)⟩)]
      exact d1 k (by omega)
  · rw [lw]; exact e8
  · intro k hk
    rw [lw] at hk
    rw [r4]
    by_cases kl : k = (T.1 1).length
    · rw [gB (by omega), e8, kl]
    · rw [gA (by omega), swo (k + 1) (by omega)]
      exact d3 k (by omega)
  · intro _
    rw [lw, Nat.add_sub_cancel, gL]
    constructor
    · constructor
      · intro x; cases x
      · intro ⟨s, x1, x2, x3⟩
        rw [z s x1] at x3; cases x3
    · constructor
      · intro x; cases x
      · intro ⟨s, x1, x2, _⟩; omega
  · rw [Nat.add_sub_cancel, vs, isWd_sp hw]
    constructor
    · intro q; cases q
    · intro q; cases q.2
  · unfold nbE
    rw [vs, vs, if_neg c32]
    rfl
  · intro j hj
    rw [r9] at hj ⊢
    rw [r8]
    have j9 : j < (T.1 9).length → j + 1 < (T.1 8).length := by
      intro q
      by_cases q0 : (T.1 1).length = 0
      · omega
      · have := w9' q0; omega
    have old : j < (T.1 9).length → (T.1 9).getD j 0 = nbE (va_up ch n c) (va_up en n (p + 1)) ((F ++ [n]).getD ((if (T.1 1).length = 0 ∨ T.2 12 ≠ 0 ∨ T.2 13 ≠ 0 then T.1 8 ++ [(T.1 1).length] else T.1 8).getD (j + 1) 0) 0) := by
      intro q
      have q8 := j9 q
      have : (if (T.1 1).length = 0 ∨ T.2 12 ≠ 0 ∨ T.2 13 ≠ 0 then T.1 8 ++ [(T.1 1).length] else T.1 8).getD (j + 1) 0 = (T.1 8).getD (j + 1) 0 := by
        split
        · exact gA q8
        · rfl
      have q1 := s1 (j + 1) q8
      rw [this, gF _ q1, nbE_loc _ (fun i hi => ⟨loc i (by have := hF _ q1; omega), loce i (by have := hF _ q1; omega)⟩)]
      exact i1 j q
    by_cases q : (T.1 1).length ≠ 0 ∧ (T.2 12 ≠ 0 ∨ T.2 13 ≠ 0)
    · rw [if_pos q] at hj ⊢
      by_cases jl : j = (T.1 9).length
      · have := w9' q.1
        have g8 : (T.1 8 ++ [(T.1 1).length]).getD (j + 1) 0 = (T.1 1).length := gB (by omega)
        rw [gB jl, if_pos (Or.inr q.2), g8, fL, eN]
        exact h1
      · rw [List.length_append] at hj
        simp only [List.length_cons, List.length_nil] at hj
        rw [gA (by omega)]
        exact old (by omega)
    · rw [if_neg q] at hj ⊢
      exact old hj
  · intro i hi; exact z i (by omega)
  · intro k hk
    rw [lw]
    rw [r8] at hk ⊢
    split
    · rename_i q
      rw [if_pos q, List.length_append] at hk
      simp only [List.length_cons, List.length_nil] at hk
      by_cases kl : k = (T.1 8).length
      · rw [gB kl]; omega
      · rw [gA (by omega)]
        have := s1 k (by omega)
        omega
    · rename_i q
      rw [if_neg q] at hk
      have := s1 k hk
      omega
end
