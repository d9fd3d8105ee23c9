/-! THE LAW's loop at level 2 -/
theorem subI_lt {a b c : Nat} (ha : a < 2 ^ 30) (hb : b < 2 ^ 30) (hc : c < 2 ^ 30) : nI a - nI b < nI c ↔ a < b + c := by
  rw [Int32.lt_iff_toInt_lt, pk_sub_toInt ha hb, nI_toInt (by omega)]
  omega
theorem law_step {L : Nat} {xs : Nat → Int32} (hL : L ≤ 3072) {i : Nat} (hi : i + 6 ≤ L) {Z : zS} (h : INV xs Z) : ∃ Z2, INV xs Z2 ∧ xruns (O2 L) (zden L 9) 164 27 [.ref 0, .ref 1, .ref 136, .int (nI i)] [] Z = xruns (O2 L) (zden L 9) 164 566 [.ref 0, .ref 1, .ref 136, .int (nI i)] [] Z2 := by
  have ld : ∀ (Z' : zS) (j : Nat), j < L → (O2 L).2.2.2.2.2.1 Z' 0 0 (nI j) = some (Z'.2.2.1 0 j) := fun Z' j hj => scL Z' hj
  obtain ⟨g0, g1, g2, g3, g4, g5, g6, g7, g8⟩ := op_get (L := L) h
  rw [B164_27, ld Z i (by omega), Option.bind_some]
  generalize Z.2.2.1 0 i &&& nI 15 = k
  by_cases c0 : k = nI 0
  · obtain ⟨v, Z1, Z2, e1, e2, inv, eA⟩ := op_feed (L := L) h (Z.2.2.1 0 (i + 1)) (Z.2.2.1 0 (i + 2)) (Z.2.2.1 0 (i + 3)) (Z.2.2.1 0 (i + 4)) (Z.2.2.1 0 (i + 5))
    refine ⟨Z2, inv, ?_⟩
    rw [if_pos c0, B164_112, nI_add, nI_add, nI_add, nI_add, nI_add, ld Z _ (by omega), Option.bind_some, ld Z _ (by omega), Option.bind_some, ld Z _ (by omega), Option.bind_some, ld Z _ (by omega), Option.bind_some, ld Z _ (by omega), Option.bind_some, e1, Option.bind_some, ld Z1 _ (by omega), Option.bind_some, ld Z1 _ (by omega), Option.bind_some, ld Z1 _ (by omega), Option.bind_some, ld Z1 _ (by omega), Option.bind_some, ld Z1 _ (by omega), Option.bind_some, eA, e2, Option.bind_some, if_pos rfl]
  rw [if_neg c0]
  by_cases c1 : k = nI 1
  · obtain ⟨v, Z1, Z2, e1, e2, inv, eA⟩ := op_cut (L := L) h (Z.2.2.1 0 (i + 1))
    refine ⟨Z2, inv, ?_⟩
    rw [if_pos c1, B164_175, nI_add, ld Z _ (by omega), Option.bind_some, e1, Option.bind_some, ld Z1 _ (by omega), Option.bind_some, eA, e2, Option.bind_some, if_pos rfl]
  rw [if_neg c1]
  by_cases c2 : k = nI 2
  · obtain ⟨v, Z1, Z2, e1, e2, inv, eA⟩ := op_text (L := L) h
    refine ⟨Z2, inv, ?_⟩
    rw [if_pos c2, B164_198, e1, Option.bind_some, e2, Option.bind_some, if_pos rfl]
  rw [if_neg c2]
  by_cases c3 : k = nI 3
  · obtain ⟨v, Z1, Z2, e1, e2, inv, eA⟩ := op_query (L := L) h
    refine ⟨Z2, inv, ?_⟩
    rw [if_pos c3, B164_211, e1, Option.bind_some, e2, Option.bind_some, if_pos rfl]
  rw [if_neg c3]
  by_cases c4 : k = nI 4
  · obtain ⟨v, Z1, Z2, e1, e2, inv, eA⟩ := op_limit (L := L) h (Z.2.2.1 0 (i + 1))
    refine ⟨Z2, inv, ?_⟩
    rw [if_pos c4, B164_224, nI_add, ld Z _ (by omega), Option.bind_some, e1, Option.bind_some, ld Z1 _ (by omega), Option.bind_some, eA, e2, Option.bind_some, if_pos rfl]
  rw [if_neg c4]
  by_cases c5 : k = nI 5
  · obtain ⟨v, Z1, Z2, e1, e2, inv, eA⟩ := g0
    refine ⟨Z2, inv, ?_⟩
    rw [if_pos c5, B164_247, e1, Option.bind_some, e2, Option.bind_some, if_pos rfl]
  rw [if_neg c5]
  by_cases c6 : k = nI 6
  · obtain ⟨v, Z1, Z2, e1, e2, inv, eA⟩ := g1 (Z.2.2.1 0 (i + 1)) (Z.2.2.1 0 (i + 2))
    refine ⟨Z2, inv, ?_⟩
    rw [if_pos c6, B164_260, nI_add, nI_add, ld Z _ (by omega), Option.bind_some, ld Z _ (by omega), Option.bind_some, e1, Option.bind_some, ld Z1 _ (by omega), Option.bind_some, ld Z1 _ (by omega), Option.bind_some, eA, e2, Option.bind_some, if_pos rfl]
  rw [if_neg c6]
  by_cases c7 : k = nI 7
  · obtain ⟨v, Z1, Z2, e1, e2, inv, eA⟩ := g2 (Z.2.2.1 0 (i + 1)) (Z.2.2.1 0 (i + 2))
    refine ⟨Z2, inv, ?_⟩
    rw [if_pos c7, B164_293, nI_add, nI_add, ld Z _ (by omega), Option.bind_some, ld Z _ (by omega), Option.bind_some, e1, Option.bind_some, ld Z1 _ (by omega), Option.bind_some, ld Z1 _ (by omega), Option.bind_some, eA, e2, Option.bind_some, if_pos rfl]
  rw [if_neg c7]
  by_cases c8 : k = nI 8
  · obtain ⟨v, Z1, Z2, e1, e2, inv, eA⟩ := g3 (Z.2.2.1 0 (i + 1)) (Z.2.2.1 0 (i + 2))
    refine ⟨Z2, inv, ?_⟩
    rw [if_pos c8, B164_326, nI_add, nI_add, ld Z _ (by omega), Option.bind_some, ld Z _ (by omega), Option.bind_some, e1, Option.bind_some, ld Z1 _ (by omega), Option.bind_some, ld Z1 _ (by omega), Option.bind_some, eA, e2, Option.bind_some, if_pos rfl]
  rw [if_neg c8]
  by_cases c9 : k = nI 9
  · obtain ⟨v, Z1, Z2, e1, e2, inv, eA⟩ := g4 (Z.2.2.1 0 (i + 1)) (Z.2.2.1 0 (i + 2))
    refine ⟨Z2, inv, ?_⟩
    rw [if_pos c9, B164_359, nI_add, nI_add, ld Z _ (by omega), Option.bind_some, ld Z _ (by omega), Option.bind_some, e1, Option.bind_some, ld Z1 _ (by omega), Option.bind_some, ld Z1 _ (by omega), Option.bind_some, eA, e2, Option.bind_some, if_pos rfl]
  rw [if_neg c9]
  by_cases c10 : k = nI 10
  · obtain ⟨v, Z1, Z2, e1, e2, inv, eA⟩ := g5 (Z.2.2.1 0 (i + 1)) (Z.2.2.1 0 (i + 2))
    refine ⟨Z2, inv, ?_⟩
    rw [if_pos c10, B164_392, nI_add, nI_add, ld Z _ (by omega), Option.bind_some, ld Z _ (by omega), Option.bind_some, e1, Option.bind_some, ld Z1 _ (by omega), Option.bind_some, ld Z1 _ (by omega), Option.bind_some, eA, e2, Option.bind_some, if_pos rfl]
  rw [if_neg c10]
  by_cases c11 : k = nI 11
  · obtain ⟨v, Z1, Z2, e1, e2, inv, eA⟩ := op_passages (L := L) h (Z.2.2.1 0 (i + 1))
    refine ⟨Z2, inv, ?_⟩
    rw [if_pos c11, B164_425, nI_add, ld Z _ (by omega), Option.bind_some, e1, Option.bind_some, ld Z1 _ (by omega), Option.bind_some, eA, e2, Option.bind_some, if_pos rfl]
  rw [if_neg c11]
  by_cases c12 : k = nI 12
  · obtain ⟨v, Z1, Z2, e1, e2, inv, eA⟩ := g6 (Z.2.2.1 0 (i + 1)) (Z.2.2.1 0 (i + 2))
    refine ⟨Z2, inv, ?_⟩
    rw [if_pos c12, B164_448, nI_add, nI_add, ld Z _ (by omega), Option.bind_some, ld Z _ (by omega), Option.bind_some, e1, Option.bind_some, ld Z1 _ (by omega), Option.bind_some, ld Z1 _ (by omega), Option.bind_some, eA, e2, Option.bind_some, if_pos rfl]
  rw [if_neg c12]
  by_cases c13 : k = nI 13
  · rw [if_pos c13, B164_481, nI_add, ld Z _ (by omega), Option.bind_some]
    by_cases y : Z.2.2.1 0 (i + 1) = nI 0
    · obtain ⟨v, Z1, Z2, e1, e2, inv, eA⟩ := op_print (L := L) h (nI 0)
      refine ⟨Z2, inv, ?_⟩
      rw [if_pos y, B164_494, B164_495, e1, Option.bind_some, nI_add, ld Z1 _ (by omega), Option.bind_some, eA, if_pos y, B164_511, B164_512, e2, Option.bind_some, if_pos rfl]
    · obtain ⟨v, Z1, Z2, e1, e2, inv, eA⟩ := op_print (L := L) h (nI 1)
      refine ⟨Z2, inv, ?_⟩
      rw [if_neg y, B164_490, B164_495, e1, Option.bind_some, nI_add, ld Z1 _ (by omega), Option.bind_some, eA, if_neg y, B164_507, B164_512, e2, Option.bind_some, if_pos rfl]
  rw [if_neg c13]
  by_cases c14 : k = nI 14
  · obtain ⟨v, Z1, Z2, e1, e2, inv, eA⟩ := g7 (Z.2.2.1 0 (i + 1))
    refine ⟨Z2, inv, ?_⟩
    rw [if_pos c14, B164_520, nI_add, ld Z _ (by omega), Option.bind_some, e1, Option.bind_some, ld Z1 _ (by omega), Option.bind_some, eA, e2, Option.bind_some, if_pos rfl]
  rw [if_neg c14]
  by_cases c15 : k = nI 15
  · obtain ⟨v, Z1, Z2, e1, e2, inv, eA⟩ := g8 (Z.2.2.1 0 (i + 1))
    refine ⟨Z2, inv, ?_⟩
    rw [if_pos c15, B164_543, nI_add, ld Z _ (by omega), Option.bind_some, e1, Option.bind_some, ld Z1 _ (by omega), Option.bind_some, eA, e2, Option.bind_some, if_pos rfl]
  exact ⟨Z, h, by rw [if_neg c15]⟩
/-- the law's loop answers 1 -/
theorem zlaw (L : Nat) (xs : Nat → Int32) (hL : L ≤ 3072) : ∃ z', xruns (O2 L) (zden L 9) 164 18 [.ref 0, .ref 1, .ref 136, .int 0] [] (z0 xs) = some (1, z') := by
  have loop : ∀ (r i : Nat) (Z : zS), L < i + 6 + r → i ≤ 4000 → INV xs Z → ∃ z', xruns (O2 L) (zden L 9) 164 18 [.ref 0, .ref 1, .ref 136, .int (nI i)] [] Z = some (1, z') := by
    intro r
    induction r with
    | zero =>
      intro i Z hr hi h
      refine ⟨Z, ?_⟩
      rw [B164_18, scZ, Option.bind_some, if_pos ((subI_lt (by omega) (by omega) (by omega)).mpr (by omega)), B164_572, iO1]
      rfl
    | succ r ih =>
      intro i Z hr hi h
      by_cases c : L < 6 + i
      · refine ⟨Z, ?_⟩
        rw [B164_18, scZ, Option.bind_some, if_pos ((subI_lt (by omega) (by omega) (by omega)).mpr c), B164_572, iO1]
        rfl
      · obtain ⟨Z2, inv, e⟩ := law_step hL (show i + 6 ≤ L by omega) h
        obtain ⟨z', e'⟩ := ih (i + 6) Z2 (by omega) (by omega) inv
        refine ⟨z', ?_⟩
        rw [B164_18, scZ, Option.bind_some, if_neg (fun q => c ((subI_lt (by omega) (by omega) (by omega)).mp q)), e, B164_566, nI_add]
        exact e'
  exact loop L 0 (z0 xs) (by omega) (by omega) (inv0 xs)
