/-! FEED and CUT -/
def by4 (x : Int32) : List Nat := [byN x 24, byN x 16, byN x 8, byN x 0]
theorem c_feedN {L d : Nat} {z : zS} {tp : List Nat} (h : z.1 2 = tp.map nI) (hl : tp.length + 4 ≤ 1000) (x : Int32) : zden L (d + 3) 103 [.ref 1, .int x] z = some (0, zrs z 2 ((tp ++ by4 x).map nI)) := by
  have one : ∀ (z : zS) (tp : List Nat) (s : Nat), z.1 2 = tp.map nI → tp.length < 1000 → s ≤ 24 → xruns (O2 L) (zden L (d + 2)) 103 3 [.ref 1, .int x, .int (nI s)] [] z = xruns (O2 L) (zden L (d + 2)) 103 3 [.ref 1, .int x, .int (nI s + (-8))] [] (zrs z 2 ((tp ++ [byN x s]).map nI)) := by
    intro z tp s h hl hs
    rw [B103_3, if_neg (nI_nlt (Nat.zero_le _) (by omega)), B103_7, J1_0, Option.bind_some, N61 (a := 2) rfl, Option.bind_some, byu x (by omega), h, show zmo 2 = 1000 from rfl, zadd_map hl]
  rw [N103 _ _ ob1, B103_0]
  rw [one z tp 24 h (by omega) (by omega), show nI 24 + (-8) = nI 16 from rfl, one _ _ 16 (zrs_at _ _ _) (by simp; omega) (by omega), show nI 16 + (-8) = nI 8 from rfl, one _ _ 8 (zrs_at _ _ _) (by simp; omega) (by omega), show nI 8 + (-8) = nI 0 from rfl, one _ _ 0 (zrs_at _ _ _) (by simp; omega) (by omega), zrs_zrs, zrs_zrs, zrs_zrs, B103_3, if_pos (by decide), B103_27]
  simp [by4]
def by20 (a b c d e : Int32) : List Nat := by4 a ++ by4 b ++ by4 c ++ by4 d ++ by4 e
theorem by20_len (a b c d e : Int32) : (by20 a b c d e).length = 20 := rfl
theorem c_feed {L d : Nat} {z : zS} {tp : List Nat} (h : z.1 2 = tp.map nI) (hl : tp.length ≤ 1000) (x1 x2 x3 x4 x5 : Int32) : zden L (d + 4) 87 [.ref 1, .int x1, .int x2, .int x3, .int x4, .int x5] z = if tp.length + 20 ≤ 1000 then some (nI (tp.length + 20), zrs z 2 ((tp ++ by20 x1 x2 x3 x4 x5).map nI)) else some (-2, z) := by
  rw [N87 _ _ _ _ _ _ ob1, B87_0, J1_0, Option.bind_some, N55 (a := 2) rfl, Option.bind_some, h, List.length_map, nI_add]
  by_cases hc : tp.length + 20 ≤ 1000
  · rw [if_pos hc, if_pos (nI_le hc (by omega)), B87_19]
    rw [c_feedN h (by omega), Option.bind_some, c_feedN (zrs_at _ _ _) (by simp [by4]; omega), Option.bind_some, c_feedN (zrs_at _ _ _) (by simp [by4]; omega), Option.bind_some, c_feedN (zrs_at _ _ _) (by simp [by4]; omega), Option.bind_some, c_feedN (zrs_at _ _ _) (by simp [by4]; omega), Option.bind_some, J1_0, Option.bind_some, N55 (a := 2) rfl, zrs_at, zrs_zrs, zrs_zrs, zrs_zrs, zrs_zrs]
    simp [by4, by20]
  · rw [if_neg hc, if_neg (nI_ge (by omega) (by omega)), B87_16]
theorem c_cut {L d : Nat} {z : zS} {tp : List Nat} (h : z.1 2 = tp.map nI) (hl : tp.length ≤ 1000) (n : Int32) : zden L (d + 2) 88 [.ref 1, .int n] z = if n < nI 0 then some (-1, z) else if n ≤ nI tp.length then some (nI tp.length, zrs z 2 ((tp.take n.toNatClampNeg).map nI)) else some (-1, z) := by
  rw [N88 _ _ ob1, B88_0, J1_0, Option.bind_some, N55 (a := 2) rfl, Option.bind_some, h, List.length_map]
  split
  · rw [B88_17]
  · next h0 =>
    rw [B88_12]
    split
    · next h1 =>
      rw [B88_19, J1_0, Option.bind_some, N62 (a := 2) rfl, Option.bind_some, h]
      obtain ⟨j, j1, j2⟩ := nI_of h0
      subst j2
      have h2 := (nI_leI j1 (by omega)).mp h1
      rw [nI_clamp j1]
      by_cases hj : j < tp.length
      · rw [zkeep_map hj (by omega)]
      · have : j = tp.length := by omega
        subst this
        unfold zkeep
        rw [List.length_map, if_neg (nI_pos j1), if_pos (nI_le (Nat.le_refl _) j1), List.take_length]
    · rw [B88_17]
/-! the reference's -/
def by20at (x1 x2 x3 x4 x5 : Int32) (k : Nat) : Nat := (by20 x1 x2 x3 x4 x5).getD k 0
theorem by20_at (x1 x2 x3 x4 x5 : Int32) : ∀ k, k < 20 → by20at x1 x2 x3 x4 x5 k = byN (if k < 4 then x1 else if k < 8 then x2 else if k < 12 then x3 else if k < 16 then x4 else x5) (24 - 8 * (k % 4)) := by
  intro k hk
  have : k = 0 ∨ k = 1 ∨ k = 2 ∨ k = 3 ∨ k = 4 ∨ k = 5 ∨ k = 6 ∨ k = 7 ∨ k = 8 ∨ k = 9 ∨ k = 10 ∨ k = 11 ∨ k = 12 ∨ k = 13 ∨ k = 14 ∨ k = 15 ∨ k = 16 ∨ k = 17 ∨ k = 18 ∨ k = 19 := by omega
  rcases this with rfl | rfl | rfl | rfl | rfl | rfl | rfl | rfl | rfl | rfl | rfl | rfl | rfl | rfl | rfl | rfl | rfl | rfl | rfl | rfl <;> rfl
def amap (A : Nat → Nat → Int32) (a n k : Nat) (f : Nat → Nat) : Nat → Nat → Int32 := fun b i => if b = a ∧ n ≤ i ∧ i < n + k then nI (f (i - n)) else A b i
theorem amap_0 (A : Nat → Nat → Int32) (a n : Nat) (f : Nat → Nat) : amap A a n 0 f = A := by
  funext b i
  unfold amap
  rw [if_neg (by omega)]
theorem amap_s (A : Nat → Nat → Int32) (a n k : Nat) (f : Nat → Nat) : zup (amap A a n k f) a (n + k) (nI (f k)) = amap A a n (k + 1) f := by
  funext b i
  show (if b = a ∧ i = n + k then nI (f k) else if b = a ∧ n ≤ i ∧ i < n + k then nI (f (i - n)) else A b i) = if b = a ∧ n ≤ i ∧ i < n + (k + 1) then nI (f (i - n)) else A b i
  by_cases h : b = a ∧ i = n + k
  · obtain ⟨rfl, rfl⟩ := h
    rw [if_pos ⟨rfl, rfl⟩, if_pos (by omega)]
    congr 2
    omega
  · rw [if_neg h]
    by_cases h2 : b = a ∧ n ≤ i ∧ i < n + k
    · rw [if_pos h2, if_pos (by omega)]
    · rw [if_neg h2, if_neg (by omega)]
theorem m_feed_loop {L d : Nat} {x1 x2 x3 x4 x5 : Int32} {n : Nat} (hn : n + 20 ≤ 1000) {R : Nat → List Int32} {F : Nat → Nat → Int32} {A : Nat → Nat → Int32} {P : Nat → Nat → Nat} (hF : F 136 1 = nI n) : ∀ (r k : Nat) (v : Value), k + r = 20 →
    ∃ v', xruns (O2 L) (zden L d) 113 19 [.ref 136, .int x1, .int x2, .int x3, .int x4, .int x5, .int (nI k), v] [] (R, F, amap A 137 n k (by20at x1 x2 x3 x4 x5), P) = xruns (O2 L) (zden L d) 113 109 [.ref 136, .int x1, .int x2, .int x3, .int x4, .int x5, .int (nI 20), v'] [] (R, F, amap A 137 n 20 (by20at x1 x2 x3 x4 x5), P) := by
  intro r
  induction r with
  | zero =>
    intro k v hk
    have : k = 20 := by omega
    subst this
    exact ⟨v, by rw [B113_19, if_pos (nI_le (Nat.le_refl _) (by omega))]⟩
  | succ r ih =>
    intro k v hk
    have h72 : ∀ s0, s0 = (if k < 4 then x1 else if k < 8 then x2 else if k < 12 then x3 else if k < 16 then x4 else x5) → ∃ v', xruns (O2 L) (zden L d) 113 72 [.ref 136, .int x1, .int x2, .int x3, .int x4, .int x5, .int (nI k), v] [.int s0] (R, F, amap A 137 n k (by20at x1 x2 x3 x4 x5), P) = xruns (O2 L) (zden L d) 113 109 [.ref 136, .int x1, .int x2, .int x3, .int x4, .int x5, .int (nI 20), v'] [] (R, F, amap A 137 n 20 (by20at x1 x2 x3 x4 x5), P) := by
      intro s0 hs
      rw [B113_72, J136_0, Option.bind_some, J136_1, Option.bind_some, if_neg (by decide)]
      simp only [hF]
      rw [nI_add, pk_rem (by omega) (by omega) (by omega), pk_mul, pk_sub (by omega), bys _ (by omega), hs, ← by20_at _ _ _ _ _ k (by omega), aS rfl _ _ (show n + k < 1000 by omega), Option.bind_some, nI_add]
      simp only
      rw [amap_s]
      exact ih (k + 1) _ (by omega)
    rw [B113_19, if_neg (nI_ge (by omega) (by omega)), B113_26, iL (by omega) (by omega)]
    by_cases h4 : k < 4
    · rw [if_neg (by omega), B113_32]; exact h72 _ (by simp [h4])
    · rw [if_pos (by omega), B113_36, iL (by omega) (by omega)]
      by_cases h8 : k < 8
      · rw [if_neg (by omega), B113_43]; exact h72 _ (by simp [h4, h8])
      · rw [if_pos (by omega), B113_47, iL (by omega) (by omega)]
        by_cases h12 : k < 12
        · rw [if_neg (by omega), B113_54]; exact h72 _ (by simp [h4, h8, h12])
        · rw [if_pos (by omega), B113_58, iL (by omega) (by omega)]
          by_cases h16 : k < 16
          · rw [if_neg (by omega), B113_65]; exact h72 _ (by simp [h4, h8, h12, h16])
          · rw [if_pos (by omega), B113_70]; exact h72 _ (by simp [h4, h8, h12, h16])
theorem m_feed {L d : Nat} {z : zS} {n : Nat} (hF : z.2.1 136 1 = nI n) (hl : n ≤ 1000) (x1 x2 x3 x4 x5 : Int32) : zden L (d + 1) 113 [.ref 136, .int x1, .int x2, .int x3, .int x4, .int x5] z = if n + 20 ≤ 1000 then some (nI (n + 20), (z.1, zup z.2.1 136 1 (nI (n + 20)), amap z.2.2.1 137 n 20 (by20at x1 x2 x3 x4 x5), z.2.2.2)) else some (-2, z) := by
  rw [N113 _ _ _ _ _ _ ob136, B113_0, J136_1, Option.bind_some, hF, nI_add, iL (by omega) (by omega)]
  by_cases hc : n + 20 ≤ 1000
  · rw [if_pos hc, if_pos hc, B113_16]
    obtain ⟨R, F, A, P⟩ := z
    obtain ⟨v', e⟩ := m_feed_loop (L := L) (d := d) (x1 := x1) (x2 := x2) (x3 := x3) (x4 := x4) (x5 := x5) hc (R := R) (F := F) (A := A) (P := P) hF 20 0 .null (by omega)
    rw [amap_0] at e
    rw [e, B113_109, J136_1, Option.bind_some, K136_1, Option.bind_some, J136_1, Option.bind_some]
    simp only at hF
    simp only [zup_s, hF, nI_add]
  · rw [if_neg hc, if_neg hc, B113_13]
theorem m_cut {L d : Nat} {z : zS} {n : Nat} (hF : z.2.1 136 1 = nI n) (x : Int32) : zden L (d + 1) 114 [.ref 136, .int x] z = if x < nI 0 then some (-1, z) else if x ≤ nI n then some (nI n, (z.1, zup z.2.1 136 1 x, z.2.2)) else some (-1, z) := by
  rw [N114 _ _ ob136, B114_0]
  split
  · rw [B114_12]
  · rw [B114_4, J136_1, Option.bind_some, hF]
    split
    · rw [B114_14, J136_1, Option.bind_some, K136_1, Option.bind_some, hF]
    · rw [B114_12]
