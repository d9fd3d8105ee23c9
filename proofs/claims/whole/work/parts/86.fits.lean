/-! EVALUATION: words and terms -/
/-- how many of the first n are as p asks, from the first on -/
def lead (p : Nat → Bool) : Nat → Nat
  | 0 => 0
  | n + 1 => if lead p n = n ∧ p n = true then n + 1 else lead p n
theorem lead_le (p : Nat → Bool) (n : Nat) : lead p n ≤ n := by
  induction n with
  | zero => exact Nat.le_refl _
  | succ n ih =>
    unfold lead
    split
    · exact Nat.le_refl _
    · omega
theorem lead_at {p : Nat → Bool} {n i : Nat} (h : i < lead p n) : p i = true := by
  induction n with
  | zero => exact absurd h (by unfold lead; omega)
  | succ n ih =>
    unfold lead at h
    split at h
    · rename_i q
      by_cases e : i = n
      · rw [e]; exact q.2
      · exact ih (by omega)
    · exact ih h
theorem lead_end {p : Nat → Bool} {n : Nat} (h : lead p n < n) : p (lead p n) = false := by
  induction n with
  | zero => exact absurd h (by omega)
  | succ n ih =>
    unfold lead at h ⊢
    split at h
    · omega
    · rename_i q
      rw [if_neg q]
      by_cases e : lead p n = n
      · have : ¬ p n = true := fun r => q ⟨e, r⟩
        rw [e]
        simpa using this
      · have := lead_le p n
        exact ih (by omega)
theorem lead_eq {p : Nat → Bool} {n m : Nat} (hm : m ≤ n) (h1 : ∀ i, i < m → p i = true) (h2 : m < n → p m = false) : lead p n = m := by
  have a := lead_le p n
  rcases Nat.lt_trichotomy (lead p n) m with h | h | h
  · have := lead_end (p := p) (n := n) (by omega)
    rw [h1 _ h] at this
    cases this
  · exact h
  · have := lead_at h
    rw [h2 (by omega)] at this
    cases this
def ahd (T Q : CT) (w e : Nat) : Nat := lead (fun i => decide ((T.1 5).getD ((T.1 6).getD w 0 + i) 0 = (Q.1 0).getD ((Q.1 1).getD e 0 + i) 0)) (min ((T.1 7).getD w 0) ((Q.1 2).getD e 0))
def bhd (T Q : CT) (w e n : Nat) : Nat := lead (fun i => decide ((T.1 5).getD ((T.1 6).getD w 0 + (T.1 7).getD w 0 - 1 - i) 0 = (Q.1 0).getD ((Q.1 1).getD e 0 + (Q.1 2).getD e 0 - 1 - i) 0)) n
def fitB (T Q : CT) (w e : Nat) : Bool :=
  if (Q.1 3).getD e 0 = 2 then decide (max ((T.1 7).getD w 0) ((Q.1 2).getD e 0) - min ((T.1 7).getD w 0) ((Q.1 2).getD e 0) ≤ 1) && decide (max ((T.1 7).getD w 0) ((Q.1 2).getD e 0) - ahd T Q w e - bhd T Q w e (min ((T.1 7).getD w 0) ((Q.1 2).getD e 0) - ahd T Q w e) ≤ 1)
  else (if (Q.1 3).getD e 0 = 1 then decide ((Q.1 2).getD e 0 ≤ (T.1 7).getD w 0) else decide ((T.1 7).getD w 0 = (Q.1 2).getD e 0)) && decide (ahd T Q w e = (Q.1 2).getD e 0)
/-- a word of a text is as it should be -/
def TW (T : CT) (w : Nat) : Prop := w < (T.1 6).length ∧ w < (T.1 7).length ∧ (T.1 6).getD w 0 + (T.1 7).getD w 0 ≤ (T.1 5).length ∧ 1 ≤ (T.1 7).getD w 0 ∧ (∀ i, i < (T.1 7).getD w 0 → (T.1 5).getD ((T.1 6).getD w 0 + i) 0 < 256)
def TL (T : CT) : Prop := (T.1 5).length ≤ 1000 ∧ (T.1 6).length ≤ 300 ∧ (T.1 7).length ≤ 300
/-- a term of a query -/
def QE (Q : CT) (e : Nat) : Prop := e < (Q.1 1).length ∧ e < (Q.1 2).length ∧ e < (Q.1 3).length ∧ (Q.1 1).getD e 0 + (Q.1 2).getD e 0 ≤ (Q.1 0).length ∧ 1 ≤ (Q.1 2).getD e 0 ∧ (Q.1 3).getD e 0 ≤ 2
def QL (Q : CT) : Prop := BB (Q.1 0) ∧ (Q.1 1).length ≤ 72 ∧ (Q.1 2).length ≤ 72 ∧ (Q.1 3).length ≤ 72
section
variable {L d : Nat} {z : zS} {M T Q : CT} {t q w e : Nat}
theorem getD_lt {Q : CT} (h : BB (Q.1 0)) (i : Nat) : (Q.1 0).getD i 0 < 256 := by
  by_cases q : i < (Q.1 0).length
  · rw [gD q]; exact h.1 _ (List.getElem_mem _)
  · rw [gDn (by omega)]; omega
theorem x15 (h : RO z t q T Q) (tl : TL T) (ql : QL Q) (tw : TW T w) (qe : QE Q e) : zden L (d + 2) 15 [.ref 4, .int (nI w), .int (nI e)] (putM z M) = some (nI (ahd T Q w e), putM z M) := by
  obtain ⟨w6, w7, w5, w1, wb⟩ := tw
  obtain ⟨e1, e2, e3, e0, e4, e5⟩ := qe
  obtain ⟨l5, l6, l7⟩ := tl
  obtain ⟨q0, q1, q2, q3⟩ := ql
  have q02 := q0.2
  have key : ∀ (r i : Nat), i + r = min ((T.1 7).getD w 0) ((Q.1 2).getD e 0) → (∀ j, j < i → (T.1 5).getD ((T.1 6).getD w 0 + j) 0 = (Q.1 0).getD ((Q.1 1).getD e 0 + j) 0) → xruns (O2 L) (zden L (d + 1)) 15 55 [.ref 4, .int (nI w), .int (nI e), .int (nI (min ((T.1 7).getD w 0) ((Q.1 2).getD e 0))), .int (nI ((T.1 6).getD w 0)), .int (nI ((Q.1 1).getD e 0)), .int (nI i)] [] (putM z M) = some (nI (ahd T Q w e), putM z M) := by
    intro r
    induction r with
    | zero =>
      intro i hi hj
      have : ahd T Q w e = i := lead_eq (by omega) (fun j q => decide_eq_true (hj j q)) (fun q => by omega)
      rw [B15_55, iL (by omega) (by omega), if_pos (by omega), B15_100, this]
    | succ r ih =>
      intro i hi hj
      have c1 := wb i (by omega)
      have c2 := getD_lt q0 ((Q.1 1).getD e 0 + i)
      rw [B15_55, iL (by omega) (by omega), if_neg (by omega), B15_61, XP0 h, Option.bind_some, R6_5 h.1, Option.bind_some, nI_add, XT5g h, Option.bind_some, zget_map (by omega) (by omega), XP1 h, Option.bind_some, R3_0 h.2.1, Option.bind_some, nI_add, XQ0g h, Option.bind_some, zget_map (by omega) (by omega), iE (by omega) (by omega)]
      by_cases c : (T.1 5).getD ((T.1 6).getD w 0 + i) 0 = (Q.1 0).getD ((Q.1 1).getD e 0 + i) 0
      · rw [if_pos c, B15_94, nI_add]
        exact ih (i + 1) (by omega) (fun j hj' => by
          by_cases q : j = i
          · rw [q]; exact c
          · exact hj j (by omega))
      · have : ahd T Q w e = i := lead_eq (by omega) (fun j q => decide_eq_true (hj j q)) (fun q => decide_eq_false c)
        rw [if_neg c, B15_100, this]
  rw [N15 _ _ _ ob4, B15_0, XP0 h, Option.bind_some, R6_7 h.1, Option.bind_some, XT7g h, Option.bind_some, zget_map w7 (by omega), XP1 h, Option.bind_some, R3_2 h.2.1, Option.bind_some, XQ2g h, Option.bind_some, zget_map e2 (by omega), XP0 h, Option.bind_some, R6_6 h.1, Option.bind_some, XT6g h, Option.bind_some, zget_map w6 (by omega), XP1 h, Option.bind_some, R3_1 h.2.1, Option.bind_some, XQ1g h, Option.bind_some, zget_map e1 (by omega), iT (by omega) (by omega)]
  have em : (if (Q.1 2).getD e 0 < (T.1 7).getD w 0 then nI ((Q.1 2).getD e 0) else nI ((T.1 7).getD w 0)) = nI (min ((T.1 7).getD w 0) ((Q.1 2).getD e 0)) := by
    split
    · rw [show min ((T.1 7).getD w 0) ((Q.1 2).getD e 0) = (Q.1 2).getD e 0 by omega]
    · rw [show min ((T.1 7).getD w 0) ((Q.1 2).getD e 0) = (T.1 7).getD w 0 by omega]
  rw [em]
  exact key (min ((T.1 7).getD w 0) ((Q.1 2).getD e 0)) 0 (by omega) (fun j q => by omega)
theorem x16 (h : RO z t q T Q) (tl : TL T) (ql : QL Q) (tw : TW T w) (qe : QE Q e) {n : Nat} (hn : n ≤ min ((T.1 7).getD w 0) ((Q.1 2).getD e 0)) : zden L (d + 2) 16 [.ref 4, .int (nI w), .int (nI e), .int (nI n)] (putM z M) = some (nI (bhd T Q w e n), putM z M) := by
  obtain ⟨w6, w7, w5, w1, wb⟩ := tw
  obtain ⟨e1, e2, e3, e0, e4, e5⟩ := qe
  obtain ⟨l5, l6, l7⟩ := tl
  obtain ⟨q0, q1, q2, q3⟩ := ql
  have q02 := q0.2
  have key : ∀ (r i : Nat), i + r = n → (∀ j, j < i → (T.1 5).getD ((T.1 6).getD w 0 + (T.1 7).getD w 0 - 1 - j) 0 = (Q.1 0).getD ((Q.1 1).getD e 0 + (Q.1 2).getD e 0 - 1 - j) 0) → xruns (O2 L) (zden L (d + 1)) 16 57 [.ref 4, .int (nI w), .int (nI e), .int (nI n), .int (nI ((T.1 6).getD w 0 + (T.1 7).getD w 0 - 1)), .int (nI ((Q.1 1).getD e 0 + (Q.1 2).getD e 0 - 1)), .int (nI i)] [] (putM z M) = some (nI (bhd T Q w e n), putM z M) := by
    intro r
    induction r with
    | zero =>
      intro i hi hj
      have : bhd T Q w e n = i := lead_eq (by omega) (fun j q => decide_eq_true (hj j q)) (fun q => by omega)
      rw [B16_57, iL (by omega) (by omega), if_pos (by omega), B16_102, this]
    | succ r ih =>
      intro i hi hj
      have c1 : (T.1 5).getD ((T.1 6).getD w 0 + (T.1 7).getD w 0 - 1 - i) 0 < 256 := by
        have := wb ((T.1 7).getD w 0 - 1 - i) (by omega)
        rwa [show (T.1 6).getD w 0 + ((T.1 7).getD w 0 - 1 - i) = (T.1 6).getD w 0 + (T.1 7).getD w 0 - 1 - i by omega] at this
      have c2 := getD_lt q0 ((Q.1 1).getD e 0 + (Q.1 2).getD e 0 - 1 - i)
      rw [B16_57, iL (by omega) (by omega), if_neg (by omega), B16_63, XP0 h, Option.bind_some, R6_5 h.1, Option.bind_some, pk_sub (by omega), XT5g h, Option.bind_some, zget_map (by omega) (by omega), XP1 h, Option.bind_some, R3_0 h.2.1, Option.bind_some, pk_sub (by omega), XQ0g h, Option.bind_some, zget_map (by omega) (by omega), iE (by omega) (by omega)]
      by_cases c : (T.1 5).getD ((T.1 6).getD w 0 + (T.1 7).getD w 0 - 1 - i) 0 = (Q.1 0).getD ((Q.1 1).getD e 0 + (Q.1 2).getD e 0 - 1 - i) 0
      · rw [if_pos c, B16_96, nI_add]
        exact ih (i + 1) (by omega) (fun j hj' => by
          by_cases q : j = i
          · rw [q]; exact c
          · exact hj j (by omega))
      · have : bhd T Q w e n = i := lead_eq (by omega) (fun j q => decide_eq_true (hj j q)) (fun q => decide_eq_false c)
        rw [if_neg c, B16_102, this]
  rw [N16 _ _ _ _ ob4, B16_0, XP0 h, Option.bind_some, R6_6 h.1, Option.bind_some, XT6g h, Option.bind_some, zget_map w6 (by omega), XP0 h, Option.bind_some, R6_7 h.1, Option.bind_some, XT7g h, Option.bind_some, zget_map w7 (by omega), XP1 h, Option.bind_some, R3_1 h.2.1, Option.bind_some, XQ1g h, Option.bind_some, zget_map e1 (by omega), XP1 h, Option.bind_some, R3_2 h.2.1, Option.bind_some, XQ2g h, Option.bind_some, zget_map e2 (by omega), nI_add, pk_sub (by omega), nI_add, pk_sub (by omega)]
  exact key n 0 (by omega) (fun j q => by omega)
theorem x14 (h : RO z t q T Q) (tl : TL T) (ql : QL Q) (tw : TW T w) (qe : QE Q e) : zden L (d + 3) 14 [.ref 4, .int (nI w), .int (nI e), .int (nI (min ((T.1 7).getD w 0) ((Q.1 2).getD e 0))), .int (nI (max ((T.1 7).getD w 0) ((Q.1 2).getD e 0)))] (putM z M) = some (bI (decide (max ((T.1 7).getD w 0) ((Q.1 2).getD e 0) - min ((T.1 7).getD w 0) ((Q.1 2).getD e 0) ≤ 1) && decide (max ((T.1 7).getD w 0) ((Q.1 2).getD e 0) - ahd T Q w e - bhd T Q w e (min ((T.1 7).getD w 0) ((Q.1 2).getD e 0) - ahd T Q w e) ≤ 1)), putM z M) := by
  have a1 : ahd T Q w e ≤ min ((T.1 7).getD w 0) ((Q.1 2).getD e 0) := lead_le _ _
  have a2 : bhd T Q w e (min ((T.1 7).getD w 0) ((Q.1 2).getD e 0) - ahd T Q w e) ≤ min ((T.1 7).getD w 0) ((Q.1 2).getD e 0) - ahd T Q w e := lead_le _ _
  have b1 := tw.2.2.1
  have b2 := qe.2.2.2.1
  have b3 := tl.1
  have b4 := ql.1.2
  rw [N14 _ _ _ _ _ ob4, B14_0, pk_sub (by omega), iL (by omega) (by omega)]
  by_cases c1 : max ((T.1 7).getD w 0) ((Q.1 2).getD e 0) - min ((T.1 7).getD w 0) ((Q.1 2).getD e 0) ≤ 1
  · rw [if_pos c1, B14_10, x15 h tl ql tw qe, Option.bind_some]
    show ((zden L (d + 2) 16 [.ref 4, .int (nI w), .int (nI e), .int (nI (min ((T.1 7).getD w 0) ((Q.1 2).getD e 0)) - nI (ahd T Q w e))] (putM z M)).bind _) = _
    rw [pk_sub a1, x16 h tl ql tw qe (by omega), Option.bind_some]
    show (if nI 1 < nI (max ((T.1 7).getD w 0) ((Q.1 2).getD e 0)) - nI (ahd T Q w e) - nI (bhd T Q w e (min ((T.1 7).getD w 0) ((Q.1 2).getD e 0) - ahd T Q w e)) then _ else _) = _
    rw [pk_sub (by omega), pk_sub (by omega), iT (by omega) (by omega), decide_eq_true c1, Bool.true_and]
    by_cases c2 : max ((T.1 7).getD w 0) ((Q.1 2).getD e 0) - ahd T Q w e - bhd T Q w e (min ((T.1 7).getD w 0) ((Q.1 2).getD e 0) - ahd T Q w e) ≤ 1
    · rw [if_neg (by omega), B14_38, B14_43, iO1, decide_eq_true c2]; rfl
    · rw [if_pos (by omega), B14_42, B14_43, iO0, decide_eq_false c2]; rfl
  · rw [if_neg c1, B14_8, iO0, decide_eq_false c1]; rfl
theorem x13 (h : RO z t q T Q) (tl : TL T) (ql : QL Q) (tw : TW T w) (qe : QE Q e) : zden L (d + 4) 13 [.ref 4, .int (nI w), .int (nI e)] (putM z M) = some (bI (fitB T Q w e), putM z M) := by
  have a1 : ahd T Q w e ≤ min ((T.1 7).getD w 0) ((Q.1 2).getD e 0) := lead_le _ _
  have b1 := tw.2.2.1
  have b2 := qe.2.2.2.1
  have b3 := tl.1
  have b4 := ql.1.2
  have b5 := qe.2.2.2.2.2
  have l6 := tl.2.1
  have l7 := tl.2.2
  have q1 := ql.2.1
  have q2 := ql.2.2.1
  have q3 := ql.2.2.2
  rw [N13 _ _ _ ob4, B13_0, XP0 h, Option.bind_some, R6_7 h.1, Option.bind_some, XT7g h, Option.bind_some, zget_map tw.2.1 (by omega), XP1 h, Option.bind_some, R3_2 h.2.1, Option.bind_some, XQ2g h, Option.bind_some, zget_map qe.2.1 (by omega), XP1 h, Option.bind_some, R3_3 h.2.1, Option.bind_some, XQ3g h, Option.bind_some, zget_map qe.2.2.1 (by omega), iE (by omega) (by omega)]
  unfold fitB
  by_cases k2 : (Q.1 3).getD e 0 = 2
  · have em : (if nI ((Q.1 2).getD e 0) < nI ((T.1 7).getD w 0) then nI ((Q.1 2).getD e 0) else nI ((T.1 7).getD w 0)) = nI (min ((T.1 7).getD w 0) ((Q.1 2).getD e 0)) := by
      rw [iT (by omega) (by omega)]
      split
      · rw [show min ((T.1 7).getD w 0) ((Q.1 2).getD e 0) = (Q.1 2).getD e 0 by omega]
      · rw [show min ((T.1 7).getD w 0) ((Q.1 2).getD e 0) = (T.1 7).getD w 0 by omega]
    have eM : (if nI ((T.1 7).getD w 0) < nI ((Q.1 2).getD e 0) then nI ((Q.1 2).getD e 0) else nI ((T.1 7).getD w 0)) = nI (max ((T.1 7).getD w 0) ((Q.1 2).getD e 0)) := by
      rw [iT (by omega) (by omega)]
      split
      · rw [show max ((T.1 7).getD w 0) ((Q.1 2).getD e 0) = (Q.1 2).getD e 0 by omega]
      · rw [show max ((T.1 7).getD w 0) ((Q.1 2).getD e 0) = (T.1 7).getD w 0 by omega]
    rw [if_pos k2, if_pos k2, B13_44, em, eM, x14 h tl ql tw qe, Option.bind_some, iBO]
  · rw [if_neg k2, if_neg k2, B13_63, iE (by omega) (by omega)]
    have e94 : ∀ (b : Bool) (v6 : Value), xruns (O2 L) (zden L (d + 3)) 13 94 [.ref 4, .int (nI w), .int (nI e), .int (nI ((T.1 7).getD w 0)), .int (nI ((Q.1 2).getD e 0)), .int (nI ((Q.1 3).getD e 0)), v6] [.int (bI b)] (putM z M) = some (bI (b && decide (ahd T Q w e = (Q.1 2).getD e 0)), putM z M) := by
      intro b v6
      rw [B13_94, iB]
      cases b with
      | false => rw [if_neg (by decide), B13_116, B13_117, iO0]; rfl
      | true =>
        rw [if_pos rfl, B13_101, x15 h tl ql tw qe, Option.bind_some, iE (by omega) (by omega), Bool.true_and]
        by_cases c : ahd T Q w e = (Q.1 2).getD e 0
        · rw [if_pos c, B13_112, B13_117, iO1, decide_eq_true c]; rfl
        · rw [if_neg c, B13_116, B13_117, iO0, decide_eq_false c]; rfl
    by_cases k1 : (Q.1 3).getD e 0 = 1
    · rw [if_pos k1, if_pos k1, B13_69, iT (by omega) (by omega)]
      by_cases c : (Q.1 2).getD e 0 ≤ (T.1 7).getD w 0
      · rw [if_neg (by omega), B13_75, decide_eq_true c]
        exact e94 true _
      · rw [if_pos (by omega), B13_79, decide_eq_false c]
        exact e94 false _
    · rw [if_neg k1, if_neg k1, B13_83, iE (by omega) (by omega)]
      by_cases c : (T.1 7).getD w 0 = (Q.1 2).getD e 0
      · rw [if_pos c, B13_89, decide_eq_true c]
        exact e94 true _
      · rw [if_neg c, B13_93, decide_eq_false c]
        exact e94 false _
end
