/-! THE CLASS'S TEXT: a word sign, another sign, a tag -/
/-- beginWord -/
def cNew (T : CT) (p : Nat) : CT :=
  (va_up (va_up (va_up (va_up (va_up (va_up (va_up (va_up T.1
    9 (if (T.1 1).length ≠ 0 ∧ (T.2 12 ≠ 0 ∨ T.2 13 ≠ 0) then T.1 9 ++ [T.2 15] else T.1 9))
    8 (if (T.1 1).length = 0 ∨ T.2 12 ≠ 0 ∨ T.2 13 ≠ 0 then T.1 8 ++ [(T.1 1).length] else T.1 8))
    3 (T.1 3 ++ [if (T.1 1).length = 0 then 0 else (T.1 3).getD ((T.1 3).length - 1) 0 + (if T.2 12 ≠ 0 then 11 else 1)]))
    4 (T.1 4 ++ [(if (T.1 1).length = 0 ∨ T.2 12 ≠ 0 ∨ T.2 13 ≠ 0 then T.1 8 ++ [(T.1 1).length] else T.1 8).length - 1]))
    1 (T.1 1 ++ [p]))
    2 (T.1 2 ++ [p]))
    6 (T.1 6 ++ [(T.1 5).length]))
    7 (T.1 7 ++ [0]),
  va_up (va_up (va_up T.2 11 1) 12 0) 13 0)
/-- what a text being read keeps, at the place p -/
def WfT (p : Nat) (T : CT) : Prop :=
  (T.1 1).length ≤ 300 ∧ (T.1 2).length = (T.1 1).length ∧ (T.1 3).length = (T.1 1).length ∧ (T.1 4).length = (T.1 1).length ∧ (T.1 6).length = (T.1 1).length ∧ (T.1 7).length = (T.1 1).length ∧ (T.1 5).length ≤ p ∧ (T.1 8).length ≤ (T.1 1).length ∧ (T.1 9).length + 1 ≤ (T.1 8).length + 1 ∧ ((T.1 1).length ≠ 0 → (T.1 9).length + 1 = (T.1 8).length) ∧ (T.1 10).length ≤ 8 ∧ (∀ o ∈ T.1 10, o < p) ∧ T.2 11 ≤ 1 ∧ T.2 12 ≤ 1 ∧ T.2 13 ≤ 1 ∧ T.2 14 ≤ 1 ∧ (T.2 11 ≠ 0 → (T.1 1).length ≠ 0)
section
variable {L d : Nat} {z : zS} {t : Nat} {T : CT}
theorem c85_tail (h : isT t) {p : Nat} (a1 : (T.1 1).length < 300) (a2 : (T.1 2).length < 300) (a3 : (T.1 3).length < 300) (a4 : (T.1 4).length < 300) (a6 : (T.1 6).length < 300) (a7 : (T.1 7).length < 300) (a8 : 1 ≤ (T.1 8).length) {x2 x3 : Int32} {s : Nat} :
    xruns (O2 L) (zden L (d + 2)) 85 106 [.ref t, .int (nI p), .int x2, .int x3] [.int (nI s), .ref (t + 7)] (putT z t T) = some (0, putT z t
  (va_up (va_up (va_up (va_up (va_up (va_up T.1
    3 (T.1 3 ++ [s]))
    4 (T.1 4 ++ [(T.1 8).length - 1]))
    1 (T.1 1 ++ [p]))
    2 (T.1 2 ++ [p]))
    6 (T.1 6 ++ [(T.1 5).length]))
    7 (T.1 7 ++ [0]),
  va_up (va_up (va_up T.2 11 1) 12 0) 13 0)) := by
  simp (disch := first | omega | (simp (disch := omega) only [vs, vn, List.length_append, List.length_cons, List.length_nil, List.length_set]; omega)) only [B85_106, R6_0 h, R6_1 h, R6_2 h, R6_3 h, R6_4 h, R6_5 h, R6_6 h, R6_7 h, R6_8 h, R6_9 h, R6_10 h, T11r h, T12r h, T13r h, T14r h, T15r h, T11p h, T12p h, T13p h, T14p h, T15p h, T0s h, T1s h, T2s h, T3s h, T4s h, T5s h, T6s h, T7s h, T8s h, T9s h, T10s h, T0g h, T1g h, T2g h, T3g h, T4g h, T5g h, T6g h, T7g h, T8g h, T9g h, T10g h, T2w h, T7w h, T1a h, T2a h, T3a h, T4a h, T5a h, T6a h, T7a h, T8a h, T9a h, T10a h, T1c h, T2c h, T3c h, T4c h, T5c h, T6c h, T7c h, T8c h, T9c h, T10c h, Option.bind_some, iO0, iO1, nI_add, List.length_map, true_or, or_true, if_true, ↓reduceIte, Nat.reduceEqDiff, Nat.reduceLeDiff, Nat.reduceLT, Nat.reduceAdd, Nat.reduceSub, vs, vn, c75 h, pk_sub]
theorem zlast {l : List Nat} (h0 : 0 < l.length) (hl : l.length < 2 ^ 31) : zget (l.map nI) (nI l.length - 1) = nI (l.getD (l.length - 1) 0) := by
  rw [show (1 : Int32) = nI 1 from rfl, pk_sub h0, zget_map (by omega) hl]
theorem T3l (h : isT t) (h0 : 0 < (T.1 3).length) (hl : (T.1 3).length < 2 ^ 31) : zden L (d + 2) 57 [.ref (t + 7)] (putT z t T) = some (nI ((T.1 3).getD ((T.1 3).length - 1) 0), putT z t T) := by
  rw [N57 (W6_3 h).1, gT3, List.length_map, zlast h0 hl]
theorem T10l (h : isT t) (h0 : 0 < (T.1 10).length) (hl : (T.1 10).length < 2 ^ 31) : zden L (d + 2) 57 [.ref (t + 22)] (putT z t T) = some (nI ((T.1 10).getD ((T.1 10).length - 1) 0), putT z t T) := by
  rw [N57 (W5_0 (isG_of h)).1, gT10, List.length_map, zlast h0 hl]
theorem T10k (h : isT t) (n : Nat) (hn : n < (T.1 10).length) (hl : (T.1 10).length < 2 ^ 31) : zden L (d + 1) 62 [.ref (t + 22), .int (nI n)] (putT z t T) = some (0, putT z t (va_up T.1 10 ((T.1 10).take n), T.2)) := by
  rw [N62 (W5_0 (isG_of h)).1, gT10, zkeep_map hn hl, sT10]
theorem c85 (h : isT t) {p : Nat} (w : WfT p T) (hn : (T.1 1).length < 300) : zden L (d + 3) 85 [.ref t, .int (nI p)] (putT z t T) = some (0, putT z t (cNew T p)) := by
  obtain ⟨w1, w2, w3, w4, w6, w7, w5, w8, w9, w9', w10, wo, w11, w12, w13, w14, w15⟩ := w
  by_cases e1 : (T.1 1).length = 0 <;> by_cases e2 : T.2 12 = 0 <;> by_cases e3 : T.2 13 = 0 <;>
  (rw [N85 _ _ (obT h)]
   repeat ((first | rw [B85_0] | rw [B85_7] | rw [B85_11] | rw [B85_12] | rw [B85_17] | rw [B85_24] | rw [B85_31] | rw [B85_42] | rw [B85_46] | rw [B85_53] | rw [B85_60] | rw [B85_71] | rw [B85_78] | rw [B85_83] | rw [B85_84] | rw [B85_93] | rw [B85_97] | rw [B85_106]); (try simp (disch := first | omega | (simp (disch := omega) only [vs, vn, List.length_append, List.length_cons, List.length_nil, List.length_set]; omega)) only [R6_0 h, R6_1 h, R6_2 h, R6_3 h, R6_4 h, R6_5 h, R6_6 h, R6_7 h, R6_8 h, R6_9 h, R6_10 h, T11r h, T12r h, T13r h, T14r h, T15r h, T11p h, T12p h, T13p h, T14p h, T15p h, T0s h, T1s h, T2s h, T3s h, T4s h, T5s h, T6s h, T7s h, T8s h, T9s h, T10s h, T0g h, T1g h, T2g h, T3g h, T4g h, T5g h, T6g h, T7g h, T8g h, T9g h, T10g h, T2w h, T7w h, T1a h, T2a h, T3a h, T4a h, T5a h, T6a h, T7a h, T8a h, T9a h, T10a h, T1c h, T2c h, T3c h, T4c h, T5c h, T6c h, T7c h, T8c h, T9c h, T10c h, Option.bind_some, iO0, iO1, nI_add, List.length_map, true_or, or_true, if_true, ↓reduceIte, Nat.reduceEqDiff, Nat.reduceLeDiff, Nat.reduceLT, Nat.reduceAdd, Nat.reduceSub, vs, vn, c74 h, c75 h, T3l h, iE, e1, e2, e3, pk_sub]))
   simp (disch := first | omega | (simp (disch := omega) only [vs, vn, List.length_append, List.length_cons, List.length_nil, List.length_set]; omega)) only [cNew, not_true, not_false_iff, ne_eq, true_and, false_and, and_false, and_true, or_false, false_or, or_true, true_or, if_true, if_false, ↓reduceIte, e1, e2, e3, vs, vn, vi])
end
