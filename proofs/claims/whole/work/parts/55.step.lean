/-! THE CLASS'S TEXT: one step -/
def cAdd (T : CT) (p c : Nat) : CT :=
  (va_up (va_up (va_up T.1 5 (T.1 5 ++ [c])) 7 ((T.1 7).set ((T.1 1).length - 1) ((T.1 7).getD ((T.1 1).length - 1) 0 + 1))) 2 ((T.1 2).set ((T.1 1).length - 1) (p + 1)), va_up (va_up T.2 15 (p + 1)) 14 0)
def cWord (T : CT) (p c : Nat) : CT := cAdd (if T.2 11 = 0 then cNew T p else T) p c
def cOther (T : CT) (c e : Nat) : CT :=
  (T.1, if c = 32 then va_up (va_up (va_up T.2 11 0) 13 (if T.2 13 ≠ 0 ∨ T.2 14 ≠ 0 then 1 else 0)) 14 0
    else va_up (va_up (va_up T.2 11 0) 15 e) 14 (if c = 46 ∨ c = 33 ∨ c = 63 then 1 else 0))
def nameL (bs : List Nat) (p : Nat) : Nat :=
  if (bs[p + 1]? = some 108 ∨ bs[p + 1]? = some 103) ∧ bs[p + 2]? = some 116 ∧ bs[p + 3]? = some 59 then 4
  else if bs[p + 1]? = some 97 ∧ bs[p + 2]? = some 109 ∧ bs[p + 3]? = some 112 ∧ bs[p + 4]? = some 59 then 5 else 0
def lastO (op : List Nat) : Nat := op.getD (op.length - 1) 0
def opT (bs : List Nat) (p : Nat) (op : List Nat) : Bool × List Nat :=
  if bs[p + 1]? = some 47 then (if op.length = 0 then (false, op) else if sameL bs (lastO op) p 9 0 = true then (true, op.take (op.length - 1)) else (false, op))
  else if op.length < 8 then (true, op ++ [p]) else (false, op)
def cTag (T : CT) (op : List Nat) (br : Bool) : CT := (va_up T.1 10 op, if br = true then va_up (va_up T.2 12 1) 11 0 else T.2)
def cStep (bs : List Nat) (p : Nat) (T : CT) : Option (Nat × CT) := match bs[p]? with
  | none => none
  | some c => if c < 32 ∨ 126 < c then none
    else if c = 60 then (if tagB bs p = true ∧ (opT bs p (T.1 10)).1 = true then some (tagL bs p, cTag T (opT bs p (T.1 10)).2 (isBr bs p)) else none)
    else if isWd c = true then (if T.2 11 = 0 ∧ 300 ≤ (T.1 1).length then none else some (1, cWord T p (lo c)))
    else if c = 38 then (if nameL bs p = 0 then none else some (nameL bs p, cOther T 38 (p + nameL bs p)))
    else some (1, cOther T c (p + 1))
theorem gD {l : List Nat} {i : Nat} (h : i < l.length) : l.getD i 0 = l[i] := by simp [List.getD, h]
theorem gDo {l : List Nat} {i k : Nat} (h : l[i]? = some k) : l.getD i 0 = k := by simp [List.getD, h]
theorem gDn {l : List Nat} {i : Nat} (h : l.length ≤ i) : l.getD i 0 = 0 := by simp [List.getD, h]
theorem ozs (k : Nat) : oz (some k) = nI k := rfl
section
variable {L d : Nat} {z : zS} {t : Nat} {T : CT} {bs : List Nat} {p : Nat}
theorem c84_31 (h : isT t) {c : Nat} (a1 : (T.1 1).length ≠ 0) (a2 : (T.1 2).length = (T.1 1).length) (a7 : (T.1 7).length = (T.1 1).length) (a5 : (T.1 5).length < 1000) (a0 : (T.1 1).length ≤ 300) {v : Value} : xruns (O2 L) (zden L (d + 2)) 84 31 [.ref t, .int (nI p), .int (nI c), v] [] (putT z t T) = some (nI 1, putT z t (cAdd T p c)) := by
  rw [B84_31]
  simp (disch := first | omega | (simp (disch := omega) only [vs, vn, List.length_append, List.length_cons, List.length_nil, List.length_set]; omega)) only [R6_0 h, R6_1 h, R6_2 h, R6_3 h, R6_4 h, R6_5 h, R6_6 h, R6_7 h, R6_8 h, R6_9 h, R6_10 h, T11r h, T12r h, T13r h, T14r h, T15r h, T11p h, T12p h, T13p h, T14p h, T15p h, T0s h, T1s h, T2s h, T3s h, T4s h, T5s h, T6s h, T7s h, T8s h, T9s h, T10s h, T0g h, T1g h, T2g h, T3g h, T4g h, T5g h, T6g h, T7g h, T8g h, T9g h, T10g h, T2w h, T7w h, T1a h, T2a h, T3a h, T4a h, T5a h, T6a h, T7a h, T8a h, T9a h, T10a h, T1c h, T2c h, T3c h, T4c h, T5c h, T6c h, T7c h, T8c h, T9c h, T10c h, Option.bind_some, iO0, iO1, nI_add, List.length_map, true_or, or_true, if_true, ↓reduceIte, Nat.reduceEqDiff, Nat.reduceLeDiff, Nat.reduceLT, Nat.reduceAdd, Nat.reduceSub, vs, vn, c74 h, pk_sub, zget_map, cAdd]
theorem c84 (h : isT t) {c : Nat} (w : WfT p T) (hp : p < 1000) : zden L (d + 4) 84 [.ref t, .int (nI p), .int (nI c)] (putT z t T) = if T.2 11 = 0 ∧ 300 ≤ (T.1 1).length then some (nI 0, putT z t T) else some (nI 1, putT z t (cWord T p c)) := by
  have w0 := w
  obtain ⟨w1, w2, w3, w4, w6, w7, w5, w8, w9, w9', w10, wo, w11, w12, w13, w14, w15⟩ := w
  rw [N84 _ _ _ (obT h)]
  unfold cWord
  by_cases e1 : T.2 11 = 0
  · by_cases e2 : 300 ≤ (T.1 1).length
    · rw [if_pos ⟨e1, e2⟩]
      repeat ((first | rw [B84_0] | rw [B84_7] | rw [B84_17] | rw [B84_19] | rw [B84_26]); (try simp (disch := first | omega | (simp (disch := omega) only [vs, vn, List.length_append, List.length_cons, List.length_nil, List.length_set]; omega)) only [T11r h, T12r h, T13r h, T14r h, T15r h, T11p h, T12p h, T13p h, T14p h, T15p h, Option.bind_some, iO0, iO1, nI_add, List.length_map, true_or, or_true, if_true, ↓reduceIte, Nat.reduceEqDiff, Nat.reduceLeDiff, Nat.reduceLT, Nat.reduceAdd, Nat.reduceSub, c74 h, e1, iT, Nat.not_lt.mpr e2]))
    · rw [if_neg (fun q => e2 q.2), if_pos e1]
      rw [B84_0]
      simp (disch := first | omega | (simp (disch := omega) only [vs, vn, List.length_append, List.length_cons, List.length_nil, List.length_set]; omega)) only [T11r h, T12r h, T13r h, T14r h, T15r h, T11p h, T12p h, T13p h, T14p h, T15p h, Option.bind_some, iO0, iO1, nI_add, List.length_map, true_or, or_true, if_true, ↓reduceIte, Nat.reduceEqDiff, Nat.reduceLeDiff, Nat.reduceLT, Nat.reduceAdd, Nat.reduceSub, e1]
      rw [B84_7]
      simp (disch := first | omega | (simp (disch := omega) only [vs, vn, List.length_append, List.length_cons, List.length_nil, List.length_set]; omega)) only [c74 h, Option.bind_some, iO0, iO1, nI_add, List.length_map, true_or, or_true, if_true, ↓reduceIte, Nat.reduceEqDiff, Nat.reduceLeDiff, Nat.reduceLT, Nat.reduceAdd, Nat.reduceSub, iT, Nat.not_le.mp e2]
      rw [B84_19]
      simp (disch := first | omega | (simp (disch := omega) only [vs, vn, List.length_append, List.length_cons, List.length_nil, List.length_set]; omega)) only [T11r h, T12r h, T13r h, T14r h, T15r h, T11p h, T12p h, T13p h, T14p h, T15p h, Option.bind_some, iO0, iO1, nI_add, List.length_map, true_or, or_true, if_true, ↓reduceIte, Nat.reduceEqDiff, Nat.reduceLeDiff, Nat.reduceLT, Nat.reduceAdd, Nat.reduceSub, e1]
      rw [B84_26, c85 h w0 (by omega), Option.bind_some]
      have l : ∀ k, k = 1 ∨ k = 2 ∨ k = 7 → ((cNew T p).1 k).length = (T.1 1).length + 1 := by
        intro k hk
        rcases hk with rfl | rfl | rfl <;> simp [cNew, va_up] <;> omega
      have l5 : (cNew T p).1 5 = T.1 5 := by simp [cNew, va_up]
      have a1 := l 1 (by omega)
      have a2 := l 2 (by omega)
      have a7 := l 7 (by omega)
      exact c84_31 h (by omega) (by omega) (by omega) (by rw [l5]; omega) (by omega)
  · rw [if_neg (fun q => e1 q.1), if_neg e1, B84_0]
    simp (disch := first | omega | (simp (disch := omega) only [vs, vn, List.length_append, List.length_cons, List.length_nil, List.length_set]; omega)) only [T11r h, T12r h, T13r h, T14r h, T15r h, T11p h, T12p h, T13p h, T14p h, T15p h, Option.bind_some, iO0, iO1, nI_add, List.length_map, true_or, or_true, if_true, ↓reduceIte, Nat.reduceEqDiff, Nat.reduceLeDiff, Nat.reduceLT, Nat.reduceAdd, Nat.reduceSub, iE, e1]
    rw [B84_19]
    simp (disch := first | omega | (simp (disch := omega) only [vs, vn, List.length_append, List.length_cons, List.length_nil, List.length_set]; omega)) only [T11r h, T12r h, T13r h, T14r h, T15r h, T11p h, T12p h, T13p h, T14p h, T15p h, Option.bind_some, iO0, iO1, nI_add, List.length_map, true_or, or_true, if_true, ↓reduceIte, Nat.reduceEqDiff, Nat.reduceLeDiff, Nat.reduceLT, Nat.reduceAdd, Nat.reduceSub, iE, e1]
    exact c84_31 h (w15 e1) w2 w7 (by omega) w1
theorem c83 (h : isT t) {c e : Nat} (hc : c < 256) (w : WfT p T) : zden L (d + 1) 83 [.ref t, .int (nI c), .int (nI e)] (putT z t T) = some (0, putT z t (cOther T c e)) := by
  obtain ⟨w1, w2, w3, w4, w6, w7, w5, w8, w9, w9', w10, wo, w11, w12, w13, w14, w15⟩ := w
  rw [N83 _ _ _ (obT h)]
  unfold cOther
  by_cases e1 : c = 32
  · subst e1
    by_cases e2 : T.2 13 = 0 <;> by_cases e3 : T.2 14 = 0 <;>
    (repeat ((first | rw [B83_0] | rw [B83_11] | rw [B83_19] | rw [B83_26] | rw [B83_30] | rw [B83_31] | rw [B83_37] | rw [B83_42] | rw [B83_49] | rw [B83_55] | rw [B83_61] | rw [B83_65] | rw [B83_66]); (try simp (disch := first | omega | (simp (disch := omega) only [vs, vn, List.length_append, List.length_cons, List.length_nil, List.length_set]; omega)) only [T11r h, T12r h, T13r h, T14r h, T15r h, T11p h, T12p h, T13p h, T14p h, T15p h, Option.bind_some, iO0, iO1, nI_add, List.length_map, true_or, or_true, if_true, ↓reduceIte, Nat.reduceEqDiff, Nat.reduceLeDiff, Nat.reduceLT, Nat.reduceAdd, Nat.reduceSub, iE, vs, vn, e2, e3]))
     simp only [e2, e3, not_true, not_false_iff, ne_eq, true_and, false_and, and_false, and_true, or_false, false_or, or_true, true_or, if_true, if_false, ↓reduceIte])
  · by_cases e2 : c = 46
    · subst e2
      repeat ((first | rw [B83_0] | rw [B83_11] | rw [B83_19] | rw [B83_26] | rw [B83_30] | rw [B83_31] | rw [B83_37] | rw [B83_42] | rw [B83_49] | rw [B83_55] | rw [B83_61] | rw [B83_65] | rw [B83_66]); (try simp (disch := first | omega | (simp (disch := omega) only [vs, vn, List.length_append, List.length_cons, List.length_nil, List.length_set]; omega)) only [T11r h, T12r h, T13r h, T14r h, T15r h, T11p h, T12p h, T13p h, T14p h, T15p h, Option.bind_some, iO0, iO1, nI_add, List.length_map, true_or, or_true, if_true, ↓reduceIte, Nat.reduceEqDiff, Nat.reduceLeDiff, Nat.reduceLT, Nat.reduceAdd, Nat.reduceSub, iE, vs, vn]))
    · by_cases e3 : c = 33
      · subst e3
        repeat ((first | rw [B83_0] | rw [B83_11] | rw [B83_19] | rw [B83_26] | rw [B83_30] | rw [B83_31] | rw [B83_37] | rw [B83_42] | rw [B83_49] | rw [B83_55] | rw [B83_61] | rw [B83_65] | rw [B83_66]); (try simp (disch := first | omega | (simp (disch := omega) only [vs, vn, List.length_append, List.length_cons, List.length_nil, List.length_set]; omega)) only [T11r h, T12r h, T13r h, T14r h, T15r h, T11p h, T12p h, T13p h, T14p h, T15p h, Option.bind_some, iO0, iO1, nI_add, List.length_map, true_or, or_true, if_true, ↓reduceIte, Nat.reduceEqDiff, Nat.reduceLeDiff, Nat.reduceLT, Nat.reduceAdd, Nat.reduceSub, iE, vs, vn]))
      · by_cases e4 : c = 63
        · subst e4
          repeat ((first | rw [B83_0] | rw [B83_11] | rw [B83_19] | rw [B83_26] | rw [B83_30] | rw [B83_31] | rw [B83_37] | rw [B83_42] | rw [B83_49] | rw [B83_55] | rw [B83_61] | rw [B83_65] | rw [B83_66]); (try simp (disch := first | omega | (simp (disch := omega) only [vs, vn, List.length_append, List.length_cons, List.length_nil, List.length_set]; omega)) only [T11r h, T12r h, T13r h, T14r h, T15r h, T11p h, T12p h, T13p h, T14p h, T15p h, Option.bind_some, iO0, iO1, nI_add, List.length_map, true_or, or_true, if_true, ↓reduceIte, Nat.reduceEqDiff, Nat.reduceLeDiff, Nat.reduceLT, Nat.reduceAdd, Nat.reduceSub, iE, vs, vn]))
        · repeat ((first | rw [B83_0] | rw [B83_11] | rw [B83_19] | rw [B83_26] | rw [B83_30] | rw [B83_31] | rw [B83_37] | rw [B83_42] | rw [B83_49] | rw [B83_55] | rw [B83_61] | rw [B83_65] | rw [B83_66]); (try simp (disch := first | omega | (simp (disch := omega) only [vs, vn, List.length_append, List.length_cons, List.length_nil, List.length_set]; omega)) only [T11r h, T12r h, T13r h, T14r h, T15r h, T11p h, T12p h, T13p h, T14p h, T15p h, Option.bind_some, iO0, iO1, nI_add, List.length_map, true_or, or_true, if_true, ↓reduceIte, Nat.reduceEqDiff, Nat.reduceLeDiff, Nat.reduceLT, Nat.reduceAdd, Nat.reduceSub, iE, vs, vn, e1, e2, e3, e4]))
          simp only [e1, e2, e3, e4, not_true, not_false_iff, ne_eq, true_and, false_and, and_false, and_true, or_false, false_or, or_true, true_or, if_true, if_false, ↓reduceIte]
theorem c82 (h : isT t) (hz : T.1 0 = bs) (hb : BB bs) (hp : p ≤ 5000) : zden L (d + 2) 82 [.ref t, .int (nI p)] (putT z t T) = some (nI (nameL bs p), putT z t T) := by
  have g : ∀ i, i < 2 ^ 31 → zden L (d + 1) 56 [.ref (t + 1), .int (nI i)] (putT z t T) = some (oz bs[i]?, putT z t T) := fun i hi => c56 (W6_0 h).1 (by rw [gT0, hz]) hb hi
  rw [N82 _ _ (obT h)]
  unfold nameL
  have z1 : ∀ {i c : Nat}, c < 256 → (oz bs[i]? = nI c ↔ bs[i]? = some c) := fun hc => oz_eq (fun k => hb.at) (by omega)
  by_cases e1 : bs[p + 1]? = some 108
  · by_cases e2 : bs[p + 2]? = some 116 <;> by_cases e3 : bs[p + 3]? = some 59 <;>
    (repeat ((first | rw [B82_0] | rw [B82_40] | rw [B82_46] | rw [B82_52] | rw [B82_59] | rw [B82_61] | rw [B82_67] | rw [B82_73] | rw [B82_80] | rw [B82_95] | rw [B82_99] | rw [B82_100] | rw [B82_107] | rw [B82_111] | rw [B82_112]); (try simp (disch := first | omega | (simp (disch := omega) only [vs, vn, List.length_append, List.length_cons, List.length_nil, List.length_set]; omega)) only [R6_0 h, R6_1 h, R6_2 h, R6_3 h, R6_4 h, R6_5 h, R6_6 h, R6_7 h, R6_8 h, R6_9 h, R6_10 h, Option.bind_some, iO0, iO1, nI_add, List.length_map, true_or, or_true, if_true, ↓reduceIte, Nat.reduceEqDiff, Nat.reduceLeDiff, Nat.reduceLT, Nat.reduceAdd, Nat.reduceSub, g, z1, iE, e1, e2, e3, Option.some.injEq, ozs]))
     simp only [not_true, not_false_iff, ne_eq, true_and, false_and, and_false, and_true, or_false, false_or, or_true, true_or, if_true, if_false, ↓reduceIte, Nat.reduceEqDiff, Option.some.injEq])
  · by_cases e1' : bs[p + 1]? = some 103
    · by_cases e2 : bs[p + 2]? = some 116 <;> by_cases e3 : bs[p + 3]? = some 59 <;>
      (repeat ((first | rw [B82_0] | rw [B82_40] | rw [B82_46] | rw [B82_52] | rw [B82_59] | rw [B82_61] | rw [B82_67] | rw [B82_73] | rw [B82_80] | rw [B82_95] | rw [B82_99] | rw [B82_100] | rw [B82_107] | rw [B82_111] | rw [B82_112]); (try simp (disch := first | omega | (simp (disch := omega) only [vs, vn, List.length_append, List.length_cons, List.length_nil, List.length_set]; omega)) only [R6_0 h, R6_1 h, R6_2 h, R6_3 h, R6_4 h, R6_5 h, R6_6 h, R6_7 h, R6_8 h, R6_9 h, R6_10 h, Option.bind_some, iO0, iO1, nI_add, List.length_map, true_or, or_true, if_true, ↓reduceIte, Nat.reduceEqDiff, Nat.reduceLeDiff, Nat.reduceLT, Nat.reduceAdd, Nat.reduceSub, g, z1, iE, e1', e2, e3, Option.some.injEq, ozs]))
       simp only [not_true, not_false_iff, ne_eq, true_and, false_and, and_false, and_true, or_false, false_or, or_true, true_or, if_true, if_false, ↓reduceIte, Nat.reduceEqDiff, Option.some.injEq])
    · by_cases e1'' : bs[p + 1]? = some 97
      · by_cases e2 : bs[p + 2]? = some 109
        · by_cases e3 : bs[p + 3]? = some 112 <;> by_cases e4 : bs[p + 4]? = some 59 <;>
          (repeat ((first | rw [B82_0] | rw [B82_40] | rw [B82_46] | rw [B82_52] | rw [B82_59] | rw [B82_61] | rw [B82_67] | rw [B82_73] | rw [B82_80] | rw [B82_95] | rw [B82_99] | rw [B82_100] | rw [B82_107] | rw [B82_111] | rw [B82_112]); (try simp (disch := first | omega | (simp (disch := omega) only [vs, vn, List.length_append, List.length_cons, List.length_nil, List.length_set]; omega)) only [R6_0 h, R6_1 h, R6_2 h, R6_3 h, R6_4 h, R6_5 h, R6_6 h, R6_7 h, R6_8 h, R6_9 h, R6_10 h, Option.bind_some, iO0, iO1, nI_add, List.length_map, true_or, or_true, if_true, ↓reduceIte, Nat.reduceEqDiff, Nat.reduceLeDiff, Nat.reduceLT, Nat.reduceAdd, Nat.reduceSub, g, z1, iE, e1'', e2, e3, e4, Option.some.injEq, ozs]))
           simp only [not_true, not_false_iff, ne_eq, true_and, false_and, and_false, and_true, or_false, false_or, or_true, true_or, if_true, if_false, ↓reduceIte, Nat.reduceEqDiff, Option.some.injEq])
        · repeat ((first | rw [B82_0] | rw [B82_40] | rw [B82_46] | rw [B82_52] | rw [B82_59] | rw [B82_61] | rw [B82_67] | rw [B82_73] | rw [B82_80] | rw [B82_95] | rw [B82_99] | rw [B82_100] | rw [B82_107] | rw [B82_111] | rw [B82_112]); (try simp (disch := first | omega | (simp (disch := omega) only [vs, vn, List.length_append, List.length_cons, List.length_nil, List.length_set]; omega)) only [R6_0 h, R6_1 h, R6_2 h, R6_3 h, R6_4 h, R6_5 h, R6_6 h, R6_7 h, R6_8 h, R6_9 h, R6_10 h, Option.bind_some, iO0, iO1, nI_add, List.length_map, true_or, or_true, if_true, ↓reduceIte, Nat.reduceEqDiff, Nat.reduceLeDiff, Nat.reduceLT, Nat.reduceAdd, Nat.reduceSub, g, z1, iE, e1'', e2, Option.some.injEq, ozs]))
          simp only [e2, not_true, not_false_iff, ne_eq, true_and, false_and, and_false, and_true, or_false, false_or, or_true, true_or, if_true, if_false, ↓reduceIte, Nat.reduceEqDiff, Option.some.injEq]
      · repeat ((first | rw [B82_0] | rw [B82_40] | rw [B82_46] | rw [B82_52] | rw [B82_59] | rw [B82_61] | rw [B82_67] | rw [B82_73] | rw [B82_80] | rw [B82_95] | rw [B82_99] | rw [B82_100] | rw [B82_107] | rw [B82_111] | rw [B82_112]); (try simp (disch := first | omega | (simp (disch := omega) only [vs, vn, List.length_append, List.length_cons, List.length_nil, List.length_set]; omega)) only [R6_0 h, R6_1 h, R6_2 h, R6_3 h, R6_4 h, R6_5 h, R6_6 h, R6_7 h, R6_8 h, R6_9 h, R6_10 h, Option.bind_some, iO0, iO1, nI_add, List.length_map, true_or, or_true, if_true, ↓reduceIte, Nat.reduceEqDiff, Nat.reduceLeDiff, Nat.reduceLT, Nat.reduceAdd, Nat.reduceSub, g, z1, iE, e1, e1', e1'', Option.some.injEq, ozs]))
        simp only [e1, e1', e1'', not_true, not_false_iff, ne_eq, true_and, false_and, and_false, and_true, or_false, false_or, or_true, true_or, if_true, if_false, ↓reduceIte, Nat.reduceEqDiff, Option.some.injEq]
theorem c70 {g a : Nat} (hg : isG g) (ha : zrow a = true) (hz : z.1 a = bs.map nI) (hb : BB bs) {op : List Nat} (ho : z.1 (g + 1) = op.map nI) (hl : op.length ≤ 8) (hm : ∀ o ∈ op, o < 1000) (hp : p ≤ 5000) : zden L (d + 3) 70 [.ref g, .ref a, .int (nI p)] z = some (bI (opT bs p op).1, zrs z (g + 1) ((opT bs p op).2.map nI)) := by
  rw [N70 _ _ _ (obG hg), B70_0, nI_add, c56 ha hz hb (by omega), Option.bind_some, iZ hb (by omega)]
  unfold opT
  by_cases e1 : bs[p + 1]? = some 47
  · have hlo : op.length ≠ 0 → op.getD (op.length - 1) 0 ≤ 5000 := by
      intro q
      have := hm (op.getD (op.length - 1) 0) (by rw [gD (by omega)]; exact List.getElem_mem _)
      omega
    rw [if_pos e1, if_pos e1, B70_40, R5_0 hg, Option.bind_some, N55 (W5_0 hg).1, Option.bind_some, ho, List.length_map, iE (by omega) (by omega)]
    by_cases e2 : op.length = 0
    · rw [if_pos e2, if_pos e2, B70_65, iO0, show op.map nI = z.1 (g + 1) from ho.symm, zrs_self]; rfl
    · rw [if_neg e2, if_neg e2, B70_50, R5_0 hg, Option.bind_some, N57 (W5_0 hg).1, Option.bind_some, ho, List.length_map, zlast (by omega) (by omega), c72 ha hz hb (hlo e2) hp, Option.bind_some, iB]
      show (if sameL bs (lastO op) p 9 0 = true then _ else _) = _
      by_cases e3 : sameL bs (lastO op) p 9 0 = true
      · rw [if_pos e3, if_pos e3, B70_67, R5_0 hg, Option.bind_some, Option.bind_some, N55 (W5_0 hg).1, Option.bind_some, ho, List.length_map, pk_sub (by omega), N62 (W5_0 hg).1, Option.bind_some, iO1, ho, zkeep_map (by omega) (by omega)]
        rfl
      · rw [if_neg e3, if_neg e3, B70_65, iO0, show op.map nI = z.1 (g + 1) from ho.symm, zrs_self]; rfl
  · rw [if_neg e1, if_neg e1, B70_12, R5_0 hg, Option.bind_some, N55 (W5_0 hg).1, Option.bind_some, ho, List.length_map, iL (by omega) (by omega)]
    by_cases e2 : op.length < 8
    · rw [if_neg (by omega), if_pos e2, B70_24, B70_29, R5_0 hg, Option.bind_some, N61 (W5_0 hg).1, Option.bind_some, iO1, ho, (W5_0 hg).2, zadd_map e2]; rfl
    · rw [if_pos (by omega), if_neg e2, B70_28, B70_29, R5_0 hg, Option.bind_some, N61 (W5_0 hg).1, Option.bind_some, iO0, ho, (W5_0 hg).2]
      unfold zadd
      rw [List.length_map, if_neg e2]; rfl
end
