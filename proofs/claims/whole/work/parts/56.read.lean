/-! THE CLASS'S TEXT: a tag, any step, the reading -/
theorem opT_len (bs : List Nat) (p : Nat) (op : List Nat) (h : op.length ≤ 8) : (opT bs p op).2.length ≤ 8 := by
  unfold opT
  split
  · split
    · exact h
    · split
      · simp only [List.length_take]; omega
      · exact h
  · split
    · simp only [List.length_append, List.length_cons, List.length_nil]; omega
    · exact h
theorem opT_mem {bs : List Nat} {p : Nat} {op : List Nat} (h : ∀ o ∈ op, o < p) : ∀ o ∈ (opT bs p op).2, o < p + 1 := by
  intro o
  unfold opT
  split
  · split
    · intro q; have := h o q; omega
    · split
      · intro q; have := h o (List.mem_of_mem_take q); omega
      · intro q; have := h o q; omega
  · split
    · intro q
      rcases List.mem_append.mp q with q | q
      · have := h o q; omega
      · have := List.mem_singleton.mp q; omega
    · intro q; have := h o q; omega
theorem opT_false {bs : List Nat} {p : Nat} {op : List Nat} (h : (opT bs p op).1 = false) : (opT bs p op).2 = op := by
  unfold opT at h ⊢
  split
  · rename_i e
    rw [if_pos e] at h
    split
    · rfl
    · rename_i e2
      rw [if_neg e2] at h
      split
      · rename_i e3
        rw [if_pos e3] at h
        cases h
      · rfl
  · rename_i e
    rw [if_neg e] at h
    split
    · rename_i e2
      rw [if_pos e2] at h
      cases h
    · rfl
section
variable {L d : Nat} {z : zS} {t : Nat} {T : CT} {bs : List Nat} {p : Nat}
theorem c56s {a c : Nat} (ha : zrow a = true) (hz : z.1 a = bs.map nI) (hb : BB bs) {i : Nat} (hc : bs[i]? = some c) : zden L (d + 1) 56 [.ref a, .int (nI i)] z = some (nI c, z) := by
  obtain ⟨h1, _⟩ := List.getElem?_eq_some_iff.mp hc
  rw [c56 ha hz hb (by have := hb.2; omega), hc]
  rfl
theorem c81 (h : isT t) (hz : T.1 0 = bs) (hb : BB bs) (w : WfT p T) (hp : p < 1000) : zden L (d + 4) 81 [.ref t, .int (nI p)] (putT z t T) = if tagB bs p = true ∧ (opT bs p (T.1 10)).1 = true then some (nI (tagL bs p), putT z t (cTag T (opT bs p (T.1 10)).2 (isBr bs p))) else some (nI 0, putT z t T) := by
  obtain ⟨w1, w2, w3, w4, w6, w7, w5, w8, w9, w9', w10, wo, w11, w12, w13, w14, w15⟩ := w
  have hz' : (putT z t T).1 (t + 1) = bs.map nI := by rw [gT0, hz]
  have hf := fst1_le bs p
  have hl : tagL bs p ≤ 1100 := by
    unfold tagL
    split
    · rename_i q
      unfold tagB at q
      simp only [Bool.and_eq_true, decide_eq_true_eq] at q
      omega
    · omega
  rw [N81 _ _ (obT h), B81_0, R6_0 h, Option.bind_some, c68 (W6_0 h).1 hz' hb (by omega), Option.bind_some, iE (by omega) (by omega)]
  by_cases e1 : tagB bs p = true
  · have e1' : tagL bs p ≠ 0 := by
      unfold tagL
      rw [if_pos e1]
      omega
    rw [if_neg e1', B81_13, R6_10 h, Option.bind_some, R6_0 h, Option.bind_some, c70 (g := t + 21) (isG_of h) (W6_0 h).1 hz' hb (op := T.1 10) gT10 w10 (fun o q => by have := wo o q; omega) (by omega), Option.bind_some, iB]
    show (if (opT bs p (T.1 10)).1 = true then xruns (O2 L) (zden L (d + 3)) 81 30 _ [] (zrs (putT z t T) (t + 22) _) else xruns (O2 L) (zden L (d + 3)) 81 28 _ [] (zrs (putT z t T) (t + 22) _)) = _
    rw [sT10]
    by_cases e2 : (opT bs p (T.1 10)).1 = true
    · rw [if_pos e2, if_pos ⟨e1, e2⟩, B81_30, R6_0 h, Option.bind_some, c69 (bs := bs) (W6_0 h).1 (by rw [gT0, ← hz]; rfl) hb (by omega), Option.bind_some, iB]
      unfold cTag
      by_cases e3 : isBr bs p = true
      · rw [if_pos e3, if_pos e3, B81_41]
        simp only [T11r h, T12r h, T13r h, T14r h, T15r h, T11p h, T12p h, T13p h, T14p h, T15p h, Option.bind_some, iO0, iO1, nI_add, List.length_map, true_or, or_true, if_true, ↓reduceIte, Nat.reduceEqDiff, Nat.reduceLeDiff, Nat.reduceLT, Nat.reduceAdd, Nat.reduceSub, B81_51]
      · rw [if_neg e3, if_neg e3, B81_51]
    · rw [if_neg e2, if_neg (fun q => e2 q.2), B81_28, opT_false (by simpa using e2), vi]
  · have e1' : tagL bs p = 0 := by
      unfold tagL
      rw [if_neg e1]
    rw [if_pos e1', B81_28, if_neg (fun q => e1 q.1)]
theorem c80 (h : isT t) (hz : T.1 0 = bs) (hb : BB bs) (w : WfT p T) (hp : p < bs.length) : zden L (d + 5) 80 [.ref t, .int (nI p)] (putT z t T) = match cStep bs p T with
    | some (n, T') => some (nI n, putT z t T')
    | none => some (nI 0, putT z t T) := by
  have hb2 := hb.2
  have hz' : (putT z t T).1 (t + 1) = bs.map nI := by rw [gT0, hz]
  obtain ⟨c, hc⟩ : ∃ c, bs[p]? = some c := ⟨_, List.getElem?_eq_getElem hp⟩
  have c256 := hb.at hc
  rw [N80 _ _ (obT h), B80_0, R6_0 h, Option.bind_some, c56s (W6_0 h).1 hz' hb hc, Option.bind_some]
  unfold cStep
  rw [hc]
  simp only
  rw [iT (by omega) (by omega)]
  by_cases e1 : c < 32
  · rw [if_pos e1, B80_21, if_pos (Or.inl e1)]
  · rw [if_neg e1, B80_15, iL (by omega) (by omega)]
    by_cases e2 : c ≤ 126
    · rw [if_pos e2, if_neg (by omega), B80_23, iE (by omega) (by omega)]
      by_cases e3 : c = 60
      · rw [if_pos e3, if_pos e3, B80_29, c81 h hz hb w (by omega)]
        split <;> rfl
      · rw [if_neg e3, if_neg e3, B80_35, show nI c = oz (some c) from rfl, c107 (fun k q => by cases q; exact c256), Option.bind_some, iB]
        show (if isWd c = true then xruns (O2 L) (zden L (d + 4)) 80 42 [.ref t, .int (nI p), .int (nI c), .null] [] (putT z t T) else xruns (O2 L) (zden L (d + 4)) 80 60 [.ref t, .int (nI p), .int (nI c), .null] [] (putT z t T)) = _
        by_cases e4 : isWd c = true
        · rw [if_pos e4, if_pos e4, B80_42, c104 c256, Option.bind_some, c84 h w (by omega)]
          split
          · rw [Option.bind_some]
            simp only [Option.bind_some, iO0, iO1, nI_add, List.length_map, true_or, or_true, if_true, ↓reduceIte, Nat.reduceEqDiff, Nat.reduceLeDiff, Nat.reduceLT, Nat.reduceAdd, Nat.reduceSub, B80_58, B80_59]
          · rw [Option.bind_some]
            simp (disch := omega) only [Option.bind_some, iO0, iO1, nI_add, List.length_map, true_or, or_true, if_true, ↓reduceIte, Nat.reduceEqDiff, Nat.reduceLeDiff, Nat.reduceLT, Nat.reduceAdd, Nat.reduceSub, iE, B80_54, B80_59]
        · rw [if_neg e4, if_neg e4, B80_60, iE (by omega) (by omega)]
          by_cases e5 : c = 38
          · subst e5
            have hn : nameL bs p ≤ 5 := by
              unfold nameL
              split
              · omega
              · split <;> omega
            rw [if_pos rfl, if_pos rfl, B80_66, c82 h hz hb (by omega), Option.bind_some, B80_75, iL (by omega) (by omega)]
            by_cases e6 : nameL bs p = 0
            · rw [if_pos (by omega), if_pos e6, B80_88, e6]
            · rw [if_neg (by omega), if_neg e6, B80_80, nI_add, c83 h (by omega) w, Option.bind_some, B80_88]
          · rw [if_neg e5, if_neg e5, B80_74, B80_75, iL (by omega) (by omega), if_neg (by omega), B80_80, nI_add, c83 h c256 w, Option.bind_some, B80_88]
    · rw [if_neg e2, B80_21, if_pos (Or.inr (by omega))]
end
