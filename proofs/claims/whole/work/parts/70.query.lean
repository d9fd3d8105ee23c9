/-! THE CLASS'S QUERY as one value: rows 0 .. 9 (bytes, termStart, termLength, termKind, leafTerm, leafTerms, leafRoom, nodeKind, nodeParent, nodeLeaf), fields 10 at, 11 current, 12 depth, 13 wantsOne. Written by wip/whole/mkQ.py -/
def putQ (z : zS) (t : Nat) (T : CT) : zS := (fun a => if t < a ∧ a ≤ t + 19 ∧ (a - t) % 2 = 1 then (T.1 ((a - t) / 2)).map nI else z.1 a, fun a f => if a = t ∧ 10 ≤ f ∧ f ≤ 13 then nI (T.2 f) else z.2.1 a f, z.2.2)
section
variable {z : zS} {t : Nat} {T : CT}
theorem gQk (k : Nat) (hk : k ≤ 9) : (putQ z t T).1 (t + (2 * k + 1)) = (T.1 k).map nI := by
  unfold putQ
  simp only
  rw [if_pos (by omega), show (t + (2 * k + 1) - t) / 2 = k by omega]
theorem gQ0 : (putQ z t T).1 (t + 1) = (T.1 0).map nI := gQk 0 (by omega)
theorem gQ1 : (putQ z t T).1 (t + 3) = (T.1 1).map nI := gQk 1 (by omega)
theorem gQ2 : (putQ z t T).1 (t + 5) = (T.1 2).map nI := gQk 2 (by omega)
theorem gQ3 : (putQ z t T).1 (t + 7) = (T.1 3).map nI := gQk 3 (by omega)
theorem gQ4 : (putQ z t T).1 (t + 9) = (T.1 4).map nI := gQk 4 (by omega)
theorem gQ5 : (putQ z t T).1 (t + 11) = (T.1 5).map nI := gQk 5 (by omega)
theorem gQ6 : (putQ z t T).1 (t + 13) = (T.1 6).map nI := gQk 6 (by omega)
theorem gQ7 : (putQ z t T).1 (t + 15) = (T.1 7).map nI := gQk 7 (by omega)
theorem gQ8 : (putQ z t T).1 (t + 17) = (T.1 8).map nI := gQk 8 (by omega)
theorem gQ9 : (putQ z t T).1 (t + 19) = (T.1 9).map nI := gQk 9 (by omega)
theorem gQf (f : Nat) (h1 : 10 ≤ f) (h2 : f ≤ 13) : (putQ z t T).2.1 t f = nI (T.2 f) := if_pos ⟨rfl, h1, h2⟩
theorem sQk (k : Nat) (hk : k ≤ 9) (l : List Nat) : zrs (putQ z t T) (t + (2 * k + 1)) (l.map nI) = putQ z t (va_up T.1 k l, T.2) := by
  unfold zrs putQ
  refine Prod.ext (funext fun a => ?_) rfl
  show va_up _ _ _ a = _
  unfold va_up
  simp only
  by_cases h : a = t + (2 * k + 1)
  · subst h
    rw [if_pos rfl, if_pos (by omega), if_pos (by omega)]
  · rw [if_neg h]
    by_cases h3 : t < a ∧ a ≤ t + 19 ∧ (a - t) % 2 = 1
    · rw [if_pos h3, if_pos h3, if_neg (by omega)]
    · rw [if_neg h3, if_neg h3]
theorem sQ0 (l : List Nat) : zrs (putQ z t T) (t + 1) (l.map nI) = putQ z t (va_up T.1 0 l, T.2) := sQk 0 (by omega) l
theorem sQ1 (l : List Nat) : zrs (putQ z t T) (t + 3) (l.map nI) = putQ z t (va_up T.1 1 l, T.2) := sQk 1 (by omega) l
theorem sQ2 (l : List Nat) : zrs (putQ z t T) (t + 5) (l.map nI) = putQ z t (va_up T.1 2 l, T.2) := sQk 2 (by omega) l
theorem sQ3 (l : List Nat) : zrs (putQ z t T) (t + 7) (l.map nI) = putQ z t (va_up T.1 3 l, T.2) := sQk 3 (by omega) l
theorem sQ4 (l : List Nat) : zrs (putQ z t T) (t + 9) (l.map nI) = putQ z t (va_up T.1 4 l, T.2) := sQk 4 (by omega) l
theorem sQ5 (l : List Nat) : zrs (putQ z t T) (t + 11) (l.map nI) = putQ z t (va_up T.1 5 l, T.2) := sQk 5 (by omega) l
theorem sQ6 (l : List Nat) : zrs (putQ z t T) (t + 13) (l.map nI) = putQ z t (va_up T.1 6 l, T.2) := sQk 6 (by omega) l
theorem sQ7 (l : List Nat) : zrs (putQ z t T) (t + 15) (l.map nI) = putQ z t (va_up T.1 7 l, T.2) := sQk 7 (by omega) l
theorem sQ8 (l : List Nat) : zrs (putQ z t T) (t + 17) (l.map nI) = putQ z t (va_up T.1 8 l, T.2) := sQk 8 (by omega) l
theorem sQ9 (l : List Nat) : zrs (putQ z t T) (t + 19) (l.map nI) = putQ z t (va_up T.1 9 l, T.2) := sQk 9 (by omega) l
theorem fQf (f : Nat) (h1 : 10 ≤ f) (h2 : f ≤ 13) (x : Nat) : ((putQ z t T).1, zup (putQ z t T).2.1 t f (nI x), (putQ z t T).2.2) = putQ z t (T.1, va_up T.2 f x) := by
  refine Prod.ext rfl (Prod.ext (funext fun a => funext fun g => ?_) rfl)
  unfold zup putQ va_up
  simp only
  by_cases h : a = t ∧ g = f
  · obtain ⟨rfl, rfl⟩ := h
    rw [if_pos ⟨rfl, rfl⟩, if_pos ⟨rfl, h1, h2⟩, if_pos rfl]
  · rw [if_neg h]
    by_cases h3 : a = t ∧ 10 ≤ g ∧ g ≤ 13
    · rw [if_pos h3, if_pos h3, if_neg (fun q => h ⟨h3.1, q⟩)]
    · rw [if_neg h3, if_neg h3]
theorem putQ_congr {T T' : CT} (h1 : ∀ k, k ≤ 9 → T.1 k = T'.1 k) (h2 : ∀ f, 10 ≤ f → f ≤ 13 → T.2 f = T'.2 f) : putQ z t T = putQ z t T' := by
  unfold putQ
  refine Prod.ext (funext fun a => ?_) (Prod.ext (funext fun a => funext fun f => ?_) rfl)
  · simp only
    split
    · rw [h1 _ (by omega)]
    · rfl
  · simp only
    split
    · rw [h2 f (by omega) (by omega)]
    · rfl
theorem putQ_2 (h : isQ t) : (putQ z t T).1 2 = z.1 2 := by
  unfold putQ
  simp only
  rw [if_neg (by rcases h with rfl | rfl <;> omega)]
end
section
variable {L d : Nat} {z : zS} {t : Nat} {T : CT} {β : Type}
theorem Q0s (h : isQ t) : zden L (d + 1) 55 [.ref (t + 1)] (putQ z t T) = some (nI (T.1 0).length, putQ z t T) := by
  rw [N55 (W3_0 h).1, gQ0, List.length_map]
theorem Q0g (h : isQ t) (i : Int32) : zden L (d + 1) 56 [.ref (t + 1), .int i] (putQ z t T) = some (zget ((T.1 0).map nI) i, putQ z t T) := by
  rw [N56 (W3_0 h).1, gQ0]
theorem Q0a (h : isQ t) (v : Nat) (hl : (T.1 0).length < 1000) : zden L (d + 2) 61 [.ref (t + 1), .int (nI v)] (putQ z t T) = some (0, putQ z t (va_up T.1 0 (T.1 0 ++ [v]), T.2)) := by
  rw [N61 (W3_0 h).1, gQ0, (W3_0 h).2, zadd_map hl, sQ0]
theorem Q0c (h : isQ t) : zden L (d + 1) 63 [.ref (t + 1)] (putQ z t T) = some (0, putQ z t (va_up T.1 0 [], T.2)) := by
  rw [N63 (W3_0 h).1, show ([] : List Int32) = ([] : List Nat).map nI from rfl, sQ0]
theorem Q1s (h : isQ t) : zden L (d + 1) 55 [.ref (t + 3)] (putQ z t T) = some (nI (T.1 1).length, putQ z t T) := by
  rw [N55 (W3_1 h).1, gQ1, List.length_map]
theorem Q1g (h : isQ t) (i : Int32) : zden L (d + 1) 56 [.ref (t + 3), .int i] (putQ z t T) = some (zget ((T.1 1).map nI) i, putQ z t T) := by
  rw [N56 (W3_1 h).1, gQ1]
theorem Q1a (h : isQ t) (v : Nat) (hl : (T.1 1).length < 72) : zden L (d + 2) 61 [.ref (t + 3), .int (nI v)] (putQ z t T) = some (0, putQ z t (va_up T.1 1 (T.1 1 ++ [v]), T.2)) := by
  rw [N61 (W3_1 h).1, gQ1, (W3_1 h).2, zadd_map hl, sQ1]
theorem Q1c (h : isQ t) : zden L (d + 1) 63 [.ref (t + 3)] (putQ z t T) = some (0, putQ z t (va_up T.1 1 [], T.2)) := by
  rw [N63 (W3_1 h).1, show ([] : List Int32) = ([] : List Nat).map nI from rfl, sQ1]
theorem Q2s (h : isQ t) : zden L (d + 1) 55 [.ref (t + 5)] (putQ z t T) = some (nI (T.1 2).length, putQ z t T) := by
  rw [N55 (W3_2 h).1, gQ2, List.length_map]
theorem Q2g (h : isQ t) (i : Int32) : zden L (d + 1) 56 [.ref (t + 5), .int i] (putQ z t T) = some (zget ((T.1 2).map nI) i, putQ z t T) := by
  rw [N56 (W3_2 h).1, gQ2]
theorem Q2a (h : isQ t) (v : Nat) (hl : (T.1 2).length < 72) : zden L (d + 2) 61 [.ref (t + 5), .int (nI v)] (putQ z t T) = some (0, putQ z t (va_up T.1 2 (T.1 2 ++ [v]), T.2)) := by
  rw [N61 (W3_2 h).1, gQ2, (W3_2 h).2, zadd_map hl, sQ2]
theorem Q2c (h : isQ t) : zden L (d + 1) 63 [.ref (t + 5)] (putQ z t T) = some (0, putQ z t (va_up T.1 2 [], T.2)) := by
  rw [N63 (W3_2 h).1, show ([] : List Int32) = ([] : List Nat).map nI from rfl, sQ2]
theorem Q3s (h : isQ t) : zden L (d + 1) 55 [.ref (t + 7)] (putQ z t T) = some (nI (T.1 3).length, putQ z t T) := by
  rw [N55 (W3_3 h).1, gQ3, List.length_map]
theorem Q3g (h : isQ t) (i : Int32) : zden L (d + 1) 56 [.ref (t + 7), .int i] (putQ z t T) = some (zget ((T.1 3).map nI) i, putQ z t T) := by
  rw [N56 (W3_3 h).1, gQ3]
theorem Q3a (h : isQ t) (v : Nat) (hl : (T.1 3).length < 72) : zden L (d + 2) 61 [.ref (t + 7), .int (nI v)] (putQ z t T) = some (0, putQ z t (va_up T.1 3 (T.1 3 ++ [v]), T.2)) := by
  rw [N61 (W3_3 h).1, gQ3, (W3_3 h).2, zadd_map hl, sQ3]
theorem Q3c (h : isQ t) : zden L (d + 1) 63 [.ref (t + 7)] (putQ z t T) = some (0, putQ z t (va_up T.1 3 [], T.2)) := by
  rw [N63 (W3_3 h).1, show ([] : List Int32) = ([] : List Nat).map nI from rfl, sQ3]
theorem Q4s (h : isQ t) : zden L (d + 1) 55 [.ref (t + 9)] (putQ z t T) = some (nI (T.1 4).length, putQ z t T) := by
  rw [N55 (W3_4 h).1, gQ4, List.length_map]
theorem Q4g (h : isQ t) (i : Int32) : zden L (d + 1) 56 [.ref (t + 9), .int i] (putQ z t T) = some (zget ((T.1 4).map nI) i, putQ z t T) := by
  rw [N56 (W3_4 h).1, gQ4]
theorem Q4a (h : isQ t) (v : Nat) (hl : (T.1 4).length < 12) : zden L (d + 2) 61 [.ref (t + 9), .int (nI v)] (putQ z t T) = some (0, putQ z t (va_up T.1 4 (T.1 4 ++ [v]), T.2)) := by
  rw [N61 (W3_4 h).1, gQ4, (W3_4 h).2, zadd_map hl, sQ4]
theorem Q4c (h : isQ t) : zden L (d + 1) 63 [.ref (t + 9)] (putQ z t T) = some (0, putQ z t (va_up T.1 4 [], T.2)) := by
  rw [N63 (W3_4 h).1, show ([] : List Int32) = ([] : List Nat).map nI from rfl, sQ4]
theorem Q5s (h : isQ t) : zden L (d + 1) 55 [.ref (t + 11)] (putQ z t T) = some (nI (T.1 5).length, putQ z t T) := by
  rw [N55 (W3_5 h).1, gQ5, List.length_map]
theorem Q5g (h : isQ t) (i : Int32) : zden L (d + 1) 56 [.ref (t + 11), .int i] (putQ z t T) = some (zget ((T.1 5).map nI) i, putQ z t T) := by
  rw [N56 (W3_5 h).1, gQ5]
theorem Q5a (h : isQ t) (v : Nat) (hl : (T.1 5).length < 12) : zden L (d + 2) 61 [.ref (t + 11), .int (nI v)] (putQ z t T) = some (0, putQ z t (va_up T.1 5 (T.1 5 ++ [v]), T.2)) := by
  rw [N61 (W3_5 h).1, gQ5, (W3_5 h).2, zadd_map hl, sQ5]
theorem Q5c (h : isQ t) : zden L (d + 1) 63 [.ref (t + 11)] (putQ z t T) = some (0, putQ z t (va_up T.1 5 [], T.2)) := by
  rw [N63 (W3_5 h).1, show ([] : List Int32) = ([] : List Nat).map nI from rfl, sQ5]
theorem Q6s (h : isQ t) : zden L (d + 1) 55 [.ref (t + 13)] (putQ z t T) = some (nI (T.1 6).length, putQ z t T) := by
  rw [N55 (W3_6 h).1, gQ6, List.length_map]
theorem Q6g (h : isQ t) (i : Int32) : zden L (d + 1) 56 [.ref (t + 13), .int i] (putQ z t T) = some (zget ((T.1 6).map nI) i, putQ z t T) := by
  rw [N56 (W3_6 h).1, gQ6]
theorem Q6a (h : isQ t) (v : Nat) (hl : (T.1 6).length < 12) : zden L (d + 2) 61 [.ref (t + 13), .int (nI v)] (putQ z t T) = some (0, putQ z t (va_up T.1 6 (T.1 6 ++ [v]), T.2)) := by
  rw [N61 (W3_6 h).1, gQ6, (W3_6 h).2, zadd_map hl, sQ6]
theorem Q6c (h : isQ t) : zden L (d + 1) 63 [.ref (t + 13)] (putQ z t T) = some (0, putQ z t (va_up T.1 6 [], T.2)) := by
  rw [N63 (W3_6 h).1, show ([] : List Int32) = ([] : List Nat).map nI from rfl, sQ6]
theorem Q7s (h : isQ t) : zden L (d + 1) 55 [.ref (t + 15)] (putQ z t T) = some (nI (T.1 7).length, putQ z t T) := by
  rw [N55 (W3_7 h).1, gQ7, List.length_map]
theorem Q7g (h : isQ t) (i : Int32) : zden L (d + 1) 56 [.ref (t + 15), .int i] (putQ z t T) = some (zget ((T.1 7).map nI) i, putQ z t T) := by
  rw [N56 (W3_7 h).1, gQ7]
theorem Q7a (h : isQ t) (v : Nat) (hl : (T.1 7).length < 400) : zden L (d + 2) 61 [.ref (t + 15), .int (nI v)] (putQ z t T) = some (0, putQ z t (va_up T.1 7 (T.1 7 ++ [v]), T.2)) := by
  rw [N61 (W3_7 h).1, gQ7, (W3_7 h).2, zadd_map hl, sQ7]
theorem Q7c (h : isQ t) : zden L (d + 1) 63 [.ref (t + 15)] (putQ z t T) = some (0, putQ z t (va_up T.1 7 [], T.2)) := by
  rw [N63 (W3_7 h).1, show ([] : List Int32) = ([] : List Nat).map nI from rfl, sQ7]
theorem Q8s (h : isQ t) : zden L (d + 1) 55 [.ref (t + 17)] (putQ z t T) = some (nI (T.1 8).length, putQ z t T) := by
  rw [N55 (W3_8 h).1, gQ8, List.length_map]
theorem Q8g (h : isQ t) (i : Int32) : zden L (d + 1) 56 [.ref (t + 17), .int i] (putQ z t T) = some (zget ((T.1 8).map nI) i, putQ z t T) := by
  rw [N56 (W3_8 h).1, gQ8]
theorem Q8a (h : isQ t) (v : Nat) (hl : (T.1 8).length < 400) : zden L (d + 2) 61 [.ref (t + 17), .int (nI v)] (putQ z t T) = some (0, putQ z t (va_up T.1 8 (T.1 8 ++ [v]), T.2)) := by
  rw [N61 (W3_8 h).1, gQ8, (W3_8 h).2, zadd_map hl, sQ8]
theorem Q8c (h : isQ t) : zden L (d + 1) 63 [.ref (t + 17)] (putQ z t T) = some (0, putQ z t (va_up T.1 8 [], T.2)) := by
  rw [N63 (W3_8 h).1, show ([] : List Int32) = ([] : List Nat).map nI from rfl, sQ8]
theorem Q9s (h : isQ t) : zden L (d + 1) 55 [.ref (t + 19)] (putQ z t T) = some (nI (T.1 9).length, putQ z t T) := by
  rw [N55 (W3_9 h).1, gQ9, List.length_map]
theorem Q9g (h : isQ t) (i : Int32) : zden L (d + 1) 56 [.ref (t + 19), .int i] (putQ z t T) = some (zget ((T.1 9).map nI) i, putQ z t T) := by
  rw [N56 (W3_9 h).1, gQ9]
theorem Q9a (h : isQ t) (v : Nat) (hl : (T.1 9).length < 400) : zden L (d + 2) 61 [.ref (t + 19), .int (nI v)] (putQ z t T) = some (0, putQ z t (va_up T.1 9 (T.1 9 ++ [v]), T.2)) := by
  rw [N61 (W3_9 h).1, gQ9, (W3_9 h).2, zadd_map hl, sQ9]
theorem Q9c (h : isQ t) : zden L (d + 1) 63 [.ref (t + 19)] (putQ z t T) = some (0, putQ z t (va_up T.1 9 [], T.2)) := by
  rw [N63 (W3_9 h).1, show ([] : List Int32) = ([] : List Nat).map nI from rfl, sQ9]
theorem Q10r (h : isQ t) : (O2 L).1 (putQ z t T) t 3 10 = some (nI (T.2 10)) := by
  rw [I3_10 h, gQf 10 (by omega) (by omega)]
theorem Q10p (h : isQ t) (x : Nat) : (O2 L).2.2.1 (putQ z t T) t 3 10 (.int (nI x)) = some (putQ z t (T.1, va_up T.2 10 x)) := by
  rw [P3_10 h, fQf 10 (by omega) (by omega)]
theorem Q11r (h : isQ t) : (O2 L).1 (putQ z t T) t 3 11 = some (nI (T.2 11)) := by
  rw [I3_11 h, gQf 11 (by omega) (by omega)]
theorem Q11p (h : isQ t) (x : Nat) : (O2 L).2.2.1 (putQ z t T) t 3 11 (.int (nI x)) = some (putQ z t (T.1, va_up T.2 11 x)) := by
  rw [P3_11 h, fQf 11 (by omega) (by omega)]
theorem Q12r (h : isQ t) : (O2 L).1 (putQ z t T) t 3 12 = some (nI (T.2 12)) := by
  rw [I3_12 h, gQf 12 (by omega) (by omega)]
theorem Q12p (h : isQ t) (x : Nat) : (O2 L).2.2.1 (putQ z t T) t 3 12 (.int (nI x)) = some (putQ z t (T.1, va_up T.2 12 x)) := by
  rw [P3_12 h, fQf 12 (by omega) (by omega)]
theorem Q13r (h : isQ t) : (O2 L).1 (putQ z t T) t 3 13 = some (nI (T.2 13)) := by
  rw [I3_13 h, gQf 13 (by omega) (by omega)]
theorem Q13p (h : isQ t) (x : Nat) : (O2 L).2.2.1 (putQ z t T) t 3 13 (.int (nI x)) = some (putQ z t (T.1, va_up T.2 13 x)) := by
  rw [P3_13 h, fQf 13 (by omega) (by omega)]
end
