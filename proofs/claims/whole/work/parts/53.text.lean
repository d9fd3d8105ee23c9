/-! THE CLASS'S TEXT as one value: rows 0 .. 10 (bytes, wordStart, wordEnd, wordPosition, wordSentence, letters, letterStart, letterCount, sentenceWord, sentenceEnd, open), fields 11 .. 15 -/
abbrev CT : Type := (Nat → List Nat) × (Nat → Nat)
def putT (z : zS) (t : Nat) (T : CT) : zS := (fun a => if a = t + 22 then (T.1 10).map nI else if t < a ∧ a ≤ t + 19 ∧ (a - t) % 2 = 1 then (T.1 ((a - t) / 2)).map nI else z.1 a, fun a f => if a = t ∧ 11 ≤ f ∧ f ≤ 15 then nI (T.2 f) else z.2.1 a f, z.2.2)
section
variable {z : zS} {t : Nat} {T : CT}
theorem gTk (k : Nat) (hk : k ≤ 9) : (putT z t T).1 (t + (2 * k + 1)) = (T.1 k).map nI := by
  unfold putT
  simp only
  rw [if_neg (by omega), if_pos (by omega), show (t + (2 * k + 1) - t) / 2 = k by omega]
theorem gT0 : (putT z t T).1 (t + 1) = (T.1 0).map nI := gTk 0 (by omega)
theorem gT1 : (putT z t T).1 (t + 3) = (T.1 1).map nI := gTk 1 (by omega)
theorem gT2 : (putT z t T).1 (t + 5) = (T.1 2).map nI := gTk 2 (by omega)
theorem gT3 : (putT z t T).1 (t + 7) = (T.1 3).map nI := gTk 3 (by omega)
theorem gT4 : (putT z t T).1 (t + 9) = (T.1 4).map nI := gTk 4 (by omega)
theorem gT5 : (putT z t T).1 (t + 11) = (T.1 5).map nI := gTk 5 (by omega)
theorem gT6 : (putT z t T).1 (t + 13) = (T.1 6).map nI := gTk 6 (by omega)
theorem gT7 : (putT z t T).1 (t + 15) = (T.1 7).map nI := gTk 7 (by omega)
theorem gT8 : (putT z t T).1 (t + 17) = (T.1 8).map nI := gTk 8 (by omega)
theorem gT9 : (putT z t T).1 (t + 19) = (T.1 9).map nI := gTk 9 (by omega)
theorem gT10 : (putT z t T).1 (t + 22) = (T.1 10).map nI := if_pos rfl
theorem gTf (f : Nat) (h1 : 11 ≤ f) (h2 : f ≤ 15) : (putT z t T).2.1 t f = nI (T.2 f) := if_pos ⟨rfl, h1, h2⟩
theorem gT11 : (putT z t T).2.1 t 11 = nI (T.2 11) := gTf 11 (by omega) (by omega)
theorem gT12 : (putT z t T).2.1 t 12 = nI (T.2 12) := gTf 12 (by omega) (by omega)
theorem gT13 : (putT z t T).2.1 t 13 = nI (T.2 13) := gTf 13 (by omega) (by omega)
theorem gT14 : (putT z t T).2.1 t 14 = nI (T.2 14) := gTf 14 (by omega) (by omega)
theorem gT15 : (putT z t T).2.1 t 15 = nI (T.2 15) := gTf 15 (by omega) (by omega)
theorem sTk (k : Nat) (hk : k ≤ 9) (l : List Nat) : zrs (putT z t T) (t + (2 * k + 1)) (l.map nI) = putT z t (va_up T.1 k l, T.2) := by
  unfold zrs putT
  refine Prod.ext (funext fun a => ?_) rfl
  show va_up _ _ _ a = _
  unfold va_up
  simp only
  by_cases h : a = t + (2 * k + 1)
  · subst h
    rw [if_pos rfl, if_neg (by omega), if_pos (by omega), if_pos (by omega)]
  · rw [if_neg h]
    by_cases h2 : a = t + 22
    · rw [if_pos h2, if_pos h2, if_neg (by omega)]
    · rw [if_neg h2, if_neg h2]
      by_cases h3 : t < a ∧ a ≤ t + 19 ∧ (a - t) % 2 = 1
      · rw [if_pos h3, if_pos h3, if_neg (by omega)]
      · rw [if_neg h3, if_neg h3]
theorem sT0 (l : List Nat) : zrs (putT z t T) (t + 1) (l.map nI) = putT z t (va_up T.1 0 l, T.2) := sTk 0 (by omega) l
theorem sT1 (l : List Nat) : zrs (putT z t T) (t + 3) (l.map nI) = putT z t (va_up T.1 1 l, T.2) := sTk 1 (by omega) l
theorem sT2 (l : List Nat) : zrs (putT z t T) (t + 5) (l.map nI) = putT z t (va_up T.1 2 l, T.2) := sTk 2 (by omega) l
theorem sT3 (l : List Nat) : zrs (putT z t T) (t + 7) (l.map nI) = putT z t (va_up T.1 3 l, T.2) := sTk 3 (by omega) l
theorem sT4 (l : List Nat) : zrs (putT z t T) (t + 9) (l.map nI) = putT z t (va_up T.1 4 l, T.2) := sTk 4 (by omega) l
theorem sT5 (l : List Nat) : zrs (putT z t T) (t + 11) (l.map nI) = putT z t (va_up T.1 5 l, T.2) := sTk 5 (by omega) l
theorem sT6 (l : List Nat) : zrs (putT z t T) (t + 13) (l.map nI) = putT z t (va_up T.1 6 l, T.2) := sTk 6 (by omega) l
theorem sT7 (l : List Nat) : zrs (putT z t T) (t + 15) (l.map nI) = putT z t (va_up T.1 7 l, T.2) := sTk 7 (by omega) l
theorem sT8 (l : List Nat) : zrs (putT z t T) (t + 17) (l.map nI) = putT z t (va_up T.1 8 l, T.2) := sTk 8 (by omega) l
theorem sT9 (l : List Nat) : zrs (putT z t T) (t + 19) (l.map nI) = putT z t (va_up T.1 9 l, T.2) := sTk 9 (by omega) l
theorem sT10 (l : List Nat) : zrs (putT z t T) (t + 22) (l.map nI) = putT z t (va_up T.1 10 l, T.2) := by
  unfold zrs putT
  refine Prod.ext (funext fun a => ?_) rfl
  show va_up _ _ _ a = _
  unfold va_up
  simp only
  by_cases h : a = t + 22
  · subst h
    rw [if_pos rfl, if_pos rfl, if_pos trivial]
  · rw [if_neg h, if_neg h, if_neg h]
    by_cases h3 : t < a ∧ a ≤ t + 19 ∧ (a - t) % 2 = 1
    · rw [if_pos h3, if_pos h3, if_neg (by omega)]
    · rw [if_neg h3, if_neg h3]
theorem fTf (f : Nat) (h1 : 11 ≤ f) (h2 : f ≤ 15) (x : Nat) : ((putT z t T).1, zup (putT z t T).2.1 t f (nI x), (putT z t T).2.2) = putT z t (T.1, va_up T.2 f x) := by
  refine Prod.ext rfl (Prod.ext (funext fun a => funext fun g => ?_) rfl)
  unfold zup putT va_up
  simp only
  by_cases h : a = t ∧ g = f
  · obtain ⟨rfl, rfl⟩ := h
    rw [if_pos ⟨rfl, rfl⟩, if_pos ⟨rfl, h1, h2⟩, if_pos rfl]
  · rw [if_neg h]
    by_cases h3 : a = t ∧ 11 ≤ g ∧ g ≤ 15
    · rw [if_pos h3, if_pos h3, if_neg (fun q => h ⟨h3.1, q⟩)]
    · rw [if_neg h3, if_neg h3]
theorem fT11 (x : Nat) : ((putT z t T).1, zup (putT z t T).2.1 t 11 (nI x), (putT z t T).2.2) = putT z t (T.1, va_up T.2 11 x) := fTf 11 (by omega) (by omega) x
theorem fT12 (x : Nat) : ((putT z t T).1, zup (putT z t T).2.1 t 12 (nI x), (putT z t T).2.2) = putT z t (T.1, va_up T.2 12 x) := fTf 12 (by omega) (by omega) x
theorem fT13 (x : Nat) : ((putT z t T).1, zup (putT z t T).2.1 t 13 (nI x), (putT z t T).2.2) = putT z t (T.1, va_up T.2 13 x) := fTf 13 (by omega) (by omega) x
theorem fT14 (x : Nat) : ((putT z t T).1, zup (putT z t T).2.1 t 14 (nI x), (putT z t T).2.2) = putT z t (T.1, va_up T.2 14 x) := fTf 14 (by omega) (by omega) x
theorem fT15 (x : Nat) : ((putT z t T).1, zup (putT z t T).2.1 t 15 (nI x), (putT z t T).2.2) = putT z t (T.1, va_up T.2 15 x) := fTf 15 (by omega) (by omega) x
end
theorem vs {α : Type} (f : Nat → α) (k : Nat) (x : α) : va_up f k x k = x := va_up_self f k x
theorem vn {α : Type} (f : Nat → α) {k j : Nat} (x : α) (h : j ≠ k) : va_up f k x j = f j := va_up_ne f x h
theorem vi {α : Type} (f : Nat → α) (k : Nat) : va_up f k (f k) = f := by
  funext j
  by_cases h : j = k
  · subst h; exact vs _ _ _
  · exact vn _ _ h
section
variable {L d : Nat} {z : zS} {t : Nat} {T : CT}
theorem T0s (h : isT t) : zden L (d + 1) 55 [.ref (t + 1)] (putT z t T) = some (nI (T.1 0).length, putT z t T) := by
  rw [N55 (W6_0 h).1, gT0, List.length_map]
theorem T0g (h : isT t) (i : Int32) : zden L (d + 1) 56 [.ref (t + 1), .int i] (putT z t T) = some (zget ((T.1 0).map nI) i, putT z t T) := by
  rw [N56 (W6_0 h).1, gT0]
theorem T0w (h : isT t) (i v : Nat) (hi : i < (T.1 0).length) (hl : (T.1 0).length < 2 ^ 31) : zden L (d + 1) 58 [.ref (t + 1), .int (nI i), .int (nI v)] (putT z t T) = some (0, putT z t (va_up T.1 0 ((T.1 0).set i v), T.2)) := by
  rw [N58 (W6_0 h).1, gT0, zset_map hi hl, sT0]
theorem T0a (h : isT t) (v : Nat) (hl : (T.1 0).length < 1000) : zden L (d + 2) 61 [.ref (t + 1), .int (nI v)] (putT z t T) = some (0, putT z t (va_up T.1 0 (T.1 0 ++ [v]), T.2)) := by
  rw [N61 (W6_0 h).1, gT0, (W6_0 h).2, zadd_map hl, sT0]
theorem T0c (h : isT t) : zden L (d + 1) 63 [.ref (t + 1)] (putT z t T) = some (0, putT z t (va_up T.1 0 [], T.2)) := by
  rw [N63 (W6_0 h).1, show ([] : List Int32) = ([] : List Nat).map nI from rfl, sT0]
theorem T1s (h : isT t) : zden L (d + 1) 55 [.ref (t + 3)] (putT z t T) = some (nI (T.1 1).length, putT z t T) := by
  rw [N55 (W6_1 h).1, gT1, List.length_map]
theorem T1g (h : isT t) (i : Int32) : zden L (d + 1) 56 [.ref (t + 3), .int i] (putT z t T) = some (zget ((T.1 1).map nI) i, putT z t T) := by
  rw [N56 (W6_1 h).1, gT1]
theorem T1w (h : isT t) (i v : Nat) (hi : i < (T.1 1).length) (hl : (T.1 1).length < 2 ^ 31) : zden L (d + 1) 58 [.ref (t + 3), .int (nI i), .int (nI v)] (putT z t T) = some (0, putT z t (va_up T.1 1 ((T.1 1).set i v), T.2)) := by
  rw [N58 (W6_1 h).1, gT1, zset_map hi hl, sT1]
theorem T1a (h : isT t) (v : Nat) (hl : (T.1 1).length < 300) : zden L (d + 2) 61 [.ref (t + 3), .int (nI v)] (putT z t T) = some (0, putT z t (va_up T.1 1 (T.1 1 ++ [v]), T.2)) := by
  rw [N61 (W6_1 h).1, gT1, (W6_1 h).2, zadd_map hl, sT1]
theorem T1c (h : isT t) : zden L (d + 1) 63 [.ref (t + 3)] (putT z t T) = some (0, putT z t (va_up T.1 1 [], T.2)) := by
  rw [N63 (W6_1 h).1, show ([] : List Int32) = ([] : List Nat).map nI from rfl, sT1]
theorem T2s (h : isT t) : zden L (d + 1) 55 [.ref (t + 5)] (putT z t T) = some (nI (T.1 2).length, putT z t T) := by
  rw [N55 (W6_2 h).1, gT2, List.length_map]
theorem T2g (h : isT t) (i : Int32) : zden L (d + 1) 56 [.ref (t + 5), .int i] (putT z t T) = some (zget ((T.1 2).map nI) i, putT z t T) := by
  rw [N56 (W6_2 h).1, gT2]
theorem T2w (h : isT t) (i v : Nat) (hi : i < (T.1 2).length) (hl : (T.1 2).length < 2 ^ 31) : zden L (d + 1) 58 [.ref (t + 5), .int (nI i), .int (nI v)] (putT z t T) = some (0, putT z t (va_up T.1 2 ((T.1 2).set i v), T.2)) := by
  rw [N58 (W6_2 h).1, gT2, zset_map hi hl, sT2]
theorem T2a (h : isT t) (v : Nat) (hl : (T.1 2).length < 300) : zden L (d + 2) 61 [.ref (t + 5), .int (nI v)] (putT z t T) = some (0, putT z t (va_up T.1 2 (T.1 2 ++ [v]), T.2)) := by
  rw [N61 (W6_2 h).1, gT2, (W6_2 h).2, zadd_map hl, sT2]
theorem T2c (h : isT t) : zden L (d + 1) 63 [.ref (t + 5)] (putT z t T) = some (0, putT z t (va_up T.1 2 [], T.2)) := by
  rw [N63 (W6_2 h).1, show ([] : List Int32) = ([] : List Nat).map nI from rfl, sT2]
theorem T3s (h : isT t) : zden L (d + 1) 55 [.ref (t + 7)] (putT z t T) = some (nI (T.1 3).length, putT z t T) := by
  rw [N55 (W6_3 h).1, gT3, List.length_map]
theorem T3g (h : isT t) (i : Int32) : zden L (d + 1) 56 [.ref (t + 7), .int i] (putT z t T) = some (zget ((T.1 3).map nI) i, putT z t T) := by
  rw [N56 (W6_3 h).1, gT3]
theorem T3w (h : isT t) (i v : Nat) (hi : i < (T.1 3).length) (hl : (T.1 3).length < 2 ^ 31) : zden L (d + 1) 58 [.ref (t + 7), .int (nI i), .int (nI v)] (putT z t T) = some (0, putT z t (va_up T.1 3 ((T.1 3).set i v), T.2)) := by
  rw [N58 (W6_3 h).1, gT3, zset_map hi hl, sT3]
theorem T3a (h : isT t) (v : Nat) (hl : (T.1 3).length < 300) : zden L (d + 2) 61 [.ref (t + 7), .int (nI v)] (putT z t T) = some (0, putT z t (va_up T.1 3 (T.1 3 ++ [v]), T.2)) := by
  rw [N61 (W6_3 h).1, gT3, (W6_3 h).2, zadd_map hl, sT3]
theorem T3c (h : isT t) : zden L (d + 1) 63 [.ref (t + 7)] (putT z t T) = some (0, putT z t (va_up T.1 3 [], T.2)) := by
  rw [N63 (W6_3 h).1, show ([] : List Int32) = ([] : List Nat).map nI from rfl, sT3]
theorem T4s (h : isT t) : zden L (d + 1) 55 [.ref (t + 9)] (putT z t T) = some (nI (T.1 4).length, putT z t T) := by
  rw [N55 (W6_4 h).1, gT4, List.length_map]
theorem T4g (h : isT t) (i : Int32) : zden L (d + 1) 56 [.ref (t + 9), .int i] (putT z t T) = some (zget ((T.1 4).map nI) i, putT z t T) := by
  rw [N56 (W6_4 h).1, gT4]
theorem T4w (h : isT t) (i v : Nat) (hi : i < (T.1 4).length) (hl : (T.1 4).length < 2 ^ 31) : zden L (d + 1) 58 [.ref (t + 9), .int (nI i), .int (nI v)] (putT z t T) = some (0, putT z t (va_up T.1 4 ((T.1 4).set i v), T.2)) := by
  rw [N58 (W6_4 h).1, gT4, zset_map hi hl, sT4]
theorem T4a (h : isT t) (v : Nat) (hl : (T.1 4).length < 300) : zden L (d + 2) 61 [.ref (t + 9), .int (nI v)] (putT z t T) = some (0, putT z t (va_up T.1 4 (T.1 4 ++ [v]), T.2)) := by
  rw [N61 (W6_4 h).1, gT4, (W6_4 h).2, zadd_map hl, sT4]
theorem T4c (h : isT t) : zden L (d + 1) 63 [.ref (t + 9)] (putT z t T) = some (0, putT z t (va_up T.1 4 [], T.2)) := by
  rw [N63 (W6_4 h).1, show ([] : List Int32) = ([] : List Nat).map nI from rfl, sT4]
theorem T5s (h : isT t) : zden L (d + 1) 55 [.ref (t + 11)] (putT z t T) = some (nI (T.1 5).length, putT z t T) := by
  rw [N55 (W6_5 h).1, gT5, List.length_map]
theorem T5g (h : isT t) (i : Int32) : zden L (d + 1) 56 [.ref (t + 11), .int i] (putT z t T) = some (zget ((T.1 5).map nI) i, putT z t T) := by
  rw [N56 (W6_5 h).1, gT5]
theorem T5w (h : isT t) (i v : Nat) (hi : i < (T.1 5).length) (hl : (T.1 5).length < 2 ^ 31) : zden L (d + 1) 58 [.ref (t + 11), .int (nI i), .int (nI v)] (putT z t T) = some (0, putT z t (va_up T.1 5 ((T.1 5).set i v), T.2)) := by
  rw [N58 (W6_5 h).1, gT5, zset_map hi hl, sT5]
theorem T5a (h : isT t) (v : Nat) (hl : (T.1 5).length < 1000) : zden L (d + 2) 61 [.ref (t + 11), .int (nI v)] (putT z t T) = some (0, putT z t (va_up T.1 5 (T.1 5 ++ [v]), T.2)) := by
  rw [N61 (W6_5 h).1, gT5, (W6_5 h).2, zadd_map hl, sT5]
theorem T5c (h : isT t) : zden L (d + 1) 63 [.ref (t + 11)] (putT z t T) = some (0, putT z t (va_up T.1 5 [], T.2)) := by
  rw [N63 (W6_5 h).1, show ([] : List Int32) = ([] : List Nat).map nI from rfl, sT5]
theorem T6s (h : isT t) : zden L (d + 1) 55 [.ref (t + 13)] (putT z t T) = some (nI (T.1 6).length, putT z t T) := by
  rw [N55 (W6_6 h).1, gT6, List.length_map]
theorem T6g (h : isT t) (i : Int32) : zden L (d + 1) 56 [.ref (t + 13), .int i] (putT z t T) = some (zget ((T.1 6).map nI) i, putT z t T) := by
  rw [N56 (W6_6 h).1, gT6]
theorem T6w (h : isT t) (i v : Nat) (hi : i < (T.1 6).length) (hl : (T.1 6).length < 2 ^ 31) : zden L (d + 1) 58 [.ref (t + 13), .int (nI i), .int (nI v)] (putT z t T) = some (0, putT z t (va_up T.1 6 ((T.1 6).set i v), T.2)) := by
  rw [N58 (W6_6 h).1, gT6, zset_map hi hl, sT6]
theorem T6a (h : isT t) (v : Nat) (hl : (T.1 6).length < 300) : zden L (d + 2) 61 [.ref (t + 13), .int (nI v)] (putT z t T) = some (0, putT z t (va_up T.1 6 (T.1 6 ++ [v]), T.2)) := by
  rw [N61 (W6_6 h).1, gT6, (W6_6 h).2, zadd_map hl, sT6]
theorem T6c (h : isT t) : zden L (d + 1) 63 [.ref (t + 13)] (putT z t T) = some (0, putT z t (va_up T.1 6 [], T.2)) := by
  rw [N63 (W6_6 h).1, show ([] : List Int32) = ([] : List Nat).map nI from rfl, sT6]
theorem T7s (h : isT t) : zden L (d + 1) 55 [.ref (t + 15)] (putT z t T) = some (nI (T.1 7).length, putT z t T) := by
  rw [N55 (W6_7 h).1, gT7, List.length_map]
theorem T7g (h : isT t) (i : Int32) : zden L (d + 1) 56 [.ref (t + 15), .int i] (putT z t T) = some (zget ((T.1 7).map nI) i, putT z t T) := by
  rw [N56 (W6_7 h).1, gT7]
theorem T7w (h : isT t) (i v : Nat) (hi : i < (T.1 7).length) (hl : (T.1 7).length < 2 ^ 31) : zden L (d + 1) 58 [.ref (t + 15), .int (nI i), .int (nI v)] (putT z t T) = some (0, putT z t (va_up T.1 7 ((T.1 7).set i v), T.2)) := by
  rw [N58 (W6_7 h).1, gT7, zset_map hi hl, sT7]
theorem T7a (h : isT t) (v : Nat) (hl : (T.1 7).length < 300) : zden L (d + 2) 61 [.ref (t + 15), .int (nI v)] (putT z t T) = some (0, putT z t (va_up T.1 7 (T.1 7 ++ [v]), T.2)) := by
  rw [N61 (W6_7 h).1, gT7, (W6_7 h).2, zadd_map hl, sT7]
theorem T7c (h : isT t) : zden L (d + 1) 63 [.ref (t + 15)] (putT z t T) = some (0, putT z t (va_up T.1 7 [], T.2)) := by
  rw [N63 (W6_7 h).1, show ([] : List Int32) = ([] : List Nat).map nI from rfl, sT7]
theorem T8s (h : isT t) : zden L (d + 1) 55 [.ref (t + 17)] (putT z t T) = some (nI (T.1 8).length, putT z t T) := by
  rw [N55 (W6_8 h).1, gT8, List.length_map]
theorem T8g (h : isT t) (i : Int32) : zden L (d + 1) 56 [.ref (t + 17), .int i] (putT z t T) = some (zget ((T.1 8).map nI) i, putT z t T) := by
  rw [N56 (W6_8 h).1, gT8]
theorem T8w (h : isT t) (i v : Nat) (hi : i < (T.1 8).length) (hl : (T.1 8).length < 2 ^ 31) : zden L (d + 1) 58 [.ref (t + 17), .int (nI i), .int (nI v)] (putT z t T) = some (0, putT z t (va_up T.1 8 ((T.1 8).set i v), T.2)) := by
  rw [N58 (W6_8 h).1, gT8, zset_map hi hl, sT8]
theorem T8a (h : isT t) (v : Nat) (hl : (T.1 8).length < 300) : zden L (d + 2) 61 [.ref (t + 17), .int (nI v)] (putT z t T) = some (0, putT z t (va_up T.1 8 (T.1 8 ++ [v]), T.2)) := by
  rw [N61 (W6_8 h).1, gT8, (W6_8 h).2, zadd_map hl, sT8]
theorem T8c (h : isT t) : zden L (d + 1) 63 [.ref (t + 17)] (putT z t T) = some (0, putT z t (va_up T.1 8 [], T.2)) := by
  rw [N63 (W6_8 h).1, show ([] : List Int32) = ([] : List Nat).map nI from rfl, sT8]
theorem T9s (h : isT t) : zden L (d + 1) 55 [.ref (t + 19)] (putT z t T) = some (nI (T.1 9).length, putT z t T) := by
  rw [N55 (W6_9 h).1, gT9, List.length_map]
theorem T9g (h : isT t) (i : Int32) : zden L (d + 1) 56 [.ref (t + 19), .int i] (putT z t T) = some (zget ((T.1 9).map nI) i, putT z t T) := by
  rw [N56 (W6_9 h).1, gT9]
theorem T9w (h : isT t) (i v : Nat) (hi : i < (T.1 9).length) (hl : (T.1 9).length < 2 ^ 31) : zden L (d + 1) 58 [.ref (t + 19), .int (nI i), .int (nI v)] (putT z t T) = some (0, putT z t (va_up T.1 9 ((T.1 9).set i v), T.2)) := by
  rw [N58 (W6_9 h).1, gT9, zset_map hi hl, sT9]
theorem T9a (h : isT t) (v : Nat) (hl : (T.1 9).length < 300) : zden L (d + 2) 61 [.ref (t + 19), .int (nI v)] (putT z t T) = some (0, putT z t (va_up T.1 9 (T.1 9 ++ [v]), T.2)) := by
  rw [N61 (W6_9 h).1, gT9, (W6_9 h).2, zadd_map hl, sT9]
theorem T9c (h : isT t) : zden L (d + 1) 63 [.ref (t + 19)] (putT z t T) = some (0, putT z t (va_up T.1 9 [], T.2)) := by
  rw [N63 (W6_9 h).1, show ([] : List Int32) = ([] : List Nat).map nI from rfl, sT9]
theorem isG_of (h : isT t) : isG (t + 21) := by
  rcases h with rfl | rfl
  · exact Or.inl rfl
  · exact Or.inr (Or.inr rfl)
theorem T10s (h : isT t) : zden L (d + 1) 55 [.ref (t + 22)] (putT z t T) = some (nI (T.1 10).length, putT z t T) := by
  rw [N55 (W5_0 (isG_of h)).1, gT10, List.length_map]
theorem T10g (h : isT t) (i : Int32) : zden L (d + 1) 56 [.ref (t + 22), .int i] (putT z t T) = some (zget ((T.1 10).map nI) i, putT z t T) := by
  rw [N56 (W5_0 (isG_of h)).1, gT10]
theorem T10w (h : isT t) (i v : Nat) (hi : i < (T.1 10).length) (hl : (T.1 10).length < 2 ^ 31) : zden L (d + 1) 58 [.ref (t + 22), .int (nI i), .int (nI v)] (putT z t T) = some (0, putT z t (va_up T.1 10 ((T.1 10).set i v), T.2)) := by
  rw [N58 (W5_0 (isG_of h)).1, gT10, zset_map hi hl, sT10]
theorem T10a (h : isT t) (v : Nat) (hl : (T.1 10).length < 8) : zden L (d + 2) 61 [.ref (t + 22), .int (nI v)] (putT z t T) = some (0, putT z t (va_up T.1 10 (T.1 10 ++ [v]), T.2)) := by
  rw [N61 (W5_0 (isG_of h)).1, gT10, (W5_0 (isG_of h)).2, zadd_map hl, sT10]
theorem T10c (h : isT t) : zden L (d + 1) 63 [.ref (t + 22)] (putT z t T) = some (0, putT z t (va_up T.1 10 [], T.2)) := by
  rw [N63 (W5_0 (isG_of h)).1, show ([] : List Int32) = ([] : List Nat).map nI from rfl, sT10]
theorem T11r (h : isT t) : (O2 L).1 (putT z t T) t 6 11 = some (nI (T.2 11)) := by
  rw [I6_11 h, gT11]
theorem T11p (h : isT t) (x : Nat) : (O2 L).2.2.1 (putT z t T) t 6 11 (.int (nI x)) = some (putT z t (T.1, va_up T.2 11 x)) := by
  rw [P6_11 h, fT11]
theorem T12r (h : isT t) : (O2 L).1 (putT z t T) t 6 12 = some (nI (T.2 12)) := by
  rw [I6_12 h, gT12]
theorem T12p (h : isT t) (x : Nat) : (O2 L).2.2.1 (putT z t T) t 6 12 (.int (nI x)) = some (putT z t (T.1, va_up T.2 12 x)) := by
  rw [P6_12 h, fT12]
theorem T13r (h : isT t) : (O2 L).1 (putT z t T) t 6 13 = some (nI (T.2 13)) := by
  rw [I6_13 h, gT13]
theorem T13p (h : isT t) (x : Nat) : (O2 L).2.2.1 (putT z t T) t 6 13 (.int (nI x)) = some (putT z t (T.1, va_up T.2 13 x)) := by
  rw [P6_13 h, fT13]
theorem T14r (h : isT t) : (O2 L).1 (putT z t T) t 6 14 = some (nI (T.2 14)) := by
  rw [I6_14 h, gT14]
theorem T14p (h : isT t) (x : Nat) : (O2 L).2.2.1 (putT z t T) t 6 14 (.int (nI x)) = some (putT z t (T.1, va_up T.2 14 x)) := by
  rw [P6_14 h, fT14]
theorem T15r (h : isT t) : (O2 L).1 (putT z t T) t 6 15 = some (nI (T.2 15)) := by
  rw [I6_15 h, gT15]
theorem T15p (h : isT t) (x : Nat) : (O2 L).2.2.1 (putT z t T) t 6 15 (.int (nI x)) = some (putT z t (T.1, va_up T.2 15 x)) := by
  rw [P6_15 h, fT15]
end
section
variable {L d : Nat} {z : zS} {t : Nat} {T : CT}
theorem c74 (h : isT t) : zden L (d + 2) 74 [.ref t] (putT z t T) = some (nI (T.1 1).length, putT z t T) := by
  simp only [N74 _ (obT h), B74_0, R6_0 h, R6_1 h, R6_2 h, R6_3 h, R6_4 h, R6_5 h, R6_6 h, R6_7 h, R6_8 h, R6_9 h, R6_10 h, T11r h, T12r h, T13r h, T14r h, T15r h, T11p h, T12p h, T13p h, T14p h, T15p h, T0s h, T1s h, T2s h, T3s h, T4s h, T5s h, T6s h, T7s h, T8s h, T9s h, T10s h, T0g h, T1g h, T2g h, T3g h, T4g h, T5g h, T6g h, T7g h, T8g h, T9g h, T10g h, T2w h, T7w h, T1a h, T2a h, T3a h, T4a h, T5a h, T6a h, T7a h, T8a h, T9a h, T10a h, T1c h, T2c h, T3c h, T4c h, T5c h, T6c h, T7c h, T8c h, T9c h, T10c h, Option.bind_some, iO0, iO1, nI_add, List.length_map, true_or, or_true, if_true, ↓reduceIte, Nat.reduceEqDiff, Nat.reduceLeDiff, Nat.reduceLT, Nat.reduceAdd, Nat.reduceSub]
theorem c75 (h : isT t) : zden L (d + 2) 75 [.ref t] (putT z t T) = some (nI (T.1 8).length, putT z t T) := by
  simp only [N75 _ (obT h), B75_0, R6_0 h, R6_1 h, R6_2 h, R6_3 h, R6_4 h, R6_5 h, R6_6 h, R6_7 h, R6_8 h, R6_9 h, R6_10 h, T11r h, T12r h, T13r h, T14r h, T15r h, T11p h, T12p h, T13p h, T14p h, T15p h, T0s h, T1s h, T2s h, T3s h, T4s h, T5s h, T6s h, T7s h, T8s h, T9s h, T10s h, T0g h, T1g h, T2g h, T3g h, T4g h, T5g h, T6g h, T7g h, T8g h, T9g h, T10g h, T2w h, T7w h, T1a h, T2a h, T3a h, T4a h, T5a h, T6a h, T7a h, T8a h, T9a h, T10a h, T1c h, T2c h, T3c h, T4c h, T5c h, T6c h, T7c h, T8c h, T9c h, T10c h, Option.bind_some, iO0, iO1, nI_add, List.length_map, true_or, or_true, if_true, ↓reduceIte, Nat.reduceEqDiff, Nat.reduceLeDiff, Nat.reduceLT, Nat.reduceAdd, Nat.reduceSub]
end
