/-! THE REFERENCE'S STATE: its fields f, its arrays as lists of what is known of them (Al), all else as it was (A). Written by wip/whole/mkM.py -/
def ms (z : zS) (f : Nat → Int32) (A : Nat → Nat → Int32) (Al : Nat → List Nat) : zS := (z.1, fun a k => if a = 136 then f k else z.2.1 a k, fun a i => if 137 ≤ a ∧ i < (Al a).length then nI ((Al a).getD i 0) else A a i, z.2.2.2)
theorem ms_forget {z : zS} {f : Nat → Int32} {A : Nat → Nat → Int32} {Al : Nat → List Nat} (a : Nat) : ∃ A', ms z f A Al = ms z f A' (va_up Al a []) ∧ A' 0 = A 0 := by
  refine ⟨fun b i => if b = a ∧ 137 ≤ b ∧ i < (Al b).length then nI ((Al b).getD i 0) else A b i, ?_, ?_⟩
  · unfold ms
    refine Prod.ext rfl (Prod.ext rfl (Prod.ext (funext fun b => funext fun i => ?_) rfl))
    simp only
    by_cases h : b = a
    · subst h
      rw [va_up_self]
      simp only [List.length_nil, Nat.not_lt_zero, and_false, if_false, true_and]
    · rw [va_up_ne _ _ h]
      simp only [h, false_and, if_false]
  · funext i
    simp
theorem ms_field {z : zS} {f : Nat → Int32} {A : Nat → Nat → Int32} {Al : Nat → List Nat} (k : Nat) (x : Int32) : ((ms z f A Al).1, zup (ms z f A Al).2.1 136 k x, (ms z f A Al).2.2) = ms z (va_up f k x) A Al := by
  refine Prod.ext rfl (Prod.ext (funext fun a => funext fun g => ?_) rfl)
  unfold zup ms va_up
  simp only
  by_cases h : a = 136 ∧ g = k
  · rw [if_pos h, if_pos h.1, if_pos h.2]
  · rw [if_neg h]
    by_cases h3 : a = 136
    · rw [if_pos h3, if_pos h3, if_neg (fun q => h ⟨h3, q⟩)]
    · rw [if_neg h3, if_neg h3]
theorem ms_app {z : zS} {f : Nat → Int32} {A : Nat → Nat → Int32} {Al : Nat → List Nat} {a j v : Nat} (ha : 137 ≤ a) (hj : (Al a).length = j) : ((ms z f A Al).1, (ms z f A Al).2.1, zup (ms z f A Al).2.2.1 a j (nI v), (ms z f A Al).2.2.2) = ms z f A (va_up Al a (Al a ++ [v])) := by
  subst hj
  refine Prod.ext rfl (Prod.ext rfl (Prod.ext (funext fun b => funext fun i => ?_) rfl))
  unfold zup ms va_up
  simp only
  by_cases h : b = a
  · subst h
    simp only [true_and, ha, if_true, List.length_append, List.length_cons, List.length_nil]
    by_cases h2 : i = (Al b).length
    · subst h2
      simp [List.getD]
    · rw [if_neg h2]
      by_cases h3 : i < (Al b).length
      · rw [if_pos h3, if_pos (by omega)]
        simp [List.getD, List.getElem?_append, h3]
      · rw [if_neg h3, if_neg (by omega)]
  · simp only [h, false_and, if_false]
theorem ms_set {z : zS} {f : Nat → Int32} {A : Nat → Nat → Int32} {Al : Nat → List Nat} {a j v : Nat} (ha : 137 ≤ a) (hj : j < (Al a).length) : ((ms z f A Al).1, (ms z f A Al).2.1, zup (ms z f A Al).2.2.1 a j (nI v), (ms z f A Al).2.2.2) = ms z f A (va_up Al a ((Al a).set j v)) := by
  refine Prod.ext rfl (Prod.ext rfl (Prod.ext (funext fun b => funext fun i => ?_) rfl))
  unfold zup ms va_up
  simp only
  by_cases h : b = a
  · subst h
    simp only [true_and, ha, if_true, List.length_set]
    by_cases h2 : i = j
    · subst h2
      rw [if_pos rfl, if_pos hj]
      simp [List.getD, hj]
    · rw [if_neg h2]
      by_cases h3 : i < (Al b).length
      · rw [if_pos h3, if_pos h3]
        simp [List.getD, List.getElem?_set, Ne.symm h2]
      · rw [if_neg h3, if_neg h3]
  · simp only [h, false_and, if_false]
theorem ms_load {z : zS} {f : Nat → Int32} {A : Nat → Nat → Int32} {Al : Nat → List Nat} {a j : Nat} (ha : 137 ≤ a) (hj : j < (Al a).length) : (ms z f A Al).2.2.1 a j = nI ((Al a).getD j 0) := if_pos ⟨ha, hj⟩
theorem ms_id (z : zS) : z = ms z (z.2.1 136) z.2.2.1 (fun _ => []) := by
  unfold ms
  refine Prod.ext rfl (Prod.ext (funext fun a => funext fun k => ?_) (Prod.ext (funext fun a => funext fun i => ?_) rfl))
  · simp only
    split
    · rename_i h; rw [h]
    · rfl
  · simp
section
variable {L : Nat} {z : zS} {f : Nat → Int32} {A : Nat → Nat → Int32} {Al : Nat → List Nat} {j : Nat}
theorem M1r : (O2 L).1 (ms z f A Al) 136 8 1 = some (f 1) := rfl
theorem M1p (x : Int32) : (O2 L).2.2.1 (ms z f A Al) 136 8 1 (.int x) = some (ms z (va_up f 1 x) A Al) := by rw [K136_1, ms_field]
theorem M3r : (O2 L).1 (ms z f A Al) 136 8 3 = some (f 3) := rfl
theorem M3p (x : Int32) : (O2 L).2.2.1 (ms z f A Al) 136 8 3 (.int x) = some (ms z (va_up f 3 x) A Al) := by rw [K136_3, ms_field]
theorem M4r : (O2 L).1 (ms z f A Al) 136 8 4 = some (f 4) := rfl
theorem M4p (x : Int32) : (O2 L).2.2.1 (ms z f A Al) 136 8 4 (.int x) = some (ms z (va_up f 4 x) A Al) := by rw [K136_4, ms_field]
theorem M10r : (O2 L).1 (ms z f A Al) 136 8 10 = some (f 10) := rfl
theorem M10p (x : Int32) : (O2 L).2.2.1 (ms z f A Al) 136 8 10 (.int x) = some (ms z (va_up f 10 x) A Al) := by rw [K136_10, ms_field]
theorem M14r : (O2 L).1 (ms z f A Al) 136 8 14 = some (f 14) := rfl
theorem M14p (x : Int32) : (O2 L).2.2.1 (ms z f A Al) 136 8 14 (.int x) = some (ms z (va_up f 14 x) A Al) := by rw [K136_14, ms_field]
theorem M19r : (O2 L).1 (ms z f A Al) 136 8 19 = some (f 19) := rfl
theorem M19p (x : Int32) : (O2 L).2.2.1 (ms z f A Al) 136 8 19 (.int x) = some (ms z (va_up f 19 x) A Al) := by rw [K136_19, ms_field]
theorem M21r : (O2 L).1 (ms z f A Al) 136 8 21 = some (f 21) := rfl
theorem M21p (x : Int32) : (O2 L).2.2.1 (ms z f A Al) 136 8 21 (.int x) = some (ms z (va_up f 21 x) A Al) := by rw [K136_21, ms_field]
theorem M25r : (O2 L).1 (ms z f A Al) 136 8 25 = some (f 25) := rfl
theorem M25p (x : Int32) : (O2 L).2.2.1 (ms z f A Al) 136 8 25 (.int x) = some (ms z (va_up f 25 x) A Al) := by rw [K136_25, ms_field]
theorem M30r : (O2 L).1 (ms z f A Al) 136 8 30 = some (f 30) := rfl
theorem M30p (x : Int32) : (O2 L).2.2.1 (ms z f A Al) 136 8 30 (.int x) = some (ms z (va_up f 30 x) A Al) := by rw [K136_30, ms_field]
theorem M36r : (O2 L).1 (ms z f A Al) 136 8 36 = some (f 36) := rfl
theorem M36p (x : Int32) : (O2 L).2.2.1 (ms z f A Al) 136 8 36 (.int x) = some (ms z (va_up f 36 x) A Al) := by rw [K136_36, ms_field]
theorem M43r : (O2 L).1 (ms z f A Al) 136 8 43 = some (f 43) := rfl
theorem M43p (x : Int32) : (O2 L).2.2.1 (ms z f A Al) 136 8 43 (.int x) = some (ms z (va_up f 43 x) A Al) := by rw [K136_43, ms_field]
theorem M47r : (O2 L).1 (ms z f A Al) 136 8 47 = some (f 47) := rfl
theorem M47p (x : Int32) : (O2 L).2.2.1 (ms z f A Al) 136 8 47 (.int x) = some (ms z (va_up f 47 x) A Al) := by rw [K136_47, ms_field]
theorem M48r : (O2 L).1 (ms z f A Al) 136 8 48 = some (f 48) := rfl
theorem M48p (x : Int32) : (O2 L).2.2.1 (ms z f A Al) 136 8 48 (.int x) = some (ms z (va_up f 48 x) A Al) := by rw [K136_48, ms_field]
theorem M51r : (O2 L).1 (ms z f A Al) 136 8 51 = some (f 51) := rfl
theorem M51p (x : Int32) : (O2 L).2.2.1 (ms z f A Al) 136 8 51 (.int x) = some (ms z (va_up f 51 x) A Al) := by rw [K136_51, ms_field]
theorem M55r : (O2 L).1 (ms z f A Al) 136 8 55 = some (f 55) := rfl
theorem M55p (x : Int32) : (O2 L).2.2.1 (ms z f A Al) 136 8 55 (.int x) = some (ms z (va_up f 55 x) A Al) := by rw [K136_55, ms_field]
theorem M59r : (O2 L).1 (ms z f A Al) 136 8 59 = some (f 59) := rfl
theorem M59p (x : Int32) : (O2 L).2.2.1 (ms z f A Al) 136 8 59 (.int x) = some (ms z (va_up f 59 x) A Al) := by rw [K136_59, ms_field]
theorem M64r : (O2 L).1 (ms z f A Al) 136 8 64 = some (f 64) := rfl
theorem M64p (x : Int32) : (O2 L).2.2.1 (ms z f A Al) 136 8 64 (.int x) = some (ms z (va_up f 64 x) A Al) := by rw [K136_64, ms_field]
theorem M66r : (O2 L).1 (ms z f A Al) 136 8 66 = some (f 66) := rfl
theorem M66p (x : Int32) : (O2 L).2.2.1 (ms z f A Al) 136 8 66 (.int x) = some (ms z (va_up f 66 x) A Al) := by rw [K136_66, ms_field]
theorem M67r : (O2 L).1 (ms z f A Al) 136 8 67 = some (f 67) := rfl
theorem M67p (x : Int32) : (O2 L).2.2.1 (ms z f A Al) 136 8 67 (.int x) = some (ms z (va_up f 67 x) A Al) := by rw [K136_67, ms_field]
theorem M68r : (O2 L).1 (ms z f A Al) 136 8 68 = some (f 68) := rfl
theorem M68p (x : Int32) : (O2 L).2.2.1 (ms z f A Al) 136 8 68 (.int x) = some (ms z (va_up f 68 x) A Al) := by rw [K136_68, ms_field]
theorem M69r : (O2 L).1 (ms z f A Al) 136 8 69 = some (f 69) := rfl
theorem M69p (x : Int32) : (O2 L).2.2.1 (ms z f A Al) 136 8 69 (.int x) = some (ms z (va_up f 69 x) A Al) := by rw [K136_69, ms_field]
theorem L137 (hj : j < (Al 137).length) (hn : j < 1000) : (O2 L).2.2.2.2.2.1 (ms z f A Al) 0 137 (nI j) = some (nI ((Al 137).getD j 0)) := by rw [aL rfl rfl _ hn, ms_load (by omega) hj]
theorem A137 (v : Nat) (hj : (Al 137).length = j) (hn : j < 1000) : (O2 L).2.2.2.2.2.2.1 (ms z f A Al) 0 137 (nI j) (nI v) = some (ms z f A (va_up Al 137 (Al 137 ++ [v]))) := by rw [aS rfl _ _ hn, ms_app (by omega) hj]
theorem U137 (v : Nat) (hj : j < (Al 137).length) (hn : j < 1000) : (O2 L).2.2.2.2.2.2.1 (ms z f A Al) 0 137 (nI j) (nI v) = some (ms z f A (va_up Al 137 ((Al 137).set j v))) := by rw [aS rfl _ _ hn, ms_set (by omega) hj]
theorem L138 (hj : j < (Al 138).length) (hn : j < 1000) : (O2 L).2.2.2.2.2.1 (ms z f A Al) 0 138 (nI j) = some (nI ((Al 138).getD j 0)) := by rw [aL rfl rfl _ hn, ms_load (by omega) hj]
theorem A138 (v : Nat) (hj : (Al 138).length = j) (hn : j < 1000) : (O2 L).2.2.2.2.2.2.1 (ms z f A Al) 0 138 (nI j) (nI v) = some (ms z f A (va_up Al 138 (Al 138 ++ [v]))) := by rw [aS rfl _ _ hn, ms_app (by omega) hj]
theorem U138 (v : Nat) (hj : j < (Al 138).length) (hn : j < 1000) : (O2 L).2.2.2.2.2.2.1 (ms z f A Al) 0 138 (nI j) (nI v) = some (ms z f A (va_up Al 138 ((Al 138).set j v))) := by rw [aS rfl _ _ hn, ms_set (by omega) hj]
theorem L139 (hj : j < (Al 139).length) (hn : j < 1000) : (O2 L).2.2.2.2.2.1 (ms z f A Al) 0 139 (nI j) = some (nI ((Al 139).getD j 0)) := by rw [aL rfl rfl _ hn, ms_load (by omega) hj]
theorem A139 (v : Nat) (hj : (Al 139).length = j) (hn : j < 1000) : (O2 L).2.2.2.2.2.2.1 (ms z f A Al) 0 139 (nI j) (nI v) = some (ms z f A (va_up Al 139 (Al 139 ++ [v]))) := by rw [aS rfl _ _ hn, ms_app (by omega) hj]
theorem U139 (v : Nat) (hj : j < (Al 139).length) (hn : j < 1000) : (O2 L).2.2.2.2.2.2.1 (ms z f A Al) 0 139 (nI j) (nI v) = some (ms z f A (va_up Al 139 ((Al 139).set j v))) := by rw [aS rfl _ _ hn, ms_set (by omega) hj]
theorem L140 (hj : j < (Al 140).length) (hn : j < 1000) : (O2 L).2.2.2.2.2.1 (ms z f A Al) 0 140 (nI j) = some (nI ((Al 140).getD j 0)) := by rw [aL rfl rfl _ hn, ms_load (by omega) hj]
theorem A140 (v : Nat) (hj : (Al 140).length = j) (hn : j < 1000) : (O2 L).2.2.2.2.2.2.1 (ms z f A Al) 0 140 (nI j) (nI v) = some (ms z f A (va_up Al 140 (Al 140 ++ [v]))) := by rw [aS rfl _ _ hn, ms_app (by omega) hj]
theorem U140 (v : Nat) (hj : j < (Al 140).length) (hn : j < 1000) : (O2 L).2.2.2.2.2.2.1 (ms z f A Al) 0 140 (nI j) (nI v) = some (ms z f A (va_up Al 140 ((Al 140).set j v))) := by rw [aS rfl _ _ hn, ms_set (by omega) hj]
theorem L141 (hj : j < (Al 141).length) (hn : j < 1000) : (O2 L).2.2.2.2.2.1 (ms z f A Al) 0 141 (nI j) = some (nI ((Al 141).getD j 0)) := by rw [aL rfl rfl _ hn, ms_load (by omega) hj]
theorem A141 (v : Nat) (hj : (Al 141).length = j) (hn : j < 1000) : (O2 L).2.2.2.2.2.2.1 (ms z f A Al) 0 141 (nI j) (nI v) = some (ms z f A (va_up Al 141 (Al 141 ++ [v]))) := by rw [aS rfl _ _ hn, ms_app (by omega) hj]
theorem U141 (v : Nat) (hj : j < (Al 141).length) (hn : j < 1000) : (O2 L).2.2.2.2.2.2.1 (ms z f A Al) 0 141 (nI j) (nI v) = some (ms z f A (va_up Al 141 ((Al 141).set j v))) := by rw [aS rfl _ _ hn, ms_set (by omega) hj]
theorem L142 (hj : j < (Al 142).length) (hn : j < 1001) : (O2 L).2.2.2.2.2.1 (ms z f A Al) 1 142 (nI j) = some (nI ((Al 142).getD j 0)) := by rw [aL rfl rfl _ hn, ms_load (by omega) hj]
theorem A142 (v : Nat) (hj : (Al 142).length = j) (hn : j < 1001) : (O2 L).2.2.2.2.2.2.1 (ms z f A Al) 1 142 (nI j) (nI v) = some (ms z f A (va_up Al 142 (Al 142 ++ [v]))) := by rw [aS rfl _ _ hn, ms_app (by omega) hj]
theorem U142 (v : Nat) (hj : j < (Al 142).length) (hn : j < 1001) : (O2 L).2.2.2.2.2.2.1 (ms z f A Al) 1 142 (nI j) (nI v) = some (ms z f A (va_up Al 142 ((Al 142).set j v))) := by rw [aS rfl _ _ hn, ms_set (by omega) hj]
theorem L143 (hj : j < (Al 143).length) (hn : j < 1001) : (O2 L).2.2.2.2.2.1 (ms z f A Al) 1 143 (nI j) = some (nI ((Al 143).getD j 0)) := by rw [aL rfl rfl _ hn, ms_load (by omega) hj]
theorem A143 (v : Nat) (hj : (Al 143).length = j) (hn : j < 1001) : (O2 L).2.2.2.2.2.2.1 (ms z f A Al) 1 143 (nI j) (nI v) = some (ms z f A (va_up Al 143 (Al 143 ++ [v]))) := by rw [aS rfl _ _ hn, ms_app (by omega) hj]
theorem U143 (v : Nat) (hj : j < (Al 143).length) (hn : j < 1001) : (O2 L).2.2.2.2.2.2.1 (ms z f A Al) 1 143 (nI j) (nI v) = some (ms z f A (va_up Al 143 ((Al 143).set j v))) := by rw [aS rfl _ _ hn, ms_set (by omega) hj]
theorem L144 (hj : j < (Al 144).length) (hn : j < 400) : (O2 L).2.2.2.2.2.1 (ms z f A Al) 0 144 (nI j) = some (nI ((Al 144).getD j 0)) := by rw [aL rfl rfl _ hn, ms_load (by omega) hj]
theorem A144 (v : Nat) (hj : (Al 144).length = j) (hn : j < 400) : (O2 L).2.2.2.2.2.2.1 (ms z f A Al) 0 144 (nI j) (nI v) = some (ms z f A (va_up Al 144 (Al 144 ++ [v]))) := by rw [aS rfl _ _ hn, ms_app (by omega) hj]
theorem U144 (v : Nat) (hj : j < (Al 144).length) (hn : j < 400) : (O2 L).2.2.2.2.2.2.1 (ms z f A Al) 0 144 (nI j) (nI v) = some (ms z f A (va_up Al 144 ((Al 144).set j v))) := by rw [aS rfl _ _ hn, ms_set (by omega) hj]
theorem L145 (hj : j < (Al 145).length) (hn : j < 400) : (O2 L).2.2.2.2.2.1 (ms z f A Al) 0 145 (nI j) = some (nI ((Al 145).getD j 0)) := by rw [aL rfl rfl _ hn, ms_load (by omega) hj]
theorem A145 (v : Nat) (hj : (Al 145).length = j) (hn : j < 400) : (O2 L).2.2.2.2.2.2.1 (ms z f A Al) 0 145 (nI j) (nI v) = some (ms z f A (va_up Al 145 (Al 145 ++ [v]))) := by rw [aS rfl _ _ hn, ms_app (by omega) hj]
theorem U145 (v : Nat) (hj : j < (Al 145).length) (hn : j < 400) : (O2 L).2.2.2.2.2.2.1 (ms z f A Al) 0 145 (nI j) (nI v) = some (ms z f A (va_up Al 145 ((Al 145).set j v))) := by rw [aS rfl _ _ hn, ms_set (by omega) hj]
theorem L146 (hj : j < (Al 146).length) (hn : j < 400) : (O2 L).2.2.2.2.2.1 (ms z f A Al) 1 146 (nI j) = some (nI ((Al 146).getD j 0)) := by rw [aL rfl rfl _ hn, ms_load (by omega) hj]
theorem A146 (v : Nat) (hj : (Al 146).length = j) (hn : j < 400) : (O2 L).2.2.2.2.2.2.1 (ms z f A Al) 1 146 (nI j) (nI v) = some (ms z f A (va_up Al 146 (Al 146 ++ [v]))) := by rw [aS rfl _ _ hn, ms_app (by omega) hj]
theorem U146 (v : Nat) (hj : j < (Al 146).length) (hn : j < 400) : (O2 L).2.2.2.2.2.2.1 (ms z f A Al) 1 146 (nI j) (nI v) = some (ms z f A (va_up Al 146 ((Al 146).set j v))) := by rw [aS rfl _ _ hn, ms_set (by omega) hj]
theorem L147 (hj : j < (Al 147).length) (hn : j < 300) : (O2 L).2.2.2.2.2.1 (ms z f A Al) 0 147 (nI j) = some (nI ((Al 147).getD j 0)) := by rw [aL rfl rfl _ hn, ms_load (by omega) hj]
theorem A147 (v : Nat) (hj : (Al 147).length = j) (hn : j < 300) : (O2 L).2.2.2.2.2.2.1 (ms z f A Al) 0 147 (nI j) (nI v) = some (ms z f A (va_up Al 147 (Al 147 ++ [v]))) := by rw [aS rfl _ _ hn, ms_app (by omega) hj]
theorem U147 (v : Nat) (hj : j < (Al 147).length) (hn : j < 300) : (O2 L).2.2.2.2.2.2.1 (ms z f A Al) 0 147 (nI j) (nI v) = some (ms z f A (va_up Al 147 ((Al 147).set j v))) := by rw [aS rfl _ _ hn, ms_set (by omega) hj]
theorem L148 (hj : j < (Al 148).length) (hn : j < 300) : (O2 L).2.2.2.2.2.1 (ms z f A Al) 0 148 (nI j) = some (nI ((Al 148).getD j 0)) := by rw [aL rfl rfl _ hn, ms_load (by omega) hj]
theorem A148 (v : Nat) (hj : (Al 148).length = j) (hn : j < 300) : (O2 L).2.2.2.2.2.2.1 (ms z f A Al) 0 148 (nI j) (nI v) = some (ms z f A (va_up Al 148 (Al 148 ++ [v]))) := by rw [aS rfl _ _ hn, ms_app (by omega) hj]
theorem U148 (v : Nat) (hj : j < (Al 148).length) (hn : j < 300) : (O2 L).2.2.2.2.2.2.1 (ms z f A Al) 0 148 (nI j) (nI v) = some (ms z f A (va_up Al 148 ((Al 148).set j v))) := by rw [aS rfl _ _ hn, ms_set (by omega) hj]
theorem L149 (hj : j < (Al 149).length) (hn : j < 300) : (O2 L).2.2.2.2.2.1 (ms z f A Al) 0 149 (nI j) = some (nI ((Al 149).getD j 0)) := by rw [aL rfl rfl _ hn, ms_load (by omega) hj]
theorem A149 (v : Nat) (hj : (Al 149).length = j) (hn : j < 300) : (O2 L).2.2.2.2.2.2.1 (ms z f A Al) 0 149 (nI j) (nI v) = some (ms z f A (va_up Al 149 (Al 149 ++ [v]))) := by rw [aS rfl _ _ hn, ms_app (by omega) hj]
theorem U149 (v : Nat) (hj : j < (Al 149).length) (hn : j < 300) : (O2 L).2.2.2.2.2.2.1 (ms z f A Al) 0 149 (nI j) (nI v) = some (ms z f A (va_up Al 149 ((Al 149).set j v))) := by rw [aS rfl _ _ hn, ms_set (by omega) hj]
theorem L150 (hj : j < (Al 150).length) (hn : j < 300) : (O2 L).2.2.2.2.2.1 (ms z f A Al) 0 150 (nI j) = some (nI ((Al 150).getD j 0)) := by rw [aL rfl rfl _ hn, ms_load (by omega) hj]
theorem A150 (v : Nat) (hj : (Al 150).length = j) (hn : j < 300) : (O2 L).2.2.2.2.2.2.1 (ms z f A Al) 0 150 (nI j) (nI v) = some (ms z f A (va_up Al 150 (Al 150 ++ [v]))) := by rw [aS rfl _ _ hn, ms_app (by omega) hj]
theorem U150 (v : Nat) (hj : j < (Al 150).length) (hn : j < 300) : (O2 L).2.2.2.2.2.2.1 (ms z f A Al) 0 150 (nI j) (nI v) = some (ms z f A (va_up Al 150 ((Al 150).set j v))) := by rw [aS rfl _ _ hn, ms_set (by omega) hj]
theorem L151 (hj : j < (Al 151).length) (hn : j < 301) : (O2 L).2.2.2.2.2.1 (ms z f A Al) 0 151 (nI j) = some (nI ((Al 151).getD j 0)) := by rw [aL rfl rfl _ hn, ms_load (by omega) hj]
theorem A151 (v : Nat) (hj : (Al 151).length = j) (hn : j < 301) : (O2 L).2.2.2.2.2.2.1 (ms z f A Al) 0 151 (nI j) (nI v) = some (ms z f A (va_up Al 151 (Al 151 ++ [v]))) := by rw [aS rfl _ _ hn, ms_app (by omega) hj]
theorem U151 (v : Nat) (hj : j < (Al 151).length) (hn : j < 301) : (O2 L).2.2.2.2.2.2.1 (ms z f A Al) 0 151 (nI j) (nI v) = some (ms z f A (va_up Al 151 ((Al 151).set j v))) := by rw [aS rfl _ _ hn, ms_set (by omega) hj]
theorem L152 (hj : j < (Al 152).length) (hn : j < 12) : (O2 L).2.2.2.2.2.1 (ms z f A Al) 0 152 (nI j) = some (nI ((Al 152).getD j 0)) := by rw [aL rfl rfl _ hn, ms_load (by omega) hj]
theorem A152 (v : Nat) (hj : (Al 152).length = j) (hn : j < 12) : (O2 L).2.2.2.2.2.2.1 (ms z f A Al) 0 152 (nI j) (nI v) = some (ms z f A (va_up Al 152 (Al 152 ++ [v]))) := by rw [aS rfl _ _ hn, ms_app (by omega) hj]
theorem U152 (v : Nat) (hj : j < (Al 152).length) (hn : j < 12) : (O2 L).2.2.2.2.2.2.1 (ms z f A Al) 0 152 (nI j) (nI v) = some (ms z f A (va_up Al 152 ((Al 152).set j v))) := by rw [aS rfl _ _ hn, ms_set (by omega) hj]
theorem L153 (hj : j < (Al 153).length) (hn : j < 12) : (O2 L).2.2.2.2.2.1 (ms z f A Al) 0 153 (nI j) = some (nI ((Al 153).getD j 0)) := by rw [aL rfl rfl _ hn, ms_load (by omega) hj]
theorem A153 (v : Nat) (hj : (Al 153).length = j) (hn : j < 12) : (O2 L).2.2.2.2.2.2.1 (ms z f A Al) 0 153 (nI j) (nI v) = some (ms z f A (va_up Al 153 (Al 153 ++ [v]))) := by rw [aS rfl _ _ hn, ms_app (by omega) hj]
theorem U153 (v : Nat) (hj : j < (Al 153).length) (hn : j < 12) : (O2 L).2.2.2.2.2.2.1 (ms z f A Al) 0 153 (nI j) (nI v) = some (ms z f A (va_up Al 153 ((Al 153).set j v))) := by rw [aS rfl _ _ hn, ms_set (by omega) hj]
theorem L154 (hj : j < (Al 154).length) (hn : j < 12) : (O2 L).2.2.2.2.2.1 (ms z f A Al) 0 154 (nI j) = some (nI ((Al 154).getD j 0)) := by rw [aL rfl rfl _ hn, ms_load (by omega) hj]
theorem A154 (v : Nat) (hj : (Al 154).length = j) (hn : j < 12) : (O2 L).2.2.2.2.2.2.1 (ms z f A Al) 0 154 (nI j) (nI v) = some (ms z f A (va_up Al 154 (Al 154 ++ [v]))) := by rw [aS rfl _ _ hn, ms_app (by omega) hj]
theorem U154 (v : Nat) (hj : j < (Al 154).length) (hn : j < 12) : (O2 L).2.2.2.2.2.2.1 (ms z f A Al) 0 154 (nI j) (nI v) = some (ms z f A (va_up Al 154 ((Al 154).set j v))) := by rw [aS rfl _ _ hn, ms_set (by omega) hj]
theorem L155 (hj : j < (Al 155).length) (hn : j < 80) : (O2 L).2.2.2.2.2.1 (ms z f A Al) 0 155 (nI j) = some (nI ((Al 155).getD j 0)) := by rw [aL rfl rfl _ hn, ms_load (by omega) hj]
theorem A155 (v : Nat) (hj : (Al 155).length = j) (hn : j < 80) : (O2 L).2.2.2.2.2.2.1 (ms z f A Al) 0 155 (nI j) (nI v) = some (ms z f A (va_up Al 155 (Al 155 ++ [v]))) := by rw [aS rfl _ _ hn, ms_app (by omega) hj]
theorem U155 (v : Nat) (hj : j < (Al 155).length) (hn : j < 80) : (O2 L).2.2.2.2.2.2.1 (ms z f A Al) 0 155 (nI j) (nI v) = some (ms z f A (va_up Al 155 ((Al 155).set j v))) := by rw [aS rfl _ _ hn, ms_set (by omega) hj]
theorem L156 (hj : j < (Al 156).length) (hn : j < 80) : (O2 L).2.2.2.2.2.1 (ms z f A Al) 0 156 (nI j) = some (nI ((Al 156).getD j 0)) := by rw [aL rfl rfl _ hn, ms_load (by omega) hj]
theorem A156 (v : Nat) (hj : (Al 156).length = j) (hn : j < 80) : (O2 L).2.2.2.2.2.2.1 (ms z f A Al) 0 156 (nI j) (nI v) = some (ms z f A (va_up Al 156 (Al 156 ++ [v]))) := by rw [aS rfl _ _ hn, ms_app (by omega) hj]
theorem U156 (v : Nat) (hj : j < (Al 156).length) (hn : j < 80) : (O2 L).2.2.2.2.2.2.1 (ms z f A Al) 0 156 (nI j) (nI v) = some (ms z f A (va_up Al 156 ((Al 156).set j v))) := by rw [aS rfl _ _ hn, ms_set (by omega) hj]
theorem L157 (hj : j < (Al 157).length) (hn : j < 80) : (O2 L).2.2.2.2.2.1 (ms z f A Al) 0 157 (nI j) = some (nI ((Al 157).getD j 0)) := by rw [aL rfl rfl _ hn, ms_load (by omega) hj]
theorem A157 (v : Nat) (hj : (Al 157).length = j) (hn : j < 80) : (O2 L).2.2.2.2.2.2.1 (ms z f A Al) 0 157 (nI j) (nI v) = some (ms z f A (va_up Al 157 (Al 157 ++ [v]))) := by rw [aS rfl _ _ hn, ms_app (by omega) hj]
theorem U157 (v : Nat) (hj : j < (Al 157).length) (hn : j < 80) : (O2 L).2.2.2.2.2.2.1 (ms z f A Al) 0 157 (nI j) (nI v) = some (ms z f A (va_up Al 157 ((Al 157).set j v))) := by rw [aS rfl _ _ hn, ms_set (by omega) hj]
theorem L158 (hj : j < (Al 158).length) (hn : j < 1000) : (O2 L).2.2.2.2.2.1 (ms z f A Al) 0 158 (nI j) = some (nI ((Al 158).getD j 0)) := by rw [aL rfl rfl _ hn, ms_load (by omega) hj]
theorem A158 (v : Nat) (hj : (Al 158).length = j) (hn : j < 1000) : (O2 L).2.2.2.2.2.2.1 (ms z f A Al) 0 158 (nI j) (nI v) = some (ms z f A (va_up Al 158 (Al 158 ++ [v]))) := by rw [aS rfl _ _ hn, ms_app (by omega) hj]
theorem U158 (v : Nat) (hj : j < (Al 158).length) (hn : j < 1000) : (O2 L).2.2.2.2.2.2.1 (ms z f A Al) 0 158 (nI j) (nI v) = some (ms z f A (va_up Al 158 ((Al 158).set j v))) := by rw [aS rfl _ _ hn, ms_set (by omega) hj]
theorem L159 (hj : j < (Al 159).length) (hn : j < 200) : (O2 L).2.2.2.2.2.1 (ms z f A Al) 0 159 (nI j) = some (nI ((Al 159).getD j 0)) := by rw [aL rfl rfl _ hn, ms_load (by omega) hj]
theorem A159 (v : Nat) (hj : (Al 159).length = j) (hn : j < 200) : (O2 L).2.2.2.2.2.2.1 (ms z f A Al) 0 159 (nI j) (nI v) = some (ms z f A (va_up Al 159 (Al 159 ++ [v]))) := by rw [aS rfl _ _ hn, ms_app (by omega) hj]
theorem U159 (v : Nat) (hj : j < (Al 159).length) (hn : j < 200) : (O2 L).2.2.2.2.2.2.1 (ms z f A Al) 0 159 (nI j) (nI v) = some (ms z f A (va_up Al 159 ((Al 159).set j v))) := by rw [aS rfl _ _ hn, ms_set (by omega) hj]
theorem L160 (hj : j < (Al 160).length) (hn : j < 200) : (O2 L).2.2.2.2.2.1 (ms z f A Al) 0 160 (nI j) = some (nI ((Al 160).getD j 0)) := by rw [aL rfl rfl _ hn, ms_load (by omega) hj]
theorem A160 (v : Nat) (hj : (Al 160).length = j) (hn : j < 200) : (O2 L).2.2.2.2.2.2.1 (ms z f A Al) 0 160 (nI j) (nI v) = some (ms z f A (va_up Al 160 (Al 160 ++ [v]))) := by rw [aS rfl _ _ hn, ms_app (by omega) hj]
theorem U160 (v : Nat) (hj : j < (Al 160).length) (hn : j < 200) : (O2 L).2.2.2.2.2.2.1 (ms z f A Al) 0 160 (nI j) (nI v) = some (ms z f A (va_up Al 160 ((Al 160).set j v))) := by rw [aS rfl _ _ hn, ms_set (by omega) hj]
theorem L161 (hj : j < (Al 161).length) (hn : j < 200) : (O2 L).2.2.2.2.2.1 (ms z f A Al) 0 161 (nI j) = some (nI ((Al 161).getD j 0)) := by rw [aL rfl rfl _ hn, ms_load (by omega) hj]
theorem A161 (v : Nat) (hj : (Al 161).length = j) (hn : j < 200) : (O2 L).2.2.2.2.2.2.1 (ms z f A Al) 0 161 (nI j) (nI v) = some (ms z f A (va_up Al 161 (Al 161 ++ [v]))) := by rw [aS rfl _ _ hn, ms_app (by omega) hj]
theorem U161 (v : Nat) (hj : j < (Al 161).length) (hn : j < 200) : (O2 L).2.2.2.2.2.2.1 (ms z f A Al) 0 161 (nI j) (nI v) = some (ms z f A (va_up Al 161 ((Al 161).set j v))) := by rw [aS rfl _ _ hn, ms_set (by omega) hj]
theorem L162 (hj : j < (Al 162).length) (hn : j < 200) : (O2 L).2.2.2.2.2.1 (ms z f A Al) 1 162 (nI j) = some (nI ((Al 162).getD j 0)) := by rw [aL rfl rfl _ hn, ms_load (by omega) hj]
theorem A162 (v : Nat) (hj : (Al 162).length = j) (hn : j < 200) : (O2 L).2.2.2.2.2.2.1 (ms z f A Al) 1 162 (nI j) (nI v) = some (ms z f A (va_up Al 162 (Al 162 ++ [v]))) := by rw [aS rfl _ _ hn, ms_app (by omega) hj]
theorem U162 (v : Nat) (hj : j < (Al 162).length) (hn : j < 200) : (O2 L).2.2.2.2.2.2.1 (ms z f A Al) 1 162 (nI j) (nI v) = some (ms z f A (va_up Al 162 ((Al 162).set j v))) := by rw [aS rfl _ _ hn, ms_set (by omega) hj]
theorem L163 (hj : j < (Al 163).length) (hn : j < 200) : (O2 L).2.2.2.2.2.1 (ms z f A Al) 1 163 (nI j) = some (nI ((Al 163).getD j 0)) := by rw [aL rfl rfl _ hn, ms_load (by omega) hj]
theorem A163 (v : Nat) (hj : (Al 163).length = j) (hn : j < 200) : (O2 L).2.2.2.2.2.2.1 (ms z f A Al) 1 163 (nI j) (nI v) = some (ms z f A (va_up Al 163 (Al 163 ++ [v]))) := by rw [aS rfl _ _ hn, ms_app (by omega) hj]
theorem U163 (v : Nat) (hj : j < (Al 163).length) (hn : j < 200) : (O2 L).2.2.2.2.2.2.1 (ms z f A Al) 1 163 (nI j) (nI v) = some (ms z f A (va_up Al 163 ((Al 163).set j v))) := by rw [aS rfl _ _ hn, ms_set (by omega) hj]
theorem L164 (hj : j < (Al 164).length) (hn : j < 12) : (O2 L).2.2.2.2.2.1 (ms z f A Al) 1 164 (nI j) = some (nI ((Al 164).getD j 0)) := by rw [aL rfl rfl _ hn, ms_load (by omega) hj]
theorem A164 (v : Nat) (hj : (Al 164).length = j) (hn : j < 12) : (O2 L).2.2.2.2.2.2.1 (ms z f A Al) 1 164 (nI j) (nI v) = some (ms z f A (va_up Al 164 (Al 164 ++ [v]))) := by rw [aS rfl _ _ hn, ms_app (by omega) hj]
theorem U164 (v : Nat) (hj : j < (Al 164).length) (hn : j < 12) : (O2 L).2.2.2.2.2.2.1 (ms z f A Al) 1 164 (nI j) (nI v) = some (ms z f A (va_up Al 164 ((Al 164).set j v))) := by rw [aS rfl _ _ hn, ms_set (by omega) hj]
theorem L165 (hj : j < (Al 165).length) (hn : j < 12) : (O2 L).2.2.2.2.2.1 (ms z f A Al) 1 165 (nI j) = some (nI ((Al 165).getD j 0)) := by rw [aL rfl rfl _ hn, ms_load (by omega) hj]
theorem A165 (v : Nat) (hj : (Al 165).length = j) (hn : j < 12) : (O2 L).2.2.2.2.2.2.1 (ms z f A Al) 1 165 (nI j) (nI v) = some (ms z f A (va_up Al 165 (Al 165 ++ [v]))) := by rw [aS rfl _ _ hn, ms_app (by omega) hj]
theorem U165 (v : Nat) (hj : j < (Al 165).length) (hn : j < 12) : (O2 L).2.2.2.2.2.2.1 (ms z f A Al) 1 165 (nI j) (nI v) = some (ms z f A (va_up Al 165 ((Al 165).set j v))) := by rw [aS rfl _ _ hn, ms_set (by omega) hj]
theorem L166 (hj : j < (Al 166).length) (hn : j < 12) : (O2 L).2.2.2.2.2.1 (ms z f A Al) 0 166 (nI j) = some (nI ((Al 166).getD j 0)) := by rw [aL rfl rfl _ hn, ms_load (by omega) hj]
theorem A166 (v : Nat) (hj : (Al 166).length = j) (hn : j < 12) : (O2 L).2.2.2.2.2.2.1 (ms z f A Al) 0 166 (nI j) (nI v) = some (ms z f A (va_up Al 166 (Al 166 ++ [v]))) := by rw [aS rfl _ _ hn, ms_app (by omega) hj]
theorem U166 (v : Nat) (hj : j < (Al 166).length) (hn : j < 12) : (O2 L).2.2.2.2.2.2.1 (ms z f A Al) 0 166 (nI j) (nI v) = some (ms z f A (va_up Al 166 ((Al 166).set j v))) := by rw [aS rfl _ _ hn, ms_set (by omega) hj]
theorem L167 (hj : j < (Al 167).length) (hn : j < 3600) : (O2 L).2.2.2.2.2.1 (ms z f A Al) 1 167 (nI j) = some (nI ((Al 167).getD j 0)) := by rw [aL rfl rfl _ hn, ms_load (by omega) hj]
theorem A167 (v : Nat) (hj : (Al 167).length = j) (hn : j < 3600) : (O2 L).2.2.2.2.2.2.1 (ms z f A Al) 1 167 (nI j) (nI v) = some (ms z f A (va_up Al 167 (Al 167 ++ [v]))) := by rw [aS rfl _ _ hn, ms_app (by omega) hj]
theorem U167 (v : Nat) (hj : j < (Al 167).length) (hn : j < 3600) : (O2 L).2.2.2.2.2.2.1 (ms z f A Al) 1 167 (nI j) (nI v) = some (ms z f A (va_up Al 167 ((Al 167).set j v))) := by rw [aS rfl _ _ hn, ms_set (by omega) hj]
theorem L168 (hj : j < (Al 168).length) (hn : j < 300) : (O2 L).2.2.2.2.2.1 (ms z f A Al) 1 168 (nI j) = some (nI ((Al 168).getD j 0)) := by rw [aL rfl rfl _ hn, ms_load (by omega) hj]
theorem A168 (v : Nat) (hj : (Al 168).length = j) (hn : j < 300) : (O2 L).2.2.2.2.2.2.1 (ms z f A Al) 1 168 (nI j) (nI v) = some (ms z f A (va_up Al 168 (Al 168 ++ [v]))) := by rw [aS rfl _ _ hn, ms_app (by omega) hj]
theorem U168 (v : Nat) (hj : j < (Al 168).length) (hn : j < 300) : (O2 L).2.2.2.2.2.2.1 (ms z f A Al) 1 168 (nI j) (nI v) = some (ms z f A (va_up Al 168 ((Al 168).set j v))) := by rw [aS rfl _ _ hn, ms_set (by omega) hj]
theorem L169 (hj : j < (Al 169).length) (hn : j < 300) : (O2 L).2.2.2.2.2.1 (ms z f A Al) 1 169 (nI j) = some (nI ((Al 169).getD j 0)) := by rw [aL rfl rfl _ hn, ms_load (by omega) hj]
theorem A169 (v : Nat) (hj : (Al 169).length = j) (hn : j < 300) : (O2 L).2.2.2.2.2.2.1 (ms z f A Al) 1 169 (nI j) (nI v) = some (ms z f A (va_up Al 169 (Al 169 ++ [v]))) := by rw [aS rfl _ _ hn, ms_app (by omega) hj]
theorem U169 (v : Nat) (hj : j < (Al 169).length) (hn : j < 300) : (O2 L).2.2.2.2.2.2.1 (ms z f A Al) 1 169 (nI j) (nI v) = some (ms z f A (va_up Al 169 ((Al 169).set j v))) := by rw [aS rfl _ _ hn, ms_set (by omega) hj]
theorem L170 (hj : j < (Al 170).length) (hn : j < 300) : (O2 L).2.2.2.2.2.1 (ms z f A Al) 0 170 (nI j) = some (nI ((Al 170).getD j 0)) := by rw [aL rfl rfl _ hn, ms_load (by omega) hj]
theorem A170 (v : Nat) (hj : (Al 170).length = j) (hn : j < 300) : (O2 L).2.2.2.2.2.2.1 (ms z f A Al) 0 170 (nI j) (nI v) = some (ms z f A (va_up Al 170 (Al 170 ++ [v]))) := by rw [aS rfl _ _ hn, ms_app (by omega) hj]
theorem U170 (v : Nat) (hj : j < (Al 170).length) (hn : j < 300) : (O2 L).2.2.2.2.2.2.1 (ms z f A Al) 0 170 (nI j) (nI v) = some (ms z f A (va_up Al 170 ((Al 170).set j v))) := by rw [aS rfl _ _ hn, ms_set (by omega) hj]
theorem L171 (hj : j < (Al 171).length) (hn : j < 300) : (O2 L).2.2.2.2.2.1 (ms z f A Al) 0 171 (nI j) = some (nI ((Al 171).getD j 0)) := by rw [aL rfl rfl _ hn, ms_load (by omega) hj]
theorem A171 (v : Nat) (hj : (Al 171).length = j) (hn : j < 300) : (O2 L).2.2.2.2.2.2.1 (ms z f A Al) 0 171 (nI j) (nI v) = some (ms z f A (va_up Al 171 (Al 171 ++ [v]))) := by rw [aS rfl _ _ hn, ms_app (by omega) hj]
theorem U171 (v : Nat) (hj : j < (Al 171).length) (hn : j < 300) : (O2 L).2.2.2.2.2.2.1 (ms z f A Al) 0 171 (nI j) (nI v) = some (ms z f A (va_up Al 171 ((Al 171).set j v))) := by rw [aS rfl _ _ hn, ms_set (by omega) hj]
theorem L172 (hj : j < (Al 172).length) (hn : j < 6000) : (O2 L).2.2.2.2.2.1 (ms z f A Al) 0 172 (nI j) = some (nI ((Al 172).getD j 0)) := by rw [aL rfl rfl _ hn, ms_load (by omega) hj]
theorem A172 (v : Nat) (hj : (Al 172).length = j) (hn : j < 6000) : (O2 L).2.2.2.2.2.2.1 (ms z f A Al) 0 172 (nI j) (nI v) = some (ms z f A (va_up Al 172 (Al 172 ++ [v]))) := by rw [aS rfl _ _ hn, ms_app (by omega) hj]
theorem U172 (v : Nat) (hj : j < (Al 172).length) (hn : j < 6000) : (O2 L).2.2.2.2.2.2.1 (ms z f A Al) 0 172 (nI j) (nI v) = some (ms z f A (va_up Al 172 ((Al 172).set j v))) := by rw [aS rfl _ _ hn, ms_set (by omega) hj]
theorem L173 (hj : j < (Al 173).length) (hn : j < 9) : (O2 L).2.2.2.2.2.1 (ms z f A Al) 0 173 (nI j) = some (nI ((Al 173).getD j 0)) := by rw [aL rfl rfl _ hn, ms_load (by omega) hj]
theorem A173 (v : Nat) (hj : (Al 173).length = j) (hn : j < 9) : (O2 L).2.2.2.2.2.2.1 (ms z f A Al) 0 173 (nI j) (nI v) = some (ms z f A (va_up Al 173 (Al 173 ++ [v]))) := by rw [aS rfl _ _ hn, ms_app (by omega) hj]
theorem U173 (v : Nat) (hj : j < (Al 173).length) (hn : j < 9) : (O2 L).2.2.2.2.2.2.1 (ms z f A Al) 0 173 (nI j) (nI v) = some (ms z f A (va_up Al 173 ((Al 173).set j v))) := by rw [aS rfl _ _ hn, ms_set (by omega) hj]
theorem L174 (hj : j < (Al 174).length) (hn : j < 9) : (O2 L).2.2.2.2.2.1 (ms z f A Al) 0 174 (nI j) = some (nI ((Al 174).getD j 0)) := by rw [aL rfl rfl _ hn, ms_load (by omega) hj]
theorem A174 (v : Nat) (hj : (Al 174).length = j) (hn : j < 9) : (O2 L).2.2.2.2.2.2.1 (ms z f A Al) 0 174 (nI j) (nI v) = some (ms z f A (va_up Al 174 (Al 174 ++ [v]))) := by rw [aS rfl _ _ hn, ms_app (by omega) hj]
theorem U174 (v : Nat) (hj : j < (Al 174).length) (hn : j < 9) : (O2 L).2.2.2.2.2.2.1 (ms z f A Al) 0 174 (nI j) (nI v) = some (ms z f A (va_up Al 174 ((Al 174).set j v))) := by rw [aS rfl _ _ hn, ms_set (by omega) hj]
theorem L175 (hj : j < (Al 175).length) (hn : j < 12) : (O2 L).2.2.2.2.2.1 (ms z f A Al) 0 175 (nI j) = some (nI ((Al 175).getD j 0)) := by rw [aL rfl rfl _ hn, ms_load (by omega) hj]
theorem A175 (v : Nat) (hj : (Al 175).length = j) (hn : j < 12) : (O2 L).2.2.2.2.2.2.1 (ms z f A Al) 0 175 (nI j) (nI v) = some (ms z f A (va_up Al 175 (Al 175 ++ [v]))) := by rw [aS rfl _ _ hn, ms_app (by omega) hj]
theorem U175 (v : Nat) (hj : j < (Al 175).length) (hn : j < 12) : (O2 L).2.2.2.2.2.2.1 (ms z f A Al) 0 175 (nI j) (nI v) = some (ms z f A (va_up Al 175 ((Al 175).set j v))) := by rw [aS rfl _ _ hn, ms_set (by omega) hj]
theorem L176 (hj : j < (Al 176).length) (hn : j < 12) : (O2 L).2.2.2.2.2.1 (ms z f A Al) 0 176 (nI j) = some (nI ((Al 176).getD j 0)) := by rw [aL rfl rfl _ hn, ms_load (by omega) hj]
theorem A176 (v : Nat) (hj : (Al 176).length = j) (hn : j < 12) : (O2 L).2.2.2.2.2.2.1 (ms z f A Al) 0 176 (nI j) (nI v) = some (ms z f A (va_up Al 176 (Al 176 ++ [v]))) := by rw [aS rfl _ _ hn, ms_app (by omega) hj]
theorem U176 (v : Nat) (hj : j < (Al 176).length) (hn : j < 12) : (O2 L).2.2.2.2.2.2.1 (ms z f A Al) 0 176 (nI j) (nI v) = some (ms z f A (va_up Al 176 ((Al 176).set j v))) := by rw [aS rfl _ _ hn, ms_set (by omega) hj]
theorem L177 (hj : j < (Al 177).length) (hn : j < 12) : (O2 L).2.2.2.2.2.1 (ms z f A Al) 0 177 (nI j) = some (nI ((Al 177).getD j 0)) := by rw [aL rfl rfl _ hn, ms_load (by omega) hj]
theorem A177 (v : Nat) (hj : (Al 177).length = j) (hn : j < 12) : (O2 L).2.2.2.2.2.2.1 (ms z f A Al) 0 177 (nI j) (nI v) = some (ms z f A (va_up Al 177 (Al 177 ++ [v]))) := by rw [aS rfl _ _ hn, ms_app (by omega) hj]
theorem U177 (v : Nat) (hj : j < (Al 177).length) (hn : j < 12) : (O2 L).2.2.2.2.2.2.1 (ms z f A Al) 0 177 (nI j) (nI v) = some (ms z f A (va_up Al 177 ((Al 177).set j v))) := by rw [aS rfl _ _ hn, ms_set (by omega) hj]
theorem L178 (hj : j < (Al 178).length) (hn : j < 80) : (O2 L).2.2.2.2.2.1 (ms z f A Al) 0 178 (nI j) = some (nI ((Al 178).getD j 0)) := by rw [aL rfl rfl _ hn, ms_load (by omega) hj]
theorem A178 (v : Nat) (hj : (Al 178).length = j) (hn : j < 80) : (O2 L).2.2.2.2.2.2.1 (ms z f A Al) 0 178 (nI j) (nI v) = some (ms z f A (va_up Al 178 (Al 178 ++ [v]))) := by rw [aS rfl _ _ hn, ms_app (by omega) hj]
theorem U178 (v : Nat) (hj : j < (Al 178).length) (hn : j < 80) : (O2 L).2.2.2.2.2.2.1 (ms z f A Al) 0 178 (nI j) (nI v) = some (ms z f A (va_up Al 178 ((Al 178).set j v))) := by rw [aS rfl _ _ hn, ms_set (by omega) hj]
theorem L179 (hj : j < (Al 179).length) (hn : j < 80) : (O2 L).2.2.2.2.2.1 (ms z f A Al) 0 179 (nI j) = some (nI ((Al 179).getD j 0)) := by rw [aL rfl rfl _ hn, ms_load (by omega) hj]
theorem A179 (v : Nat) (hj : (Al 179).length = j) (hn : j < 80) : (O2 L).2.2.2.2.2.2.1 (ms z f A Al) 0 179 (nI j) (nI v) = some (ms z f A (va_up Al 179 (Al 179 ++ [v]))) := by rw [aS rfl _ _ hn, ms_app (by omega) hj]
theorem U179 (v : Nat) (hj : j < (Al 179).length) (hn : j < 80) : (O2 L).2.2.2.2.2.2.1 (ms z f A Al) 0 179 (nI j) (nI v) = some (ms z f A (va_up Al 179 ((Al 179).set j v))) := by rw [aS rfl _ _ hn, ms_set (by omega) hj]
theorem L180 (hj : j < (Al 180).length) (hn : j < 80) : (O2 L).2.2.2.2.2.1 (ms z f A Al) 0 180 (nI j) = some (nI ((Al 180).getD j 0)) := by rw [aL rfl rfl _ hn, ms_load (by omega) hj]
theorem A180 (v : Nat) (hj : (Al 180).length = j) (hn : j < 80) : (O2 L).2.2.2.2.2.2.1 (ms z f A Al) 0 180 (nI j) (nI v) = some (ms z f A (va_up Al 180 (Al 180 ++ [v]))) := by rw [aS rfl _ _ hn, ms_app (by omega) hj]
theorem U180 (v : Nat) (hj : j < (Al 180).length) (hn : j < 80) : (O2 L).2.2.2.2.2.2.1 (ms z f A Al) 0 180 (nI j) (nI v) = some (ms z f A (va_up Al 180 ((Al 180).set j v))) := by rw [aS rfl _ _ hn, ms_set (by omega) hj]
theorem L181 (hj : j < (Al 181).length) (hn : j < 200) : (O2 L).2.2.2.2.2.1 (ms z f A Al) 0 181 (nI j) = some (nI ((Al 181).getD j 0)) := by rw [aL rfl rfl _ hn, ms_load (by omega) hj]
theorem A181 (v : Nat) (hj : (Al 181).length = j) (hn : j < 200) : (O2 L).2.2.2.2.2.2.1 (ms z f A Al) 0 181 (nI j) (nI v) = some (ms z f A (va_up Al 181 (Al 181 ++ [v]))) := by rw [aS rfl _ _ hn, ms_app (by omega) hj]
theorem U181 (v : Nat) (hj : j < (Al 181).length) (hn : j < 200) : (O2 L).2.2.2.2.2.2.1 (ms z f A Al) 0 181 (nI j) (nI v) = some (ms z f A (va_up Al 181 ((Al 181).set j v))) := by rw [aS rfl _ _ hn, ms_set (by omega) hj]
theorem L182 (hj : j < (Al 182).length) (hn : j < 200) : (O2 L).2.2.2.2.2.1 (ms z f A Al) 0 182 (nI j) = some (nI ((Al 182).getD j 0)) := by rw [aL rfl rfl _ hn, ms_load (by omega) hj]
theorem A182 (v : Nat) (hj : (Al 182).length = j) (hn : j < 200) : (O2 L).2.2.2.2.2.2.1 (ms z f A Al) 0 182 (nI j) (nI v) = some (ms z f A (va_up Al 182 (Al 182 ++ [v]))) := by rw [aS rfl _ _ hn, ms_app (by omega) hj]
theorem U182 (v : Nat) (hj : j < (Al 182).length) (hn : j < 200) : (O2 L).2.2.2.2.2.2.1 (ms z f A Al) 0 182 (nI j) (nI v) = some (ms z f A (va_up Al 182 ((Al 182).set j v))) := by rw [aS rfl _ _ hn, ms_set (by omega) hj]
theorem L183 (hj : j < (Al 183).length) (hn : j < 200) : (O2 L).2.2.2.2.2.1 (ms z f A Al) 0 183 (nI j) = some (nI ((Al 183).getD j 0)) := by rw [aL rfl rfl _ hn, ms_load (by omega) hj]
theorem A183 (v : Nat) (hj : (Al 183).length = j) (hn : j < 200) : (O2 L).2.2.2.2.2.2.1 (ms z f A Al) 0 183 (nI j) (nI v) = some (ms z f A (va_up Al 183 (Al 183 ++ [v]))) := by rw [aS rfl _ _ hn, ms_app (by omega) hj]
theorem U183 (v : Nat) (hj : j < (Al 183).length) (hn : j < 200) : (O2 L).2.2.2.2.2.2.1 (ms z f A Al) 0 183 (nI j) (nI v) = some (ms z f A (va_up Al 183 ((Al 183).set j v))) := by rw [aS rfl _ _ hn, ms_set (by omega) hj]
theorem L184 (hj : j < (Al 184).length) (hn : j < 200) : (O2 L).2.2.2.2.2.1 (ms z f A Al) 0 184 (nI j) = some (nI ((Al 184).getD j 0)) := by rw [aL rfl rfl _ hn, ms_load (by omega) hj]
theorem A184 (v : Nat) (hj : (Al 184).length = j) (hn : j < 200) : (O2 L).2.2.2.2.2.2.1 (ms z f A Al) 0 184 (nI j) (nI v) = some (ms z f A (va_up Al 184 (Al 184 ++ [v]))) := by rw [aS rfl _ _ hn, ms_app (by omega) hj]
theorem U184 (v : Nat) (hj : j < (Al 184).length) (hn : j < 200) : (O2 L).2.2.2.2.2.2.1 (ms z f A Al) 0 184 (nI j) (nI v) = some (ms z f A (va_up Al 184 ((Al 184).set j v))) := by rw [aS rfl _ _ hn, ms_set (by omega) hj]
theorem L185 (hj : j < (Al 185).length) (hn : j < 200) : (O2 L).2.2.2.2.2.1 (ms z f A Al) 0 185 (nI j) = some (nI ((Al 185).getD j 0)) := by rw [aL rfl rfl _ hn, ms_load (by omega) hj]
theorem A185 (v : Nat) (hj : (Al 185).length = j) (hn : j < 200) : (O2 L).2.2.2.2.2.2.1 (ms z f A Al) 0 185 (nI j) (nI v) = some (ms z f A (va_up Al 185 (Al 185 ++ [v]))) := by rw [aS rfl _ _ hn, ms_app (by omega) hj]
theorem U185 (v : Nat) (hj : j < (Al 185).length) (hn : j < 200) : (O2 L).2.2.2.2.2.2.1 (ms z f A Al) 0 185 (nI j) (nI v) = some (ms z f A (va_up Al 185 ((Al 185).set j v))) := by rw [aS rfl _ _ hn, ms_set (by omega) hj]
theorem L186 (hj : j < (Al 186).length) (hn : j < 6) : (O2 L).2.2.2.2.2.1 (ms z f A Al) 0 186 (nI j) = some (nI ((Al 186).getD j 0)) := by rw [aL rfl rfl _ hn, ms_load (by omega) hj]
theorem A186 (v : Nat) (hj : (Al 186).length = j) (hn : j < 6) : (O2 L).2.2.2.2.2.2.1 (ms z f A Al) 0 186 (nI j) (nI v) = some (ms z f A (va_up Al 186 (Al 186 ++ [v]))) := by rw [aS rfl _ _ hn, ms_app (by omega) hj]
theorem U186 (v : Nat) (hj : j < (Al 186).length) (hn : j < 6) : (O2 L).2.2.2.2.2.2.1 (ms z f A Al) 0 186 (nI j) (nI v) = some (ms z f A (va_up Al 186 ((Al 186).set j v))) := by rw [aS rfl _ _ hn, ms_set (by omega) hj]
theorem L187 (hj : j < (Al 187).length) (hn : j < 6) : (O2 L).2.2.2.2.2.1 (ms z f A Al) 0 187 (nI j) = some (nI ((Al 187).getD j 0)) := by rw [aL rfl rfl _ hn, ms_load (by omega) hj]
theorem A187 (v : Nat) (hj : (Al 187).length = j) (hn : j < 6) : (O2 L).2.2.2.2.2.2.1 (ms z f A Al) 0 187 (nI j) (nI v) = some (ms z f A (va_up Al 187 (Al 187 ++ [v]))) := by rw [aS rfl _ _ hn, ms_app (by omega) hj]
theorem U187 (v : Nat) (hj : j < (Al 187).length) (hn : j < 6) : (O2 L).2.2.2.2.2.2.1 (ms z f A Al) 0 187 (nI j) (nI v) = some (ms z f A (va_up Al 187 ((Al 187).set j v))) := by rw [aS rfl _ _ hn, ms_set (by omega) hj]
theorem L188 (hj : j < (Al 188).length) (hn : j < 301) : (O2 L).2.2.2.2.2.1 (ms z f A Al) 1 188 (nI j) = some (nI ((Al 188).getD j 0)) := by rw [aL rfl rfl _ hn, ms_load (by omega) hj]
theorem A188 (v : Nat) (hj : (Al 188).length = j) (hn : j < 301) : (O2 L).2.2.2.2.2.2.1 (ms z f A Al) 1 188 (nI j) (nI v) = some (ms z f A (va_up Al 188 (Al 188 ++ [v]))) := by rw [aS rfl _ _ hn, ms_app (by omega) hj]
theorem U188 (v : Nat) (hj : j < (Al 188).length) (hn : j < 301) : (O2 L).2.2.2.2.2.2.1 (ms z f A Al) 1 188 (nI j) (nI v) = some (ms z f A (va_up Al 188 ((Al 188).set j v))) := by rw [aS rfl _ _ hn, ms_set (by omega) hj]
theorem L189 (hj : j < (Al 189).length) (hn : j < 9) : (O2 L).2.2.2.2.2.1 (ms z f A Al) 0 189 (nI j) = some (nI ((Al 189).getD j 0)) := by rw [aL rfl rfl _ hn, ms_load (by omega) hj]
theorem A189 (v : Nat) (hj : (Al 189).length = j) (hn : j < 9) : (O2 L).2.2.2.2.2.2.1 (ms z f A Al) 0 189 (nI j) (nI v) = some (ms z f A (va_up Al 189 (Al 189 ++ [v]))) := by rw [aS rfl _ _ hn, ms_app (by omega) hj]
theorem U189 (v : Nat) (hj : j < (Al 189).length) (hn : j < 9) : (O2 L).2.2.2.2.2.2.1 (ms z f A Al) 0 189 (nI j) (nI v) = some (ms z f A (va_up Al 189 ((Al 189).set j v))) := by rw [aS rfl _ _ hn, ms_set (by omega) hj]
end
